-- BridleBookModel.tree(I)I
theorem dX8_tree_0 : decode cX8_tree 0 = .ok (.iload_n 1, 1) := by decide +kernel
theorem dX8_tree_1 : decode cX8_tree 1 = .ok (.invokestatic 203, 3) := by decide +kernel
theorem dX8_tree_4 : decode cX8_tree 4 = .ok (.ifCond .ne 5, 3) := by decide +kernel
theorem dX8_tree_7 : decode cX8_tree 7 = .ok (.iconst (-1), 1) := by decide +kernel
theorem dX8_tree_8 : decode cX8_tree 8 = .ok (.ireturn, 1) := by decide +kernel
theorem dX8_tree_9 : decode cX8_tree 9 = .ok (.iconst 0, 1) := by decide +kernel
theorem dX8_tree_10 : decode cX8_tree 10 = .ok (.istore_n 2, 1) := by decide +kernel
theorem dX8_tree_11 : decode cX8_tree 11 = .ok (.iload_n 2, 1) := by decide +kernel
theorem dX8_tree_12 : decode cX8_tree 12 = .ok (.aload_n 0, 1) := by decide +kernel
theorem dX8_tree_13 : decode cX8_tree 13 = .ok (.getfield 209, 3) := by decide +kernel
theorem dX8_tree_16 : decode cX8_tree 16 = .ok (.if_icmp .ge 21, 3) := by decide +kernel
theorem dX8_tree_19 : decode cX8_tree 19 = .ok (.aload_n 0, 1) := by decide +kernel
theorem dX8_tree_20 : decode cX8_tree 20 = .ok (.getfield 96, 3) := by decide +kernel
theorem dX8_tree_23 : decode cX8_tree 23 = .ok (.iload_n 2, 1) := by decide +kernel
theorem dX8_tree_24 : decode cX8_tree 24 = .ok (.iaload, 1) := by decide +kernel
theorem dX8_tree_25 : decode cX8_tree 25 = .ok (.iload_n 1, 1) := by decide +kernel
theorem dX8_tree_26 : decode cX8_tree 26 = .ok (.if_icmp .ne 5, 3) := by decide +kernel
theorem dX8_tree_29 : decode cX8_tree 29 = .ok (.iconst (-1), 1) := by decide +kernel
theorem dX8_tree_30 : decode cX8_tree 30 = .ok (.ireturn, 1) := by decide +kernel
theorem dX8_tree_31 : decode cX8_tree 31 = .ok (.iinc 2 1, 3) := by decide +kernel
theorem dX8_tree_34 : decode cX8_tree 34 = .ok (.goto (-23), 3) := by decide +kernel
theorem dX8_tree_37 : decode cX8_tree 37 = .ok (.aload_n 0, 1) := by decide +kernel
theorem dX8_tree_38 : decode cX8_tree 38 = .ok (.getfield 209, 3) := by decide +kernel
theorem dX8_tree_41 : decode cX8_tree 41 = .ok (.bipush 20, 2) := by decide +kernel
theorem dX8_tree_43 : decode cX8_tree 43 = .ok (.if_icmp .ne 6, 3) := by decide +kernel
theorem dX8_tree_46 : decode cX8_tree 46 = .ok (.bipush (-3), 2) := by decide +kernel
theorem dX8_tree_48 : decode cX8_tree 48 = .ok (.ireturn, 1) := by decide +kernel
theorem dX8_tree_49 : decode cX8_tree 49 = .ok (.aload_n 0, 1) := by decide +kernel
theorem dX8_tree_50 : decode cX8_tree 50 = .ok (.getfield 96, 3) := by decide +kernel
theorem dX8_tree_53 : decode cX8_tree 53 = .ok (.aload_n 0, 1) := by decide +kernel
theorem dX8_tree_54 : decode cX8_tree 54 = .ok (.getfield 209, 3) := by decide +kernel
theorem dX8_tree_57 : decode cX8_tree 57 = .ok (.iload_n 1, 1) := by decide +kernel
theorem dX8_tree_58 : decode cX8_tree 58 = .ok (.iastore, 1) := by decide +kernel
theorem dX8_tree_59 : decode cX8_tree 59 = .ok (.aload_n 0, 1) := by decide +kernel
theorem dX8_tree_60 : decode cX8_tree 60 = .ok (.dup, 1) := by decide +kernel
theorem dX8_tree_61 : decode cX8_tree 61 = .ok (.getfield 209, 3) := by decide +kernel
theorem dX8_tree_64 : decode cX8_tree 64 = .ok (.iconst 1, 1) := by decide +kernel
theorem dX8_tree_65 : decode cX8_tree 65 = .ok (.iadd, 1) := by decide +kernel
theorem dX8_tree_66 : decode cX8_tree 66 = .ok (.putfield 209, 3) := by decide +kernel
theorem dX8_tree_69 : decode cX8_tree 69 = .ok (.aload_n 0, 1) := by decide +kernel
theorem dX8_tree_70 : decode cX8_tree 70 = .ok (.getfield 209, 3) := by decide +kernel
theorem dX8_tree_73 : decode cX8_tree 73 = .ok (.ireturn, 1) := by decide +kernel
def f_X8_tree_11 (z : Nat → Nat) : Nat → Mem → Int32 → Int32 → Option (Int32 × Mem)
  | 0, _, _, _ => none
  | fu + 1, M, x1, x2 => if (M 0 32) ≤ x2 then if (M 0 32) = 20 then some ((-3), M) else ck (inb (M 0 32) 20) (lt (mu (mu M 33 (Int32.toNatClampNeg (M 0 32)) x1) 0 32 (((mu M 33 (Int32.toNatClampNeg (M 0 32)) x1) 0 32) + 1)) (fun M2 => some ((M2 0 32), M2))) else ck (inb x2 20) (if (M 33 (Int32.toNatClampNeg x2)) = x1 then some ((-1), M) else f_X8_tree_11 z fu M x1 (x2 + 1))
theorem t_X8_tree_11 {K : KK} {a : AA} (S : Sx K RX8 cX8_tree 3 (rmD 2)) {r : Int32} {M' : Mem} (rt : RtI K a cX8_tree r M') : ∀ (fu : Nat) (M : Mem) (x1 : Int32) (x2 : Int32), f_X8_tree_11 a.1 fu M x1 x2 = some (r, M') → Go K 3 a M 11 [(0, .ref (a.2 0)), (1, .int x1), (2, .int x2)] [] := by
  intro fu
  induction fu with
  | zero => intro M x1 x2 hf; exact absurd hf (by simp [f_X8_tree_11])
  | succ fu ih =>
    intro M x1 x2 hf
    rw [f_X8_tree_11] at hf
    refine g_iload_n 2 S dX8_tree_11 rfl ?_
    refine g_aload_n 0 S dX8_tree_12 rfl ?_
    refine g_get (v := .int (M 0 32)) S ob_0 rfl gi_X8 (by decide) lf_X8_209 rfl dX8_tree_13 ?_
    refine g_icmp_ge (tgt := 37) S dX8_tree_16 (by decide) hf (fun c hf => ?_) (fun c hf => ?_)
    · refine g_aload_n 0 S dX8_tree_37 rfl ?_
      refine g_get (v := .int (M 0 32)) S ob_0 rfl gi_X8 (by decide) lf_X8_209 rfl dX8_tree_38 ?_
      refine g_bipush (v := 20) S dX8_tree_41 rfl ?_
      refine g_icmp_ne (tgt := 49) S dX8_tree_43 (by decide) hf (fun c hf => ?_) (fun c hf => ?_)
      · refine g_bipush (v := (-3)) S dX8_tree_46 rfl ?_
        exact g_iretM rt hf dX8_tree_48
      · refine g_aload_n 0 S dX8_tree_49 rfl ?_
        refine g_get (v := .ref (a.2 33)) S ob_0 rfl gi_X8 (by decide) lf_X8_96 rfl dX8_tree_50 ?_
        refine g_aload_n 0 S dX8_tree_53 rfl ?_
        refine g_get (v := .int (M 0 32)) S ob_0 rfl gi_X8 (by decide) lf_X8_209 rfl dX8_tree_54 ?_
        refine g_iload_n 1 S dX8_tree_57 rfl ?_
        refine g_iast S ia_33 dX8_tree_58 hf (fun hf => ?_)
        refine g_aload_n 0 S dX8_tree_59 rfl ?_
        refine g_dup S dX8_tree_60 rfl ?_
        refine g_get (v := .int ((mu M 33 (Int32.toNatClampNeg (M 0 32)) x1) 0 32)) S ob_0 rfl gi_X8 (by decide) lf_X8_209 rfl dX8_tree_61 ?_
        refine g_iconst (v := 1) S dX8_tree_64 rfl ?_
        refine g_iadd S dX8_tree_65 ?_
        refine g_put (ty := .int) S ob_0 rfl gi_X8 tyX8_ok nmX8 (by decide) lf_X8_209 rfl (by decide +kernel) rfl rfl (Nat.le_of_ble_eq_true rfl) rfl dX8_tree_66 ?_
        obtain ⟨M2, eM2, hf⟩ := lt_some hf
        refine Go.M eM2 ?_
        refine g_aload_n 0 S dX8_tree_69 rfl ?_
        refine g_get (v := .int (M2 0 32)) S ob_0 rfl gi_X8 (by decide) lf_X8_209 rfl dX8_tree_70 ?_
        exact g_iretM rt hf dX8_tree_73
    · refine g_aload_n 0 S dX8_tree_19 rfl ?_
      refine g_get (v := .ref (a.2 33)) S ob_0 rfl gi_X8 (by decide) lf_X8_96 rfl dX8_tree_20 ?_
      refine g_iload_n 2 S dX8_tree_23 rfl ?_
      refine g_iald S ia_33 dX8_tree_24 hf (fun hf => ?_)
      refine g_iload_n 1 S dX8_tree_25 rfl ?_
      refine g_icmp_ne (tgt := 31) S dX8_tree_26 (by decide) hf (fun c hf => ?_) (fun c hf => ?_)
      · refine g_iconst (v := (-1)) S dX8_tree_29 rfl ?_
        exact g_iretM rt hf dX8_tree_30
      · refine g_iinc (v := (x2 + 1)) (lv' := [(2, .int (x2 + 1)), (0, .ref (a.2 0)), (1, .int x1)]) 2 S dX8_tree_31 rfl rfl (by decide) rfl ?_
        refine g_goto (tgt := 11) S dX8_tree_34 (by decide) ?_
        refine Go.sub [1, 2, 0] rfl ?_
        exact ih _ _ _ hf
def f_X8_tree (z : Nat → Nat) (M : Mem) (p1 : Int32) : Option (Int32 × Mem) := bd1 (f_X8_isPlace z M p1) (fun r1 => if r1 = true then f_X8_tree_11 z 1000 M p1 0 else some ((-1), M))
theorem c_X8_tree {l : Launch} {G : GG} {a : AA} {M : Mem} {p1 : Int32} {r : Int32} {M' : Mem} (hf : f_X8_tree a.1 M p1 = some (r, M')) : CtI l G a yX8_tree cX8_tree 3 .int (rmD 2) [.ref (a.2 0), .int p1] M r M' := by
  refine ct_I (by decide) rfl rfl (own := RX8) (Nat.le_of_ble_eq_true rfl) (fun K hl hg S rt => ?_)
  subst hl; subst hg
  unfold f_X8_tree at hf
  show Go K 3 a M 0 [(0, .ref (a.2 0)), (1, .int p1)] []
  refine g_iload_n 1 S dX8_tree_0 rfl ?_
  obtain ⟨r1, hr1, hf⟩ := bd1_some hf
  refine g_cSI (st := []) S ok_X8_isPlace lk_X8_203 (c_X8_isPlace hr1) rfl rfl ⟨by decide, by decide⟩ (rmD_z _) (Nat.le_of_ble_eq_true rfl) dX8_tree_1 ?_
  refine g_if_neB (tgt := 9) S dX8_tree_4 (by decide) hf (fun c hf => ?_) (fun c hf => ?_)
  · refine g_iconst (v := 0) S dX8_tree_9 rfl ?_
    refine g_istore_n (lv' := [(2, .int 0), (0, .ref (a.2 0)), (1, .int p1)]) S dX8_tree_10 (by decide) rfl ?_
    refine Go.sub [1, 2, 0] rfl ?_
    exact t_X8_tree_11  S rt 1000 _ _ _ hf
  · refine g_iconst (v := (-1)) S dX8_tree_7 rfl ?_
    exact g_iretM rt hf dX8_tree_8
-- BridleBookModel.agree(III)I
theorem dX8_agree_0 : decode cX8_agree 0 = .ok (.aload_n 0, 1) := by decide +kernel
theorem dX8_agree_1 : decode cX8_agree 1 = .ok (.iload_n 1, 1) := by decide +kernel
theorem dX8_agree_2 : decode cX8_agree 2 = .ok (.invokevirtual 212, 3) := by decide +kernel
theorem dX8_agree_5 : decode cX8_agree 5 = .ok (.ifCond .eq 25, 3) := by decide +kernel
theorem dX8_agree_8 : decode cX8_agree 8 = .ok (.aload_n 0, 1) := by decide +kernel
theorem dX8_agree_9 : decode cX8_agree 9 = .ok (.iload_n 2, 1) := by decide +kernel
theorem dX8_agree_10 : decode cX8_agree 10 = .ok (.invokevirtual 212, 3) := by decide +kernel
theorem dX8_agree_13 : decode cX8_agree 13 = .ok (.ifCond .eq 17, 3) := by decide +kernel
theorem dX8_agree_16 : decode cX8_agree 16 = .ok (.iload_n 1, 1) := by decide +kernel
theorem dX8_agree_17 : decode cX8_agree 17 = .ok (.iload_n 2, 1) := by decide +kernel
theorem dX8_agree_18 : decode cX8_agree 18 = .ok (.if_icmp .eq 12, 3) := by decide +kernel
theorem dX8_agree_21 : decode cX8_agree 21 = .ok (.iload_n 3, 1) := by decide +kernel
theorem dX8_agree_22 : decode cX8_agree 22 = .ok (.iconst 0, 1) := by decide +kernel
theorem dX8_agree_23 : decode cX8_agree 23 = .ok (.iconst 1, 1) := by decide +kernel
theorem dX8_agree_24 : decode cX8_agree 24 = .ok (.invokestatic 111, 3) := by decide +kernel
theorem dX8_agree_27 : decode cX8_agree 27 = .ok (.ifCond .ne 5, 3) := by decide +kernel
theorem dX8_agree_30 : decode cX8_agree 30 = .ok (.iconst (-1), 1) := by decide +kernel
theorem dX8_agree_31 : decode cX8_agree 31 = .ok (.ireturn, 1) := by decide +kernel
theorem dX8_agree_32 : decode cX8_agree 32 = .ok (.aload_n 0, 1) := by decide +kernel
theorem dX8_agree_33 : decode cX8_agree 33 = .ok (.getfield 90, 3) := by decide +kernel
theorem dX8_agree_36 : decode cX8_agree 36 = .ok (.bipush 10, 2) := by decide +kernel
theorem dX8_agree_38 : decode cX8_agree 38 = .ok (.iload_n 1, 1) := by decide +kernel
theorem dX8_agree_39 : decode cX8_agree 39 = .ok (.imul, 1) := by decide +kernel
theorem dX8_agree_40 : decode cX8_agree 40 = .ok (.iload_n 2, 1) := by decide +kernel
theorem dX8_agree_41 : decode cX8_agree 41 = .ok (.iadd, 1) := by decide +kernel
theorem dX8_agree_42 : decode cX8_agree 42 = .ok (.baload, 1) := by decide +kernel
theorem dX8_agree_43 : decode cX8_agree 43 = .ok (.ifCond .eq 7, 3) := by decide +kernel
theorem dX8_agree_46 : decode cX8_agree 46 = .ok (.iconst 1, 1) := by decide +kernel
theorem dX8_agree_47 : decode cX8_agree 47 = .ok (.goto 4, 3) := by decide +kernel
theorem dX8_agree_50 : decode cX8_agree 50 = .ok (.iconst 0, 1) := by decide +kernel
theorem dX8_agree_51 : decode cX8_agree 51 = .ok (.istore 4, 2) := by decide +kernel
theorem dX8_agree_53 : decode cX8_agree 53 = .ok (.aload_n 0, 1) := by decide +kernel
theorem dX8_agree_54 : decode cX8_agree 54 = .ok (.getfield 90, 3) := by decide +kernel
theorem dX8_agree_57 : decode cX8_agree 57 = .ok (.bipush 10, 2) := by decide +kernel
theorem dX8_agree_59 : decode cX8_agree 59 = .ok (.iload_n 1, 1) := by decide +kernel
theorem dX8_agree_60 : decode cX8_agree 60 = .ok (.imul, 1) := by decide +kernel
theorem dX8_agree_61 : decode cX8_agree 61 = .ok (.iload_n 2, 1) := by decide +kernel
theorem dX8_agree_62 : decode cX8_agree 62 = .ok (.iadd, 1) := by decide +kernel
theorem dX8_agree_63 : decode cX8_agree 63 = .ok (.iload_n 3, 1) := by decide +kernel
theorem dX8_agree_64 : decode cX8_agree 64 = .ok (.iconst 1, 1) := by decide +kernel
theorem dX8_agree_65 : decode cX8_agree 65 = .ok (.if_icmp .ne 7, 3) := by decide +kernel
theorem dX8_agree_68 : decode cX8_agree 68 = .ok (.iconst 1, 1) := by decide +kernel
theorem dX8_agree_69 : decode cX8_agree 69 = .ok (.goto 4, 3) := by decide +kernel
theorem dX8_agree_72 : decode cX8_agree 72 = .ok (.iconst 0, 1) := by decide +kernel
theorem dX8_agree_73 : decode cX8_agree 73 = .ok (.bastore, 1) := by decide +kernel
theorem dX8_agree_74 : decode cX8_agree 74 = .ok (.aload_n 0, 1) := by decide +kernel
theorem dX8_agree_75 : decode cX8_agree 75 = .ok (.getfield 90, 3) := by decide +kernel
theorem dX8_agree_78 : decode cX8_agree 78 = .ok (.bipush 10, 2) := by decide +kernel
theorem dX8_agree_80 : decode cX8_agree 80 = .ok (.iload_n 2, 1) := by decide +kernel
theorem dX8_agree_81 : decode cX8_agree 81 = .ok (.imul, 1) := by decide +kernel
theorem dX8_agree_82 : decode cX8_agree 82 = .ok (.iload_n 1, 1) := by decide +kernel
theorem dX8_agree_83 : decode cX8_agree 83 = .ok (.iadd, 1) := by decide +kernel
theorem dX8_agree_84 : decode cX8_agree 84 = .ok (.iload_n 3, 1) := by decide +kernel
theorem dX8_agree_85 : decode cX8_agree 85 = .ok (.iconst 1, 1) := by decide +kernel
theorem dX8_agree_86 : decode cX8_agree 86 = .ok (.if_icmp .ne 7, 3) := by decide +kernel
theorem dX8_agree_89 : decode cX8_agree 89 = .ok (.iconst 1, 1) := by decide +kernel
theorem dX8_agree_90 : decode cX8_agree 90 = .ok (.goto 4, 3) := by decide +kernel
theorem dX8_agree_93 : decode cX8_agree 93 = .ok (.iconst 0, 1) := by decide +kernel
theorem dX8_agree_94 : decode cX8_agree 94 = .ok (.bastore, 1) := by decide +kernel
theorem dX8_agree_95 : decode cX8_agree 95 = .ok (.iload 4, 2) := by decide +kernel
theorem dX8_agree_97 : decode cX8_agree 97 = .ok (.ireturn, 1) := by decide +kernel
def f_X8_agree (z : Nat → Nat) (M : Mem) (p1 : Int32) (p2 : Int32) (p3 : Int32) : Option (Int32 × Mem) := bd1 (f_X8_isFlyer z M p1) (fun r1 => if r1 = true then bd1 (f_X8_isFlyer z M p2) (fun r2 => if r2 = true then if p1 = p2 then some ((-1), M) else bd1 (f_X8_in z M p3 0 1) (fun r3 => if r3 = true then ck (inb ((10 * p1) + p2) 100) (if (M 29 (Int32.toNatClampNeg ((10 * p1) + p2))) = 0 then if p3 = 1 then ck (inb ((10 * p1) + p2) 100) (if p3 = 1 then ck (inb ((10 * p2) + p1) 100) (lt (mu (mu M 29 (Int32.toNatClampNeg ((10 * p1) + p2)) 1) 29 (Int32.toNatClampNeg ((10 * p2) + p1)) 1) (fun M4 => some (0, M4))) else ck (inb ((10 * p2) + p1) 100) (lt (mu (mu M 29 (Int32.toNatClampNeg ((10 * p1) + p2)) 1) 29 (Int32.toNatClampNeg ((10 * p2) + p1)) 0) (fun M5 => some (0, M5)))) else ck (inb ((10 * p1) + p2) 100) (if p3 = 1 then ck (inb ((10 * p2) + p1) 100) (lt (mu (mu M 29 (Int32.toNatClampNeg ((10 * p1) + p2)) 0) 29 (Int32.toNatClampNeg ((10 * p2) + p1)) 1) (fun M6 => some (0, M6))) else ck (inb ((10 * p2) + p1) 100) (lt (mu (mu M 29 (Int32.toNatClampNeg ((10 * p1) + p2)) 0) 29 (Int32.toNatClampNeg ((10 * p2) + p1)) 0) (fun M7 => some (0, M7)))) else if p3 = 1 then ck (inb ((10 * p1) + p2) 100) (if p3 = 1 then ck (inb ((10 * p2) + p1) 100) (lt (mu (mu M 29 (Int32.toNatClampNeg ((10 * p1) + p2)) 1) 29 (Int32.toNatClampNeg ((10 * p2) + p1)) 1) (fun M8 => some (1, M8))) else ck (inb ((10 * p2) + p1) 100) (lt (mu (mu M 29 (Int32.toNatClampNeg ((10 * p1) + p2)) 1) 29 (Int32.toNatClampNeg ((10 * p2) + p1)) 0) (fun M9 => some (1, M9)))) else ck (inb ((10 * p1) + p2) 100) (if p3 = 1 then ck (inb ((10 * p2) + p1) 100) (lt (mu (mu M 29 (Int32.toNatClampNeg ((10 * p1) + p2)) 0) 29 (Int32.toNatClampNeg ((10 * p2) + p1)) 1) (fun M10 => some (1, M10))) else ck (inb ((10 * p2) + p1) 100) (lt (mu (mu M 29 (Int32.toNatClampNeg ((10 * p1) + p2)) 0) 29 (Int32.toNatClampNeg ((10 * p2) + p1)) 0) (fun M11 => some (1, M11))))) else some ((-1), M)) else some ((-1), M)) else some ((-1), M))
theorem c_X8_agree {l : Launch} {G : GG} {a : AA} {M : Mem} {p1 : Int32} {p2 : Int32} {p3 : Int32} {r : Int32} {M' : Mem} (hf : f_X8_agree a.1 M p1 p2 p3 = some (r, M')) : CtI l G a yX8_agree cX8_agree 5 .int (rmD 2) [.ref (a.2 0), .int p1, .int p2, .int p3] M r M' := by
  refine ct_I (by decide) rfl rfl (own := RX8) (Nat.le_of_ble_eq_true rfl) (fun K hl hg S rt => ?_)
  subst hl; subst hg
  unfold f_X8_agree at hf
  show Go K 5 a M 0 [(0, .ref (a.2 0)), (1, .int p1), (2, .int p2), (3, .int p3)] []
  refine g_aload_n 0 S dX8_agree_0 rfl ?_
  refine g_iload_n 1 S dX8_agree_1 rfl ?_
  obtain ⟨r1, hr1, hf⟩ := bd1_some hf
  refine g_cVI (st := []) S ob_0 rfl ok_X8_isFlyer lk_X8_212 (c_X8_isFlyer hr1) rfl rfl ⟨by decide, by decide⟩ (rmD_z _) (Nat.le_of_ble_eq_true rfl) dX8_agree_2 ?_
  refine g_if_eqB (tgt := 30) S dX8_agree_5 (by decide) hf (fun c hf => ?_) (fun c hf => ?_)
  · refine g_aload_n 0 S dX8_agree_8 rfl ?_
    refine g_iload_n 2 S dX8_agree_9 rfl ?_
    obtain ⟨r2, hr2, hf⟩ := bd1_some hf
    refine g_cVI (st := []) S ob_0 rfl ok_X8_isFlyer lk_X8_212 (c_X8_isFlyer hr2) rfl rfl ⟨by decide, by decide⟩ (rmD_z _) (Nat.le_of_ble_eq_true rfl) dX8_agree_10 ?_
    refine g_if_eqB (tgt := 30) S dX8_agree_13 (by decide) hf (fun c hf => ?_) (fun c hf => ?_)
    · refine g_iload_n 1 S dX8_agree_16 rfl ?_
      refine g_iload_n 2 S dX8_agree_17 rfl ?_
      refine g_icmp_eq (tgt := 30) S dX8_agree_18 (by decide) hf (fun c hf => ?_) (fun c hf => ?_)
      · refine g_iconst (v := (-1)) S dX8_agree_30 rfl ?_
        exact g_iretM rt hf dX8_agree_31
      · refine g_iload_n 3 S dX8_agree_21 rfl ?_
        refine g_iconst (v := 0) S dX8_agree_22 rfl ?_
        refine g_iconst (v := 1) S dX8_agree_23 rfl ?_
        obtain ⟨r3, hr3, hf⟩ := bd1_some hf
        refine g_cSI (st := []) S ok_X8_in lk_X8_111 (c_X8_in hr3) rfl rfl ⟨by decide, by decide⟩ (rmD_z _) (Nat.le_of_ble_eq_true rfl) dX8_agree_24 ?_
        refine g_if_neB (tgt := 32) S dX8_agree_27 (by decide) hf (fun c hf => ?_) (fun c hf => ?_)
        · refine g_aload_n 0 S dX8_agree_32 rfl ?_
          refine g_get (v := .ref (a.2 29)) S ob_0 rfl gi_X8 (by decide) lf_X8_90 rfl dX8_agree_33 ?_
          refine g_bipush (v := 10) S dX8_agree_36 rfl ?_
          refine g_iload_n 1 S dX8_agree_38 rfl ?_
          refine g_imul S dX8_agree_39 ?_
          refine g_iload_n 2 S dX8_agree_40 rfl ?_
          refine g_iadd S dX8_agree_41 ?_
          refine g_zald S za_29 dX8_agree_42 hf (fun hf => ?_)
          refine g_if_eq (tgt := 50) S dX8_agree_43 (by decide) hf (fun c hf => ?_) (fun c hf => ?_)
          · refine g_iconst (v := 0) S dX8_agree_50 rfl ?_
            refine g_istore (lv' := [(4, .int 0), (0, .ref (a.2 0)), (1, .int p1), (2, .int p2), (3, .int p3)]) S dX8_agree_51 (by decide) rfl ?_
            refine g_aload_n 1 S dX8_agree_53 rfl ?_
            refine g_get (v := .ref (a.2 29)) S ob_0 rfl gi_X8 (by decide) lf_X8_90 rfl dX8_agree_54 ?_
            refine g_bipush (v := 10) S dX8_agree_57 rfl ?_
            refine g_iload_n 2 S dX8_agree_59 rfl ?_
            refine g_imul S dX8_agree_60 ?_
            refine g_iload_n 3 S dX8_agree_61 rfl ?_
            refine g_iadd S dX8_agree_62 ?_
            refine g_iload_n 4 S dX8_agree_63 rfl ?_
            refine g_iconst (v := 1) S dX8_agree_64 rfl ?_
            refine g_icmp_ne (tgt := 72) S dX8_agree_65 (by decide) hf (fun c hf => ?_) (fun c hf => ?_)
            · refine g_iconst (v := 1) S dX8_agree_68 rfl ?_
              refine g_goto (tgt := 73) S dX8_agree_69 (by decide) ?_
              refine g_zast S za_29 dX8_agree_73 rfl hf (fun hf => ?_)
              refine g_aload_n 1 S dX8_agree_74 rfl ?_
              refine g_get (v := .ref (a.2 29)) S ob_0 rfl gi_X8 (by decide) lf_X8_90 rfl dX8_agree_75 ?_
              refine g_bipush (v := 10) S dX8_agree_78 rfl ?_
              refine g_iload_n 3 S dX8_agree_80 rfl ?_
              refine g_imul S dX8_agree_81 ?_
              refine g_iload_n 2 S dX8_agree_82 rfl ?_
              refine g_iadd S dX8_agree_83 ?_
              refine g_iload_n 4 S dX8_agree_84 rfl ?_
              refine g_iconst (v := 1) S dX8_agree_85 rfl ?_
              refine g_icmp_ne (tgt := 93) S dX8_agree_86 (by decide) hf (fun c hf => ?_) (fun c hf => ?_)
              · refine g_iconst (v := 1) S dX8_agree_89 rfl ?_
                refine g_goto (tgt := 94) S dX8_agree_90 (by decide) ?_
                refine g_zast S za_29 dX8_agree_94 rfl hf (fun hf => ?_)
                obtain ⟨M4, eM4, hf⟩ := lt_some hf
                refine Go.M eM4 ?_
                refine g_iload 0 S dX8_agree_95 rfl ?_
                exact g_iretM rt hf dX8_agree_97
              · refine g_iconst (v := 0) S dX8_agree_93 rfl ?_
                refine g_zast S za_29 dX8_agree_94 rfl hf (fun hf => ?_)
                obtain ⟨M5, eM5, hf⟩ := lt_some hf
                refine Go.M eM5 ?_
                refine g_iload 0 S dX8_agree_95 rfl ?_
                exact g_iretM rt hf dX8_agree_97
            · refine g_iconst (v := 0) S dX8_agree_72 rfl ?_
              refine g_zast S za_29 dX8_agree_73 rfl hf (fun hf => ?_)
              refine g_aload_n 1 S dX8_agree_74 rfl ?_
              refine g_get (v := .ref (a.2 29)) S ob_0 rfl gi_X8 (by decide) lf_X8_90 rfl dX8_agree_75 ?_
              refine g_bipush (v := 10) S dX8_agree_78 rfl ?_
              refine g_iload_n 3 S dX8_agree_80 rfl ?_
              refine g_imul S dX8_agree_81 ?_
              refine g_iload_n 2 S dX8_agree_82 rfl ?_
              refine g_iadd S dX8_agree_83 ?_
              refine g_iload_n 4 S dX8_agree_84 rfl ?_
              refine g_iconst (v := 1) S dX8_agree_85 rfl ?_
              refine g_icmp_ne (tgt := 93) S dX8_agree_86 (by decide) hf (fun c hf => ?_) (fun c hf => ?_)
              · refine g_iconst (v := 1) S dX8_agree_89 rfl ?_
                refine g_goto (tgt := 94) S dX8_agree_90 (by decide) ?_
                refine g_zast S za_29 dX8_agree_94 rfl hf (fun hf => ?_)
                obtain ⟨M6, eM6, hf⟩ := lt_some hf
                refine Go.M eM6 ?_
                refine g_iload 0 S dX8_agree_95 rfl ?_
                exact g_iretM rt hf dX8_agree_97
              · refine g_iconst (v := 0) S dX8_agree_93 rfl ?_
                refine g_zast S za_29 dX8_agree_94 rfl hf (fun hf => ?_)
                obtain ⟨M7, eM7, hf⟩ := lt_some hf
                refine Go.M eM7 ?_
                refine g_iload 0 S dX8_agree_95 rfl ?_
                exact g_iretM rt hf dX8_agree_97
          · refine g_iconst (v := 1) S dX8_agree_46 rfl ?_
            refine g_goto (tgt := 51) S dX8_agree_47 (by decide) ?_
            refine g_istore (lv' := [(4, .int 1), (0, .ref (a.2 0)), (1, .int p1), (2, .int p2), (3, .int p3)]) S dX8_agree_51 (by decide) rfl ?_
            refine g_aload_n 1 S dX8_agree_53 rfl ?_
            refine g_get (v := .ref (a.2 29)) S ob_0 rfl gi_X8 (by decide) lf_X8_90 rfl dX8_agree_54 ?_
            refine g_bipush (v := 10) S dX8_agree_57 rfl ?_
            refine g_iload_n 2 S dX8_agree_59 rfl ?_
            refine g_imul S dX8_agree_60 ?_
            refine g_iload_n 3 S dX8_agree_61 rfl ?_
            refine g_iadd S dX8_agree_62 ?_
            refine g_iload_n 4 S dX8_agree_63 rfl ?_
            refine g_iconst (v := 1) S dX8_agree_64 rfl ?_
            refine g_icmp_ne (tgt := 72) S dX8_agree_65 (by decide) hf (fun c hf => ?_) (fun c hf => ?_)
            · refine g_iconst (v := 1) S dX8_agree_68 rfl ?_
              refine g_goto (tgt := 73) S dX8_agree_69 (by decide) ?_
              refine g_zast S za_29 dX8_agree_73 rfl hf (fun hf => ?_)
              refine g_aload_n 1 S dX8_agree_74 rfl ?_
              refine g_get (v := .ref (a.2 29)) S ob_0 rfl gi_X8 (by decide) lf_X8_90 rfl dX8_agree_75 ?_
              refine g_bipush (v := 10) S dX8_agree_78 rfl ?_
              refine g_iload_n 3 S dX8_agree_80 rfl ?_
              refine g_imul S dX8_agree_81 ?_
              refine g_iload_n 2 S dX8_agree_82 rfl ?_
              refine g_iadd S dX8_agree_83 ?_
              refine g_iload_n 4 S dX8_agree_84 rfl ?_
              refine g_iconst (v := 1) S dX8_agree_85 rfl ?_
              refine g_icmp_ne (tgt := 93) S dX8_agree_86 (by decide) hf (fun c hf => ?_) (fun c hf => ?_)
              · refine g_iconst (v := 1) S dX8_agree_89 rfl ?_
                refine g_goto (tgt := 94) S dX8_agree_90 (by decide) ?_
                refine g_zast S za_29 dX8_agree_94 rfl hf (fun hf => ?_)
                obtain ⟨M8, eM8, hf⟩ := lt_some hf
                refine Go.M eM8 ?_
                refine g_iload 0 S dX8_agree_95 rfl ?_
                exact g_iretM rt hf dX8_agree_97
              · refine g_iconst (v := 0) S dX8_agree_93 rfl ?_
                refine g_zast S za_29 dX8_agree_94 rfl hf (fun hf => ?_)
                obtain ⟨M9, eM9, hf⟩ := lt_some hf
                refine Go.M eM9 ?_
                refine g_iload 0 S dX8_agree_95 rfl ?_
                exact g_iretM rt hf dX8_agree_97
            · refine g_iconst (v := 0) S dX8_agree_72 rfl ?_
              refine g_zast S za_29 dX8_agree_73 rfl hf (fun hf => ?_)
              refine g_aload_n 1 S dX8_agree_74 rfl ?_
              refine g_get (v := .ref (a.2 29)) S ob_0 rfl gi_X8 (by decide) lf_X8_90 rfl dX8_agree_75 ?_
              refine g_bipush (v := 10) S dX8_agree_78 rfl ?_
              refine g_iload_n 3 S dX8_agree_80 rfl ?_
              refine g_imul S dX8_agree_81 ?_
              refine g_iload_n 2 S dX8_agree_82 rfl ?_
              refine g_iadd S dX8_agree_83 ?_
              refine g_iload_n 4 S dX8_agree_84 rfl ?_
              refine g_iconst (v := 1) S dX8_agree_85 rfl ?_
              refine g_icmp_ne (tgt := 93) S dX8_agree_86 (by decide) hf (fun c hf => ?_) (fun c hf => ?_)
              · refine g_iconst (v := 1) S dX8_agree_89 rfl ?_
                refine g_goto (tgt := 94) S dX8_agree_90 (by decide) ?_
                refine g_zast S za_29 dX8_agree_94 rfl hf (fun hf => ?_)
                obtain ⟨M10, eM10, hf⟩ := lt_some hf
                refine Go.M eM10 ?_
                refine g_iload 0 S dX8_agree_95 rfl ?_
                exact g_iretM rt hf dX8_agree_97
              · refine g_iconst (v := 0) S dX8_agree_93 rfl ?_
                refine g_zast S za_29 dX8_agree_94 rfl hf (fun hf => ?_)
                obtain ⟨M11, eM11, hf⟩ := lt_some hf
                refine Go.M eM11 ?_
                refine g_iload 0 S dX8_agree_95 rfl ?_
                exact g_iretM rt hf dX8_agree_97
        · refine g_iconst (v := (-1)) S dX8_agree_30 rfl ?_
          exact g_iretM rt hf dX8_agree_31
    · refine g_iconst (v := (-1)) S dX8_agree_30 rfl ?_
      exact g_iretM rt hf dX8_agree_31
  · refine g_iconst (v := (-1)) S dX8_agree_30 rfl ?_
    exact g_iretM rt hf dX8_agree_31
-- BridleBookModel.endOf(III)I
theorem dX8_endOf_0 : decode cX8_endOf 0 = .ok (.aload_n 0, 1) := by decide +kernel
theorem dX8_endOf_1 : decode cX8_endOf 1 = .ok (.getfield 44, 3) := by decide +kernel
theorem dX8_endOf_4 : decode cX8_endOf 4 = .ok (.aload_n 0, 1) := by decide +kernel
theorem dX8_endOf_5 : decode cX8_endOf 5 = .ok (.getfield 80, 3) := by decide +kernel
theorem dX8_endOf_8 : decode cX8_endOf 8 = .ok (.iload_n 1, 1) := by decide +kernel
theorem dX8_endOf_9 : decode cX8_endOf 9 = .ok (.iaload, 1) := by decide +kernel
theorem dX8_endOf_10 : decode cX8_endOf 10 = .ok (.iaload, 1) := by decide +kernel
theorem dX8_endOf_11 : decode cX8_endOf 11 = .ok (.istore 4, 2) := by decide +kernel
theorem dX8_endOf_13 : decode cX8_endOf 13 = .ok (.iload 4, 2) := by decide +kernel
theorem dX8_endOf_15 : decode cX8_endOf 15 = .ok (.aload_n 0, 1) := by decide +kernel
theorem dX8_endOf_16 : decode cX8_endOf 16 = .ok (.getfield 93, 3) := by decide +kernel
theorem dX8_endOf_19 : decode cX8_endOf 19 = .ok (.if_icmp .ge 8, 3) := by decide +kernel
theorem dX8_endOf_22 : decode cX8_endOf 22 = .ok (.iload 4, 2) := by decide +kernel
theorem dX8_endOf_24 : decode cX8_endOf 24 = .ok (.goto 7, 3) := by decide +kernel
theorem dX8_endOf_27 : decode cX8_endOf 27 = .ok (.aload_n 0, 1) := by decide +kernel
theorem dX8_endOf_28 : decode cX8_endOf 28 = .ok (.getfield 93, 3) := by decide +kernel
theorem dX8_endOf_31 : decode cX8_endOf 31 = .ok (.istore 5, 2) := by decide +kernel
theorem dX8_endOf_33 : decode cX8_endOf 33 = .ok (.iload_n 2, 1) := by decide +kernel
theorem dX8_endOf_34 : decode cX8_endOf 34 = .ok (.ifCond .ne 12, 3) := by decide +kernel
theorem dX8_endOf_37 : decode cX8_endOf 37 = .ok (.aload_n 0, 1) := by decide +kernel
theorem dX8_endOf_38 : decode cX8_endOf 38 = .ok (.getfield 74, 3) := by decide +kernel
theorem dX8_endOf_41 : decode cX8_endOf 41 = .ok (.iload_n 1, 1) := by decide +kernel
theorem dX8_endOf_42 : decode cX8_endOf 42 = .ok (.iaload, 1) := by decide +kernel
theorem dX8_endOf_43 : decode cX8_endOf 43 = .ok (.goto 9, 3) := by decide +kernel
theorem dX8_endOf_46 : decode cX8_endOf 46 = .ok (.aload_n 0, 1) := by decide +kernel
theorem dX8_endOf_47 : decode cX8_endOf 47 = .ok (.getfield 77, 3) := by decide +kernel
theorem dX8_endOf_50 : decode cX8_endOf 50 = .ok (.iload_n 1, 1) := by decide +kernel
theorem dX8_endOf_51 : decode cX8_endOf 51 = .ok (.iaload, 1) := by decide +kernel
theorem dX8_endOf_52 : decode cX8_endOf 52 = .ok (.istore 6, 2) := by decide +kernel
theorem dX8_endOf_54 : decode cX8_endOf 54 = .ok (.aload_n 0, 1) := by decide +kernel
theorem dX8_endOf_55 : decode cX8_endOf 55 = .ok (.getfield 206, 3) := by decide +kernel
theorem dX8_endOf_58 : decode cX8_endOf 58 = .ok (.iconst 2, 1) := by decide +kernel
theorem dX8_endOf_59 : decode cX8_endOf 59 = .ok (.irem, 1) := by decide +kernel
theorem dX8_endOf_60 : decode cX8_endOf 60 = .ok (.iload_n 2, 1) := by decide +kernel
theorem dX8_endOf_61 : decode cX8_endOf 61 = .ok (.if_icmp .ne 7, 3) := by decide +kernel
theorem dX8_endOf_64 : decode cX8_endOf 64 = .ok (.iconst 1, 1) := by decide +kernel
theorem dX8_endOf_65 : decode cX8_endOf 65 = .ok (.goto 4, 3) := by decide +kernel
theorem dX8_endOf_68 : decode cX8_endOf 68 = .ok (.iconst 0, 1) := by decide +kernel
theorem dX8_endOf_69 : decode cX8_endOf 69 = .ok (.istore 7, 2) := by decide +kernel
theorem dX8_endOf_71 : decode cX8_endOf 71 = .ok (.iload 7, 2) := by decide +kernel
theorem dX8_endOf_73 : decode cX8_endOf 73 = .ok (.ifCond .eq 51, 3) := by decide +kernel
theorem dX8_endOf_76 : decode cX8_endOf 76 = .ok (.iload_n 3, 1) := by decide +kernel
theorem dX8_endOf_77 : decode cX8_endOf 77 = .ok (.ifCond .ne 24, 3) := by decide +kernel
theorem dX8_endOf_80 : decode cX8_endOf 80 = .ok (.aload_n 0, 1) := by decide +kernel
theorem dX8_endOf_81 : decode cX8_endOf 81 = .ok (.getfield 206, 3) := by decide +kernel
theorem dX8_endOf_84 : decode cX8_endOf 84 = .ok (.iconst 2, 1) := by decide +kernel
theorem dX8_endOf_85 : decode cX8_endOf 85 = .ok (.if_icmp .ge 8, 3) := by decide +kernel
theorem dX8_endOf_88 : decode cX8_endOf 88 = .ok (.iload 6, 2) := by decide +kernel
theorem dX8_endOf_90 : decode cX8_endOf 90 = .ok (.goto 29, 3) := by decide +kernel
theorem dX8_endOf_93 : decode cX8_endOf 93 = .ok (.iload 6, 2) := by decide +kernel
theorem dX8_endOf_95 : decode cX8_endOf 95 = .ok (.iload 4, 2) := by decide +kernel
theorem dX8_endOf_97 : decode cX8_endOf 97 = .ok (.isub, 1) := by decide +kernel
theorem dX8_endOf_98 : decode cX8_endOf 98 = .ok (.goto 21, 3) := by decide +kernel
theorem dX8_endOf_101 : decode cX8_endOf 101 = .ok (.aload_n 0, 1) := by decide +kernel
theorem dX8_endOf_102 : decode cX8_endOf 102 = .ok (.getfield 206, 3) := by decide +kernel
theorem dX8_endOf_105 : decode cX8_endOf 105 = .ok (.iconst 2, 1) := by decide +kernel
theorem dX8_endOf_106 : decode cX8_endOf 106 = .ok (.if_icmp .ge 11, 3) := by decide +kernel
theorem dX8_endOf_109 : decode cX8_endOf 109 = .ok (.iload 6, 2) := by decide +kernel
theorem dX8_endOf_111 : decode cX8_endOf 111 = .ok (.iload 4, 2) := by decide +kernel
theorem dX8_endOf_113 : decode cX8_endOf 113 = .ok (.iadd, 1) := by decide +kernel
theorem dX8_endOf_114 : decode cX8_endOf 114 = .ok (.goto 5, 3) := by decide +kernel
theorem dX8_endOf_117 : decode cX8_endOf 117 = .ok (.iload 6, 2) := by decide +kernel
theorem dX8_endOf_119 : decode cX8_endOf 119 = .ok (.istore 8, 2) := by decide +kernel
theorem dX8_endOf_121 : decode cX8_endOf 121 = .ok (.goto 22, 3) := by decide +kernel
theorem dX8_endOf_124 : decode cX8_endOf 124 = .ok (.iload_n 3, 1) := by decide +kernel
theorem dX8_endOf_125 : decode cX8_endOf 125 = .ok (.ifCond .ne 11, 3) := by decide +kernel
theorem dX8_endOf_128 : decode cX8_endOf 128 = .ok (.iload 6, 2) := by decide +kernel
theorem dX8_endOf_130 : decode cX8_endOf 130 = .ok (.iload 5, 2) := by decide +kernel
theorem dX8_endOf_132 : decode cX8_endOf 132 = .ok (.isub, 1) := by decide +kernel
theorem dX8_endOf_133 : decode cX8_endOf 133 = .ok (.goto 8, 3) := by decide +kernel
theorem dX8_endOf_136 : decode cX8_endOf 136 = .ok (.iload 6, 2) := by decide +kernel
theorem dX8_endOf_138 : decode cX8_endOf 138 = .ok (.iload 5, 2) := by decide +kernel
theorem dX8_endOf_140 : decode cX8_endOf 140 = .ok (.iadd, 1) := by decide +kernel
theorem dX8_endOf_141 : decode cX8_endOf 141 = .ok (.istore 8, 2) := by decide +kernel
theorem dX8_endOf_143 : decode cX8_endOf 143 = .ok (.iload 8, 2) := by decide +kernel
theorem dX8_endOf_145 : decode cX8_endOf 145 = .ok (.ifCond .ge 7, 3) := by decide +kernel
theorem dX8_endOf_148 : decode cX8_endOf 148 = .ok (.iconst 0, 1) := by decide +kernel
theorem dX8_endOf_149 : decode cX8_endOf 149 = .ok (.goto 19, 3) := by decide +kernel
theorem dX8_endOf_152 : decode cX8_endOf 152 = .ok (.iload 8, 2) := by decide +kernel
theorem dX8_endOf_154 : decode cX8_endOf 154 = .ok (.sipush 199, 3) := by decide +kernel
theorem dX8_endOf_157 : decode cX8_endOf 157 = .ok (.if_icmp .le 9, 3) := by decide +kernel
theorem dX8_endOf_160 : decode cX8_endOf 160 = .ok (.sipush 199, 3) := by decide +kernel
theorem dX8_endOf_163 : decode cX8_endOf 163 = .ok (.goto 5, 3) := by decide +kernel
theorem dX8_endOf_166 : decode cX8_endOf 166 = .ok (.iload 8, 2) := by decide +kernel
theorem dX8_endOf_168 : decode cX8_endOf 168 = .ok (.ireturn, 1) := by decide +kernel
def f_X8_endOf_143 (z : Nat → Nat) (M : Mem) (x8 : Int32) : Option Int32 := if 0 ≤ x8 then if x8 ≤ 199 then some x8 else some 199 else some 0
theorem t_X8_endOf_143 {K : KK} {a : AA} (S : Sx K RX8 cX8_endOf 9 (rmD 0)) {r : Int32} {M : Mem} (rt : RtI K a cX8_endOf r M) (x8 : Int32) (hf : f_X8_endOf_143 a.1 M x8 = some r) : Go K 9 a M 143 [(8, .int x8)] [] := by
  unfold f_X8_endOf_143 at hf
  refine g_iload 0 S dX8_endOf_143 rfl ?_
  refine g_if_ge (tgt := 152) S dX8_endOf_145 (by decide) hf (fun c hf => ?_) (fun c hf => ?_)
  · refine g_iload 0 S dX8_endOf_152 rfl ?_
    refine g_sipush (v := 199) S dX8_endOf_154 rfl ?_
    refine g_icmp_le (tgt := 166) S dX8_endOf_157 (by decide) hf (fun c hf => ?_) (fun c hf => ?_)
    · refine g_iload 0 S dX8_endOf_166 rfl ?_
      exact g_iretP rt hf dX8_endOf_168
    · refine g_sipush (v := 199) S dX8_endOf_160 rfl ?_
      refine g_goto (tgt := 168) S dX8_endOf_163 (by decide) ?_
      exact g_iretP rt hf dX8_endOf_168
  · refine g_iconst (v := 0) S dX8_endOf_148 rfl ?_
    refine g_goto (tgt := 168) S dX8_endOf_149 (by decide) ?_
    exact g_iretP rt hf dX8_endOf_168
def f_X8_endOf_69 (z : Nat → Nat) (M : Mem) (s0 : Int32) (x3 : Int32) (x4 : Int32) (x5 : Int32) (x6 : Int32) : Option Int32 := if s0 = 0 then if x3 = 0 then f_X8_endOf_143 z M (x6 - x5) else f_X8_endOf_143 z M (x6 + x5) else if x3 = 0 then if 2 ≤ (M 0 30) then f_X8_endOf_143 z M (x6 - x4) else f_X8_endOf_143 z M x6 else if 2 ≤ (M 0 30) then f_X8_endOf_143 z M x6 else f_X8_endOf_143 z M (x6 + x4)
theorem t_X8_endOf_69 {K : KK} {a : AA} (S : Sx K RX8 cX8_endOf 9 (rmD 0)) {r : Int32} {M : Mem} (rt : RtI K a cX8_endOf r M) (s0 : Int32) (x3 : Int32) (x4 : Int32) (x5 : Int32) (x6 : Int32) (hf : f_X8_endOf_69 a.1 M s0 x3 x4 x5 x6 = some r) : Go K 9 a M 69 [(0, .ref (a.2 0)), (3, .int x3), (4, .int x4), (5, .int x5), (6, .int x6)] [.int s0] := by
  unfold f_X8_endOf_69 at hf
  refine g_istore (lv' := [(7, .int s0), (0, .ref (a.2 0)), (3, .int x3), (4, .int x4), (5, .int x5), (6, .int x6)]) S dX8_endOf_69 (by decide) rfl ?_
  refine g_iload 0 S dX8_endOf_71 rfl ?_
  refine g_if_eq (tgt := 124) S dX8_endOf_73 (by decide) hf (fun c hf => ?_) (fun c hf => ?_)
  · refine g_iload_n 2 S dX8_endOf_124 rfl ?_
    refine g_if_ne (tgt := 136) S dX8_endOf_125 (by decide) hf (fun c hf => ?_) (fun c hf => ?_)
    · refine g_iload 5 S dX8_endOf_128 rfl ?_
      refine g_iload 4 S dX8_endOf_130 rfl ?_
      refine g_isub S dX8_endOf_132 ?_
      refine g_goto (tgt := 141) S dX8_endOf_133 (by decide) ?_
      refine g_istore (lv' := [(8, .int (x6 - x5)), (7, .int s0), (0, .ref (a.2 0)), (3, .int x3), (4, .int x4), (5, .int x5), (6, .int x6)]) S dX8_endOf_141 (by decide) rfl ?_
      refine Go.sub [0] rfl ?_
      exact t_X8_endOf_143  S rt _ hf
    · refine g_iload 5 S dX8_endOf_136 rfl ?_
      refine g_iload 4 S dX8_endOf_138 rfl ?_
      refine g_iadd S dX8_endOf_140 ?_
      refine g_istore (lv' := [(8, .int (x6 + x5)), (7, .int s0), (0, .ref (a.2 0)), (3, .int x3), (4, .int x4), (5, .int x5), (6, .int x6)]) S dX8_endOf_141 (by decide) rfl ?_
      refine Go.sub [0] rfl ?_
      exact t_X8_endOf_143  S rt _ hf
  · refine g_iload_n 2 S dX8_endOf_76 rfl ?_
    refine g_if_ne (tgt := 101) S dX8_endOf_77 (by decide) hf (fun c hf => ?_) (fun c hf => ?_)
    · refine g_aload_n 1 S dX8_endOf_80 rfl ?_
      refine g_get (v := .int (M 0 30)) S ob_0 rfl gi_X8 (by decide) lf_X8_206 rfl dX8_endOf_81 ?_
      refine g_iconst (v := 2) S dX8_endOf_84 rfl ?_
      refine g_icmp_ge (tgt := 93) S dX8_endOf_85 (by decide) hf (fun c hf => ?_) (fun c hf => ?_)
      · refine g_iload 5 S dX8_endOf_93 rfl ?_
        refine g_iload 3 S dX8_endOf_95 rfl ?_
        refine g_isub S dX8_endOf_97 ?_
        refine g_goto (tgt := 119) S dX8_endOf_98 (by decide) ?_
        refine g_istore (lv' := [(8, .int (x6 - x4)), (7, .int s0), (0, .ref (a.2 0)), (3, .int x3), (4, .int x4), (5, .int x5), (6, .int x6)]) S dX8_endOf_119 (by decide) rfl ?_
        refine g_goto (tgt := 143) S dX8_endOf_121 (by decide) ?_
        refine Go.sub [0] rfl ?_
        exact t_X8_endOf_143  S rt _ hf
      · refine g_iload 5 S dX8_endOf_88 rfl ?_
        refine g_goto (tgt := 119) S dX8_endOf_90 (by decide) ?_
        refine g_istore (lv' := [(8, .int x6), (7, .int s0), (0, .ref (a.2 0)), (3, .int x3), (4, .int x4), (5, .int x5), (6, .int x6)]) S dX8_endOf_119 (by decide) rfl ?_
        refine g_goto (tgt := 143) S dX8_endOf_121 (by decide) ?_
        refine Go.sub [0] rfl ?_
        exact t_X8_endOf_143  S rt _ hf
    · refine g_aload_n 1 S dX8_endOf_101 rfl ?_
      refine g_get (v := .int (M 0 30)) S ob_0 rfl gi_X8 (by decide) lf_X8_206 rfl dX8_endOf_102 ?_
      refine g_iconst (v := 2) S dX8_endOf_105 rfl ?_
      refine g_icmp_ge (tgt := 117) S dX8_endOf_106 (by decide) hf (fun c hf => ?_) (fun c hf => ?_)
      · refine g_iload 5 S dX8_endOf_117 rfl ?_
        refine g_istore (lv' := [(8, .int x6), (7, .int s0), (0, .ref (a.2 0)), (3, .int x3), (4, .int x4), (5, .int x5), (6, .int x6)]) S dX8_endOf_119 (by decide) rfl ?_
        refine g_goto (tgt := 143) S dX8_endOf_121 (by decide) ?_
        refine Go.sub [0] rfl ?_
        exact t_X8_endOf_143  S rt _ hf
      · refine g_iload 5 S dX8_endOf_109 rfl ?_
        refine g_iload 3 S dX8_endOf_111 rfl ?_
        refine g_iadd S dX8_endOf_113 ?_
        refine g_goto (tgt := 119) S dX8_endOf_114 (by decide) ?_
        refine g_istore (lv' := [(8, .int (x6 + x4)), (7, .int s0), (0, .ref (a.2 0)), (3, .int x3), (4, .int x4), (5, .int x5), (6, .int x6)]) S dX8_endOf_119 (by decide) rfl ?_
        refine g_goto (tgt := 143) S dX8_endOf_121 (by decide) ?_
        refine Go.sub [0] rfl ?_
        exact t_X8_endOf_143  S rt _ hf
def f_X8_endOf_31 (z : Nat → Nat) (M : Mem) (s0 : Int32) (x1 : Int32) (x2 : Int32) (x3 : Int32) (x4 : Int32) : Option Int32 := if x2 = 0 then ck (inb x1 10) (if (irem (M 0 30) 2) = x2 then f_X8_endOf_69 z M 1 x3 x4 s0 (M 24 (Int32.toNatClampNeg x1)) else f_X8_endOf_69 z M 0 x3 x4 s0 (M 24 (Int32.toNatClampNeg x1))) else ck (inb x1 10) (if (irem (M 0 30) 2) = x2 then f_X8_endOf_69 z M 1 x3 x4 s0 (M 25 (Int32.toNatClampNeg x1)) else f_X8_endOf_69 z M 0 x3 x4 s0 (M 25 (Int32.toNatClampNeg x1)))
theorem t_X8_endOf_31 {K : KK} {a : AA} (S : Sx K RX8 cX8_endOf 9 (rmD 0)) {r : Int32} {M : Mem} (rt : RtI K a cX8_endOf r M) (s0 : Int32) (x1 : Int32) (x2 : Int32) (x3 : Int32) (x4 : Int32) (hf : f_X8_endOf_31 a.1 M s0 x1 x2 x3 x4 = some r) : Go K 9 a M 31 [(0, .ref (a.2 0)), (1, .int x1), (2, .int x2), (3, .int x3), (4, .int x4)] [.int s0] := by
  unfold f_X8_endOf_31 at hf
  refine g_istore (lv' := [(5, .int s0), (0, .ref (a.2 0)), (1, .int x1), (2, .int x2), (3, .int x3), (4, .int x4)]) S dX8_endOf_31 (by decide) rfl ?_
  refine g_iload_n 3 S dX8_endOf_33 rfl ?_
  refine g_if_ne (tgt := 46) S dX8_endOf_34 (by decide) hf (fun c hf => ?_) (fun c hf => ?_)
  · refine g_aload_n 1 S dX8_endOf_37 rfl ?_
    refine g_get (v := .ref (a.2 24)) S ob_0 rfl gi_X8 (by decide) lf_X8_74 rfl dX8_endOf_38 ?_
    refine g_iload_n 2 S dX8_endOf_41 rfl ?_
    refine g_iald S ia_24 dX8_endOf_42 hf (fun hf => ?_)
    refine g_goto (tgt := 52) S dX8_endOf_43 (by decide) ?_
    refine g_istore (lv' := [(6, .int (M 24 (Int32.toNatClampNeg x1))), (5, .int s0), (0, .ref (a.2 0)), (1, .int x1), (2, .int x2), (3, .int x3), (4, .int x4)]) S dX8_endOf_52 (by decide) rfl ?_
    refine g_aload_n 2 S dX8_endOf_54 rfl ?_
    refine g_get (v := .int (M 0 30)) S ob_0 rfl gi_X8 (by decide) lf_X8_206 rfl dX8_endOf_55 ?_
    refine g_iconst (v := 2) S dX8_endOf_58 rfl ?_
    refine g_irem S dX8_endOf_59 (by decide) ?_
    refine g_iload_n 4 S dX8_endOf_60 rfl ?_
    refine g_icmp_ne (tgt := 68) S dX8_endOf_61 (by decide) hf (fun c hf => ?_) (fun c hf => ?_)
    · refine g_iconst (v := 1) S dX8_endOf_64 rfl ?_
      refine g_goto (tgt := 69) S dX8_endOf_65 (by decide) ?_
      refine Go.sub [2, 5, 6, 1, 0] rfl ?_
      exact t_X8_endOf_69  S rt _ _ _ _ _ hf
    · refine g_iconst (v := 0) S dX8_endOf_68 rfl ?_
      refine Go.sub [2, 5, 6, 1, 0] rfl ?_
      exact t_X8_endOf_69  S rt _ _ _ _ _ hf
  · refine g_aload_n 1 S dX8_endOf_46 rfl ?_
    refine g_get (v := .ref (a.2 25)) S ob_0 rfl gi_X8 (by decide) lf_X8_77 rfl dX8_endOf_47 ?_
    refine g_iload_n 2 S dX8_endOf_50 rfl ?_
    refine g_iald S ia_25 dX8_endOf_51 hf (fun hf => ?_)
    refine g_istore (lv' := [(6, .int (M 25 (Int32.toNatClampNeg x1))), (5, .int s0), (0, .ref (a.2 0)), (1, .int x1), (2, .int x2), (3, .int x3), (4, .int x4)]) S dX8_endOf_52 (by decide) rfl ?_
    refine g_aload_n 2 S dX8_endOf_54 rfl ?_
    refine g_get (v := .int (M 0 30)) S ob_0 rfl gi_X8 (by decide) lf_X8_206 rfl dX8_endOf_55 ?_
    refine g_iconst (v := 2) S dX8_endOf_58 rfl ?_
    refine g_irem S dX8_endOf_59 (by decide) ?_
    refine g_iload_n 4 S dX8_endOf_60 rfl ?_
    refine g_icmp_ne (tgt := 68) S dX8_endOf_61 (by decide) hf (fun c hf => ?_) (fun c hf => ?_)
    · refine g_iconst (v := 1) S dX8_endOf_64 rfl ?_
      refine g_goto (tgt := 69) S dX8_endOf_65 (by decide) ?_
      refine Go.sub [2, 5, 6, 1, 0] rfl ?_
      exact t_X8_endOf_69  S rt _ _ _ _ _ hf
    · refine g_iconst (v := 0) S dX8_endOf_68 rfl ?_
      refine Go.sub [2, 5, 6, 1, 0] rfl ?_
      exact t_X8_endOf_69  S rt _ _ _ _ _ hf
def f_X8_endOf (z : Nat → Nat) (M : Mem) (p1 : Int32) (p2 : Int32) (p3 : Int32) : Option Int32 := ck (inb p1 10) (ck (inb (M 26 (Int32.toNatClampNeg p1)) 10) (if (M 0 31) ≤ (M 13 (Int32.toNatClampNeg (M 26 (Int32.toNatClampNeg p1)))) then f_X8_endOf_31 z M (M 0 31) p1 p2 p3 (M 13 (Int32.toNatClampNeg (M 26 (Int32.toNatClampNeg p1)))) else f_X8_endOf_31 z M (M 13 (Int32.toNatClampNeg (M 26 (Int32.toNatClampNeg p1)))) p1 p2 p3 (M 13 (Int32.toNatClampNeg (M 26 (Int32.toNatClampNeg p1))))))
theorem c_X8_endOf {l : Launch} {G : GG} {a : AA} {M : Mem} {p1 : Int32} {p2 : Int32} {p3 : Int32} {r : Int32} (hf : f_X8_endOf a.1 M p1 p2 p3 = some r) : CtI l G a yX8_endOf cX8_endOf 9 .int (rmD 0) [.ref (a.2 0), .int p1, .int p2, .int p3] M r M := by
  refine ct_I (by decide) rfl rfl (own := RX8) (Nat.le_of_ble_eq_true rfl) (fun K hl hg S rt => ?_)
  subst hl; subst hg
  unfold f_X8_endOf at hf
  show Go K 9 a M 0 [(0, .ref (a.2 0)), (1, .int p1), (2, .int p2), (3, .int p3)] []
  refine g_aload_n 0 S dX8_endOf_0 rfl ?_
  refine g_get (v := .ref (a.2 13)) S ob_0 rfl gi_X8 (by decide) lf_X8_44 rfl dX8_endOf_1 ?_
  refine g_aload_n 0 S dX8_endOf_4 rfl ?_
  refine g_get (v := .ref (a.2 26)) S ob_0 rfl gi_X8 (by decide) lf_X8_80 rfl dX8_endOf_5 ?_
  refine g_iload_n 1 S dX8_endOf_8 rfl ?_
  refine g_iald S ia_26 dX8_endOf_9 hf (fun hf => ?_)
  refine g_iald S ia_13 dX8_endOf_10 hf (fun hf => ?_)
  refine g_istore (lv' := [(4, .int (M 13 (Int32.toNatClampNeg (M 26 (Int32.toNatClampNeg p1))))), (0, .ref (a.2 0)), (1, .int p1), (2, .int p2), (3, .int p3)]) S dX8_endOf_11 (by decide) rfl ?_
  refine g_iload 0 S dX8_endOf_13 rfl ?_
  refine g_aload_n 1 S dX8_endOf_15 rfl ?_
  refine g_get (v := .int (M 0 31)) S ob_0 rfl gi_X8 (by decide) lf_X8_93 rfl dX8_endOf_16 ?_
  refine g_icmp_ge (tgt := 27) S dX8_endOf_19 (by decide) hf (fun c hf => ?_) (fun c hf => ?_)
  · refine g_aload_n 1 S dX8_endOf_27 rfl ?_
    refine g_get (v := .int (M 0 31)) S ob_0 rfl gi_X8 (by decide) lf_X8_93 rfl dX8_endOf_28 ?_
    refine Go.sub [1, 2, 3, 4, 0] rfl ?_
    exact t_X8_endOf_31  S rt _ _ _ _ _ hf
  · refine g_iload 0 S dX8_endOf_22 rfl ?_
    refine g_goto (tgt := 31) S dX8_endOf_24 (by decide) ?_
    refine Go.sub [1, 2, 3, 4, 0] rfl ?_
    exact t_X8_endOf_31  S rt _ _ _ _ _ hf
-- BridleBookModel.isInCone(II)Z
theorem dX8_isInCone_0 : decode cX8_isInCone 0 = .ok (.iload_n 2, 1) := by decide +kernel
theorem dX8_isInCone_1 : decode cX8_isInCone 1 = .ok (.sipush 200, 3) := by decide +kernel
theorem dX8_isInCone_4 : decode cX8_isInCone 4 = .ok (.idiv, 1) := by decide +kernel
theorem dX8_isInCone_5 : decode cX8_isInCone 5 = .ok (.aload_n 0, 1) := by decide +kernel
theorem dX8_isInCone_6 : decode cX8_isInCone 6 = .ok (.iload_n 1, 1) := by decide +kernel
theorem dX8_isInCone_7 : decode cX8_isInCone 7 = .ok (.iconst 0, 1) := by decide +kernel
theorem dX8_isInCone_8 : decode cX8_isInCone 8 = .ok (.iconst 0, 1) := by decide +kernel
theorem dX8_isInCone_9 : decode cX8_isInCone 9 = .ok (.invokevirtual 215, 3) := by decide +kernel
theorem dX8_isInCone_12 : decode cX8_isInCone 12 = .ok (.aload_n 0, 1) := by decide +kernel
theorem dX8_isInCone_13 : decode cX8_isInCone 13 = .ok (.iload_n 1, 1) := by decide +kernel
theorem dX8_isInCone_14 : decode cX8_isInCone 14 = .ok (.iconst 0, 1) := by decide +kernel
theorem dX8_isInCone_15 : decode cX8_isInCone 15 = .ok (.iconst 1, 1) := by decide +kernel
theorem dX8_isInCone_16 : decode cX8_isInCone 16 = .ok (.invokevirtual 215, 3) := by decide +kernel
theorem dX8_isInCone_19 : decode cX8_isInCone 19 = .ok (.invokestatic 111, 3) := by decide +kernel
theorem dX8_isInCone_22 : decode cX8_isInCone 22 = .ok (.ifCond .eq 32, 3) := by decide +kernel
theorem dX8_isInCone_25 : decode cX8_isInCone 25 = .ok (.iload_n 2, 1) := by decide +kernel
theorem dX8_isInCone_26 : decode cX8_isInCone 26 = .ok (.sipush 200, 3) := by decide +kernel
theorem dX8_isInCone_29 : decode cX8_isInCone 29 = .ok (.irem, 1) := by decide +kernel
theorem dX8_isInCone_30 : decode cX8_isInCone 30 = .ok (.aload_n 0, 1) := by decide +kernel
theorem dX8_isInCone_31 : decode cX8_isInCone 31 = .ok (.iload_n 1, 1) := by decide +kernel
theorem dX8_isInCone_32 : decode cX8_isInCone 32 = .ok (.iconst 1, 1) := by decide +kernel
theorem dX8_isInCone_33 : decode cX8_isInCone 33 = .ok (.iconst 0, 1) := by decide +kernel
theorem dX8_isInCone_34 : decode cX8_isInCone 34 = .ok (.invokevirtual 215, 3) := by decide +kernel
theorem dX8_isInCone_37 : decode cX8_isInCone 37 = .ok (.aload_n 0, 1) := by decide +kernel
theorem dX8_isInCone_38 : decode cX8_isInCone 38 = .ok (.iload_n 1, 1) := by decide +kernel
theorem dX8_isInCone_39 : decode cX8_isInCone 39 = .ok (.iconst 1, 1) := by decide +kernel
theorem dX8_isInCone_40 : decode cX8_isInCone 40 = .ok (.iconst 1, 1) := by decide +kernel
theorem dX8_isInCone_41 : decode cX8_isInCone 41 = .ok (.invokevirtual 215, 3) := by decide +kernel
theorem dX8_isInCone_44 : decode cX8_isInCone 44 = .ok (.invokestatic 111, 3) := by decide +kernel
theorem dX8_isInCone_47 : decode cX8_isInCone 47 = .ok (.ifCond .eq 7, 3) := by decide +kernel
theorem dX8_isInCone_50 : decode cX8_isInCone 50 = .ok (.iconst 1, 1) := by decide +kernel
theorem dX8_isInCone_51 : decode cX8_isInCone 51 = .ok (.goto 4, 3) := by decide +kernel
theorem dX8_isInCone_54 : decode cX8_isInCone 54 = .ok (.iconst 0, 1) := by decide +kernel
theorem dX8_isInCone_55 : decode cX8_isInCone 55 = .ok (.ireturn, 1) := by decide +kernel
def f_X8_isInCone (z : Nat → Nat) (M : Mem) (p1 : Int32) (p2 : Int32) : Option Bool := bd1 (f_X8_endOf z M p1 0 0) (fun r1 => bd1 (f_X8_endOf z M p1 0 1) (fun r2 => bd1 (f_X8_in z M (p2 / 200) r1 r2) (fun r3 => if r3 = true then bd1 (f_X8_endOf z M p1 1 0) (fun r4 => bd1 (f_X8_endOf z M p1 1 1) (fun r5 => bd1 (f_X8_in z M (irem p2 200) r4 r5) (fun r6 => if r6 = true then some true else some false))) else some false)))
theorem c_X8_isInCone {l : Launch} {G : GG} {a : AA} {M : Mem} {p1 : Int32} {p2 : Int32} {r : Bool} (hf : f_X8_isInCone a.1 M p1 p2 = some r) : CtI l G a yX8_isInCone cX8_isInCone 3 .boolean (rmD 1) [.ref (a.2 0), .int p1, .int p2] M (b2i r) M := by
  refine ct_I (by decide) rfl (b2i_n _) (own := RX8) (Nat.le_of_ble_eq_true rfl) (fun K hl hg S rt => ?_)
  subst hl; subst hg
  unfold f_X8_isInCone at hf
  show Go K 3 a M 0 [(0, .ref (a.2 0)), (1, .int p1), (2, .int p2)] []
  refine g_iload_n 2 S dX8_isInCone_0 rfl ?_
  refine g_sipush (v := 200) S dX8_isInCone_1 rfl ?_
  refine g_idiv S dX8_isInCone_4 (by decide) ?_
  refine g_aload_n 0 S dX8_isInCone_5 rfl ?_
  refine g_iload_n 1 S dX8_isInCone_6 rfl ?_
  refine g_iconst (v := 0) S dX8_isInCone_7 rfl ?_
  refine g_iconst (v := 0) S dX8_isInCone_8 rfl ?_
  obtain ⟨r1, hr1, hf⟩ := bd1_some hf
  refine g_cVI (st := [.int (p2 / 200)]) S ob_0 rfl ok_X8_endOf lk_X8_215 (c_X8_endOf hr1) rfl rfl ⟨by decide, by decide⟩ (rmD_z _) (Nat.le_of_ble_eq_true rfl) dX8_isInCone_9 ?_
  refine g_aload_n 0 S dX8_isInCone_12 rfl ?_
  refine g_iload_n 1 S dX8_isInCone_13 rfl ?_
  refine g_iconst (v := 0) S dX8_isInCone_14 rfl ?_
  refine g_iconst (v := 1) S dX8_isInCone_15 rfl ?_
  obtain ⟨r2, hr2, hf⟩ := bd1_some hf
  refine g_cVI (st := [.int r1, .int (p2 / 200)]) S ob_0 rfl ok_X8_endOf lk_X8_215 (c_X8_endOf hr2) rfl rfl ⟨by decide, by decide⟩ (rmD_z _) (Nat.le_of_ble_eq_true rfl) dX8_isInCone_16 ?_
  obtain ⟨r3, hr3, hf⟩ := bd1_some hf
  refine g_cSI (st := []) S ok_X8_in lk_X8_111 (c_X8_in hr3) rfl rfl ⟨by decide, by decide⟩ (rmD_z _) (Nat.le_of_ble_eq_true rfl) dX8_isInCone_19 ?_
  refine g_if_eqB (tgt := 54) S dX8_isInCone_22 (by decide) hf (fun c hf => ?_) (fun c hf => ?_)
  · refine g_iload_n 2 S dX8_isInCone_25 rfl ?_
    refine g_sipush (v := 200) S dX8_isInCone_26 rfl ?_
    refine g_irem S dX8_isInCone_29 (by decide) ?_
    refine g_aload_n 0 S dX8_isInCone_30 rfl ?_
    refine g_iload_n 1 S dX8_isInCone_31 rfl ?_
    refine g_iconst (v := 1) S dX8_isInCone_32 rfl ?_
    refine g_iconst (v := 0) S dX8_isInCone_33 rfl ?_
    obtain ⟨r4, hr4, hf⟩ := bd1_some hf
    refine g_cVI (st := [.int (irem p2 200)]) S ob_0 rfl ok_X8_endOf lk_X8_215 (c_X8_endOf hr4) rfl rfl ⟨by decide, by decide⟩ (rmD_z _) (Nat.le_of_ble_eq_true rfl) dX8_isInCone_34 ?_
    refine g_aload_n 0 S dX8_isInCone_37 rfl ?_
    refine g_iload_n 1 S dX8_isInCone_38 rfl ?_
    refine g_iconst (v := 1) S dX8_isInCone_39 rfl ?_
    refine g_iconst (v := 1) S dX8_isInCone_40 rfl ?_
    obtain ⟨r5, hr5, hf⟩ := bd1_some hf
    refine g_cVI (st := [.int r4, .int (irem p2 200)]) S ob_0 rfl ok_X8_endOf lk_X8_215 (c_X8_endOf hr5) rfl rfl ⟨by decide, by decide⟩ (rmD_z _) (Nat.le_of_ble_eq_true rfl) dX8_isInCone_41 ?_
    obtain ⟨r6, hr6, hf⟩ := bd1_some hf
    refine g_cSI (st := []) S ok_X8_in lk_X8_111 (c_X8_in hr6) rfl rfl ⟨by decide, by decide⟩ (rmD_z _) (Nat.le_of_ble_eq_true rfl) dX8_isInCone_44 ?_
    refine g_if_eqB (tgt := 54) S dX8_isInCone_47 (by decide) hf (fun c hf => ?_) (fun c hf => ?_)
    · refine g_iconst (v := 1) S dX8_isInCone_50 rfl ?_
      refine g_goto (tgt := 55) S dX8_isInCone_51 (by decide) ?_
      exact g_zretP rt hf dX8_isInCone_55 rfl
    · refine g_iconst (v := 0) S dX8_isInCone_54 rfl ?_
      exact g_zretP rt hf dX8_isInCone_55 rfl
  · refine g_iconst (v := 0) S dX8_isInCone_54 rfl ?_
    exact g_zretP rt hf dX8_isInCone_55 rfl
-- BridleBookModel.doMeet(II)Z
theorem dX8_doMeet_0 : decode cX8_doMeet 0 = .ok (.iconst 0, 1) := by decide +kernel
theorem dX8_doMeet_1 : decode cX8_doMeet 1 = .ok (.istore_n 3, 1) := by decide +kernel
theorem dX8_doMeet_2 : decode cX8_doMeet 2 = .ok (.iload_n 3, 1) := by decide +kernel
theorem dX8_doMeet_3 : decode cX8_doMeet 3 = .ok (.iconst 2, 1) := by decide +kernel
theorem dX8_doMeet_4 : decode cX8_doMeet 4 = .ok (.if_icmp .ge 45, 3) := by decide +kernel
theorem dX8_doMeet_7 : decode cX8_doMeet 7 = .ok (.aload_n 0, 1) := by decide +kernel
theorem dX8_doMeet_8 : decode cX8_doMeet 8 = .ok (.iload_n 1, 1) := by decide +kernel
theorem dX8_doMeet_9 : decode cX8_doMeet 9 = .ok (.iload_n 3, 1) := by decide +kernel
theorem dX8_doMeet_10 : decode cX8_doMeet 10 = .ok (.iconst 0, 1) := by decide +kernel
theorem dX8_doMeet_11 : decode cX8_doMeet 11 = .ok (.invokevirtual 215, 3) := by decide +kernel
theorem dX8_doMeet_14 : decode cX8_doMeet 14 = .ok (.aload_n 0, 1) := by decide +kernel
theorem dX8_doMeet_15 : decode cX8_doMeet 15 = .ok (.iload_n 2, 1) := by decide +kernel
theorem dX8_doMeet_16 : decode cX8_doMeet 16 = .ok (.iload_n 3, 1) := by decide +kernel
theorem dX8_doMeet_17 : decode cX8_doMeet 17 = .ok (.iconst 1, 1) := by decide +kernel
theorem dX8_doMeet_18 : decode cX8_doMeet 18 = .ok (.invokevirtual 215, 3) := by decide +kernel
theorem dX8_doMeet_21 : decode cX8_doMeet 21 = .ok (.if_icmp .gt 20, 3) := by decide +kernel
theorem dX8_doMeet_24 : decode cX8_doMeet 24 = .ok (.aload_n 0, 1) := by decide +kernel
theorem dX8_doMeet_25 : decode cX8_doMeet 25 = .ok (.iload_n 2, 1) := by decide +kernel
theorem dX8_doMeet_26 : decode cX8_doMeet 26 = .ok (.iload_n 3, 1) := by decide +kernel
theorem dX8_doMeet_27 : decode cX8_doMeet 27 = .ok (.iconst 0, 1) := by decide +kernel
theorem dX8_doMeet_28 : decode cX8_doMeet 28 = .ok (.invokevirtual 215, 3) := by decide +kernel
theorem dX8_doMeet_31 : decode cX8_doMeet 31 = .ok (.aload_n 0, 1) := by decide +kernel
theorem dX8_doMeet_32 : decode cX8_doMeet 32 = .ok (.iload_n 1, 1) := by decide +kernel
theorem dX8_doMeet_33 : decode cX8_doMeet 33 = .ok (.iload_n 3, 1) := by decide +kernel
theorem dX8_doMeet_34 : decode cX8_doMeet 34 = .ok (.iconst 1, 1) := by decide +kernel
theorem dX8_doMeet_35 : decode cX8_doMeet 35 = .ok (.invokevirtual 215, 3) := by decide +kernel
theorem dX8_doMeet_38 : decode cX8_doMeet 38 = .ok (.if_icmp .le 5, 3) := by decide +kernel
theorem dX8_doMeet_41 : decode cX8_doMeet 41 = .ok (.iconst 0, 1) := by decide +kernel
theorem dX8_doMeet_42 : decode cX8_doMeet 42 = .ok (.ireturn, 1) := by decide +kernel
theorem dX8_doMeet_43 : decode cX8_doMeet 43 = .ok (.iinc 3 1, 3) := by decide +kernel
theorem dX8_doMeet_46 : decode cX8_doMeet 46 = .ok (.goto (-44), 3) := by decide +kernel
theorem dX8_doMeet_49 : decode cX8_doMeet 49 = .ok (.iconst 1, 1) := by decide +kernel
theorem dX8_doMeet_50 : decode cX8_doMeet 50 = .ok (.ireturn, 1) := by decide +kernel
def f_X8_doMeet_2 (z : Nat → Nat) (M : Mem) : Nat → Int32 → Int32 → Int32 → Option Bool
  | 0, _, _, _ => none
  | fu + 1, x1, x2, x3 => if 2 ≤ x3 then some true else bd1 (f_X8_endOf z M x1 x3 0) (fun r1 => bd1 (f_X8_endOf z M x2 x3 1) (fun r2 => if r2 < r1 then some false else bd1 (f_X8_endOf z M x2 x3 0) (fun r3 => bd1 (f_X8_endOf z M x1 x3 1) (fun r4 => if r3 ≤ r4 then f_X8_doMeet_2 z M fu x1 x2 (x3 + 1) else some false))))
theorem t_X8_doMeet_2 {K : KK} {a : AA} (S : Sx K RX8 cX8_doMeet 4 (rmD 1)) {r : Bool} {M : Mem} (rt : RtI K a cX8_doMeet (b2i r) M) : ∀ (fu : Nat) (x1 : Int32) (x2 : Int32) (x3 : Int32), f_X8_doMeet_2 a.1 M fu x1 x2 x3 = some r → Go K 4 a M 2 [(0, .ref (a.2 0)), (1, .int x1), (2, .int x2), (3, .int x3)] [] := by
  intro fu
  induction fu with
  | zero => intro x1 x2 x3 hf; exact absurd hf (by simp [f_X8_doMeet_2])
  | succ fu ih =>
    intro x1 x2 x3 hf
    rw [f_X8_doMeet_2] at hf
    refine g_iload_n 3 S dX8_doMeet_2 rfl ?_
    refine g_iconst (v := 2) S dX8_doMeet_3 rfl ?_
    refine g_icmp_ge (tgt := 49) S dX8_doMeet_4 (by decide) hf (fun c hf => ?_) (fun c hf => ?_)
    · refine g_iconst (v := 1) S dX8_doMeet_49 rfl ?_
      exact g_zretP rt hf dX8_doMeet_50 rfl
    · refine g_aload_n 0 S dX8_doMeet_7 rfl ?_
      refine g_iload_n 1 S dX8_doMeet_8 rfl ?_
      refine g_iload_n 3 S dX8_doMeet_9 rfl ?_
      refine g_iconst (v := 0) S dX8_doMeet_10 rfl ?_
      obtain ⟨r1, hr1, hf⟩ := bd1_some hf
      refine g_cVI (st := []) S ob_0 rfl ok_X8_endOf lk_X8_215 (c_X8_endOf hr1) rfl rfl ⟨by decide, by decide⟩ (rmD_z _) (Nat.le_of_ble_eq_true rfl) dX8_doMeet_11 ?_
      refine g_aload_n 0 S dX8_doMeet_14 rfl ?_
      refine g_iload_n 2 S dX8_doMeet_15 rfl ?_
      refine g_iload_n 3 S dX8_doMeet_16 rfl ?_
      refine g_iconst (v := 1) S dX8_doMeet_17 rfl ?_
      obtain ⟨r2, hr2, hf⟩ := bd1_some hf
      refine g_cVI (st := [.int r1]) S ob_0 rfl ok_X8_endOf lk_X8_215 (c_X8_endOf hr2) rfl rfl ⟨by decide, by decide⟩ (rmD_z _) (Nat.le_of_ble_eq_true rfl) dX8_doMeet_18 ?_
      refine g_icmp_gt (tgt := 41) S dX8_doMeet_21 (by decide) hf (fun c hf => ?_) (fun c hf => ?_)
      · refine g_iconst (v := 0) S dX8_doMeet_41 rfl ?_
        exact g_zretP rt hf dX8_doMeet_42 rfl
      · refine g_aload_n 0 S dX8_doMeet_24 rfl ?_
        refine g_iload_n 2 S dX8_doMeet_25 rfl ?_
        refine g_iload_n 3 S dX8_doMeet_26 rfl ?_
        refine g_iconst (v := 0) S dX8_doMeet_27 rfl ?_
        obtain ⟨r3, hr3, hf⟩ := bd1_some hf
        refine g_cVI (st := []) S ob_0 rfl ok_X8_endOf lk_X8_215 (c_X8_endOf hr3) rfl rfl ⟨by decide, by decide⟩ (rmD_z _) (Nat.le_of_ble_eq_true rfl) dX8_doMeet_28 ?_
        refine g_aload_n 0 S dX8_doMeet_31 rfl ?_
        refine g_iload_n 1 S dX8_doMeet_32 rfl ?_
        refine g_iload_n 3 S dX8_doMeet_33 rfl ?_
        refine g_iconst (v := 1) S dX8_doMeet_34 rfl ?_
        obtain ⟨r4, hr4, hf⟩ := bd1_some hf
        refine g_cVI (st := [.int r3]) S ob_0 rfl ok_X8_endOf lk_X8_215 (c_X8_endOf hr4) rfl rfl ⟨by decide, by decide⟩ (rmD_z _) (Nat.le_of_ble_eq_true rfl) dX8_doMeet_35 ?_
        refine g_icmp_le (tgt := 43) S dX8_doMeet_38 (by decide) hf (fun c hf => ?_) (fun c hf => ?_)
        · refine g_iinc (v := (x3 + 1)) (lv' := [(3, .int (x3 + 1)), (0, .ref (a.2 0)), (1, .int x1), (2, .int x2)]) 3 S dX8_doMeet_43 rfl rfl (by decide) rfl ?_
          refine g_goto (tgt := 2) S dX8_doMeet_46 (by decide) ?_
          refine Go.sub [1, 2, 3, 0] rfl ?_
          exact ih _ _ _ hf
        · refine g_iconst (v := 0) S dX8_doMeet_41 rfl ?_
          exact g_zretP rt hf dX8_doMeet_42 rfl
def f_X8_doMeet (z : Nat → Nat) (M : Mem) (p1 : Int32) (p2 : Int32) : Option Bool := f_X8_doMeet_2 z M 1000 p1 p2 0
theorem c_X8_doMeet {l : Launch} {G : GG} {a : AA} {M : Mem} {p1 : Int32} {p2 : Int32} {r : Bool} (hf : f_X8_doMeet a.1 M p1 p2 = some r) : CtI l G a yX8_doMeet cX8_doMeet 4 .boolean (rmD 1) [.ref (a.2 0), .int p1, .int p2] M (b2i r) M := by
  refine ct_I (by decide) rfl (b2i_n _) (own := RX8) (Nat.le_of_ble_eq_true rfl) (fun K hl hg S rt => ?_)
  subst hl; subst hg
  unfold f_X8_doMeet at hf
  show Go K 4 a M 0 [(0, .ref (a.2 0)), (1, .int p1), (2, .int p2)] []
  refine g_iconst (v := 0) S dX8_doMeet_0 rfl ?_
  refine g_istore_n (lv' := [(3, .int 0), (0, .ref (a.2 0)), (1, .int p1), (2, .int p2)]) S dX8_doMeet_1 (by decide) rfl ?_
  refine Go.sub [1, 2, 3, 0] rfl ?_
  exact t_X8_doMeet_2  S rt 1000 _ _ _ hf
-- BridleBookModel.whyNot(I)I
theorem dX8_whyNot_0 : decode cX8_whyNot 0 = .ok (.iconst 0, 1) := by decide +kernel
theorem dX8_whyNot_1 : decode cX8_whyNot 1 = .ok (.istore_n 2, 1) := by decide +kernel
theorem dX8_whyNot_2 : decode cX8_whyNot 2 = .ok (.iload_n 2, 1) := by decide +kernel
theorem dX8_whyNot_3 : decode cX8_whyNot 3 = .ok (.aload_n 0, 1) := by decide +kernel
theorem dX8_whyNot_4 : decode cX8_whyNot 4 = .ok (.getfield 209, 3) := by decide +kernel
theorem dX8_whyNot_7 : decode cX8_whyNot 7 = .ok (.if_icmp .ge 25, 3) := by decide +kernel
theorem dX8_whyNot_10 : decode cX8_whyNot 10 = .ok (.aload_n 0, 1) := by decide +kernel
theorem dX8_whyNot_11 : decode cX8_whyNot 11 = .ok (.iload_n 1, 1) := by decide +kernel
theorem dX8_whyNot_12 : decode cX8_whyNot 12 = .ok (.aload_n 0, 1) := by decide +kernel
theorem dX8_whyNot_13 : decode cX8_whyNot 13 = .ok (.getfield 96, 3) := by decide +kernel
theorem dX8_whyNot_16 : decode cX8_whyNot 16 = .ok (.iload_n 2, 1) := by decide +kernel
theorem dX8_whyNot_17 : decode cX8_whyNot 17 = .ok (.iaload, 1) := by decide +kernel
theorem dX8_whyNot_18 : decode cX8_whyNot 18 = .ok (.invokevirtual 218, 3) := by decide +kernel
theorem dX8_whyNot_21 : decode cX8_whyNot 21 = .ok (.ifCond .eq 5, 3) := by decide +kernel
theorem dX8_whyNot_24 : decode cX8_whyNot 24 = .ok (.iconst 1, 1) := by decide +kernel
theorem dX8_whyNot_25 : decode cX8_whyNot 25 = .ok (.ireturn, 1) := by decide +kernel
theorem dX8_whyNot_26 : decode cX8_whyNot 26 = .ok (.iinc 2 1, 3) := by decide +kernel
theorem dX8_whyNot_29 : decode cX8_whyNot 29 = .ok (.goto (-27), 3) := by decide +kernel
theorem dX8_whyNot_32 : decode cX8_whyNot 32 = .ok (.iconst 0, 1) := by decide +kernel
theorem dX8_whyNot_33 : decode cX8_whyNot 33 = .ok (.istore_n 2, 1) := by decide +kernel
theorem dX8_whyNot_34 : decode cX8_whyNot 34 = .ok (.iload_n 2, 1) := by decide +kernel
theorem dX8_whyNot_35 : decode cX8_whyNot 35 = .ok (.aload_n 0, 1) := by decide +kernel
theorem dX8_whyNot_36 : decode cX8_whyNot 36 = .ok (.getfield 199, 3) := by decide +kernel
theorem dX8_whyNot_39 : decode cX8_whyNot 39 = .ok (.if_icmp .ge 48, 3) := by decide +kernel
theorem dX8_whyNot_42 : decode cX8_whyNot 42 = .ok (.iload_n 2, 1) := by decide +kernel
theorem dX8_whyNot_43 : decode cX8_whyNot 43 = .ok (.iload_n 1, 1) := by decide +kernel
theorem dX8_whyNot_44 : decode cX8_whyNot 44 = .ok (.if_icmp .eq 37, 3) := by decide +kernel
theorem dX8_whyNot_47 : decode cX8_whyNot 47 = .ok (.aload_n 0, 1) := by decide +kernel
theorem dX8_whyNot_48 : decode cX8_whyNot 48 = .ok (.getfield 83, 3) := by decide +kernel
theorem dX8_whyNot_51 : decode cX8_whyNot 51 = .ok (.iload_n 2, 1) := by decide +kernel
theorem dX8_whyNot_52 : decode cX8_whyNot 52 = .ok (.baload, 1) := by decide +kernel
theorem dX8_whyNot_53 : decode cX8_whyNot 53 = .ok (.ifCond .eq 28, 3) := by decide +kernel
theorem dX8_whyNot_56 : decode cX8_whyNot 56 = .ok (.aload_n 0, 1) := by decide +kernel
theorem dX8_whyNot_57 : decode cX8_whyNot 57 = .ok (.getfield 90, 3) := by decide +kernel
theorem dX8_whyNot_60 : decode cX8_whyNot 60 = .ok (.bipush 10, 2) := by decide +kernel
theorem dX8_whyNot_62 : decode cX8_whyNot 62 = .ok (.iload_n 1, 1) := by decide +kernel
theorem dX8_whyNot_63 : decode cX8_whyNot 63 = .ok (.imul, 1) := by decide +kernel
theorem dX8_whyNot_64 : decode cX8_whyNot 64 = .ok (.iload_n 2, 1) := by decide +kernel
theorem dX8_whyNot_65 : decode cX8_whyNot 65 = .ok (.iadd, 1) := by decide +kernel
theorem dX8_whyNot_66 : decode cX8_whyNot 66 = .ok (.baload, 1) := by decide +kernel
theorem dX8_whyNot_67 : decode cX8_whyNot 67 = .ok (.ifCond .ne 14, 3) := by decide +kernel
theorem dX8_whyNot_70 : decode cX8_whyNot 70 = .ok (.aload_n 0, 1) := by decide +kernel
theorem dX8_whyNot_71 : decode cX8_whyNot 71 = .ok (.iload_n 1, 1) := by decide +kernel
theorem dX8_whyNot_72 : decode cX8_whyNot 72 = .ok (.iload_n 2, 1) := by decide +kernel
theorem dX8_whyNot_73 : decode cX8_whyNot 73 = .ok (.invokevirtual 221, 3) := by decide +kernel
theorem dX8_whyNot_76 : decode cX8_whyNot 76 = .ok (.ifCond .eq 5, 3) := by decide +kernel
theorem dX8_whyNot_79 : decode cX8_whyNot 79 = .ok (.iconst 2, 1) := by decide +kernel
theorem dX8_whyNot_80 : decode cX8_whyNot 80 = .ok (.ireturn, 1) := by decide +kernel
theorem dX8_whyNot_81 : decode cX8_whyNot 81 = .ok (.iinc 2 1, 3) := by decide +kernel
theorem dX8_whyNot_84 : decode cX8_whyNot 84 = .ok (.goto (-50), 3) := by decide +kernel
theorem dX8_whyNot_87 : decode cX8_whyNot 87 = .ok (.iconst 0, 1) := by decide +kernel
theorem dX8_whyNot_88 : decode cX8_whyNot 88 = .ok (.ireturn, 1) := by decide +kernel
def f_X8_whyNot_34 (z : Nat → Nat) (M : Mem) : Nat → Int32 → Int32 → Option Int32
  | 0, _, _ => none
  | fu + 1, x1, x2 => if (M 0 23) ≤ x2 then some 0 else if x2 = x1 then f_X8_whyNot_34 z M fu x1 (x2 + 1) else ck (inb x2 10) (if (M 27 (Int32.toNatClampNeg x2)) = 0 then f_X8_whyNot_34 z M fu x1 (x2 + 1) else ck (inb ((10 * x1) + x2) 100) (if (M 29 (Int32.toNatClampNeg ((10 * x1) + x2))) = 0 then bd1 (f_X8_doMeet z M x1 x2) (fun r1 => if r1 = true then some 2 else f_X8_whyNot_34 z M fu x1 (x2 + 1)) else f_X8_whyNot_34 z M fu x1 (x2 + 1)))
theorem t_X8_whyNot_34 {K : KK} {a : AA} (S : Sx K RX8 cX8_whyNot 3 (rmD 2)) {r : Int32} {M : Mem} (rt : RtI K a cX8_whyNot r M) : ∀ (fu : Nat) (x1 : Int32) (x2 : Int32), f_X8_whyNot_34 a.1 M fu x1 x2 = some r → Go K 3 a M 34 [(0, .ref (a.2 0)), (1, .int x1), (2, .int x2)] [] := by
  intro fu
  induction fu with
  | zero => intro x1 x2 hf; exact absurd hf (by simp [f_X8_whyNot_34])
  | succ fu ih =>
    intro x1 x2 hf
    rw [f_X8_whyNot_34] at hf
    refine g_iload_n 2 S dX8_whyNot_34 rfl ?_
    refine g_aload_n 0 S dX8_whyNot_35 rfl ?_
    refine g_get (v := .int (M 0 23)) S ob_0 rfl gi_X8 (by decide) lf_X8_199 rfl dX8_whyNot_36 ?_
    refine g_icmp_ge (tgt := 87) S dX8_whyNot_39 (by decide) hf (fun c hf => ?_) (fun c hf => ?_)
    · refine g_iconst (v := 0) S dX8_whyNot_87 rfl ?_
      exact g_iretP rt hf dX8_whyNot_88
    · refine g_iload_n 2 S dX8_whyNot_42 rfl ?_
      refine g_iload_n 1 S dX8_whyNot_43 rfl ?_
      refine g_icmp_eq (tgt := 81) S dX8_whyNot_44 (by decide) hf (fun c hf => ?_) (fun c hf => ?_)
      · refine g_iinc (v := (x2 + 1)) (lv' := [(2, .int (x2 + 1)), (0, .ref (a.2 0)), (1, .int x1)]) 2 S dX8_whyNot_81 rfl rfl (by decide) rfl ?_
        refine g_goto (tgt := 34) S dX8_whyNot_84 (by decide) ?_
        refine Go.sub [1, 2, 0] rfl ?_
        exact ih _ _ hf
      · refine g_aload_n 0 S dX8_whyNot_47 rfl ?_
        refine g_get (v := .ref (a.2 27)) S ob_0 rfl gi_X8 (by decide) lf_X8_83 rfl dX8_whyNot_48 ?_
        refine g_iload_n 2 S dX8_whyNot_51 rfl ?_
        refine g_zald S za_27 dX8_whyNot_52 hf (fun hf => ?_)
        refine g_if_eq (tgt := 81) S dX8_whyNot_53 (by decide) hf (fun c hf => ?_) (fun c hf => ?_)
        · refine g_iinc (v := (x2 + 1)) (lv' := [(2, .int (x2 + 1)), (0, .ref (a.2 0)), (1, .int x1)]) 2 S dX8_whyNot_81 rfl rfl (by decide) rfl ?_
          refine g_goto (tgt := 34) S dX8_whyNot_84 (by decide) ?_
          refine Go.sub [1, 2, 0] rfl ?_
          exact ih _ _ hf
        · refine g_aload_n 0 S dX8_whyNot_56 rfl ?_
          refine g_get (v := .ref (a.2 29)) S ob_0 rfl gi_X8 (by decide) lf_X8_90 rfl dX8_whyNot_57 ?_
          refine g_bipush (v := 10) S dX8_whyNot_60 rfl ?_
          refine g_iload_n 1 S dX8_whyNot_62 rfl ?_
          refine g_imul S dX8_whyNot_63 ?_
          refine g_iload_n 2 S dX8_whyNot_64 rfl ?_
          refine g_iadd S dX8_whyNot_65 ?_
          refine g_zald S za_29 dX8_whyNot_66 hf (fun hf => ?_)
          refine g_if_ne (tgt := 81) S dX8_whyNot_67 (by decide) hf (fun c hf => ?_) (fun c hf => ?_)
          · refine g_aload_n 0 S dX8_whyNot_70 rfl ?_
            refine g_iload_n 1 S dX8_whyNot_71 rfl ?_
            refine g_iload_n 2 S dX8_whyNot_72 rfl ?_
            obtain ⟨r1, hr1, hf⟩ := bd1_some hf
            refine g_cVI (st := []) S ob_0 rfl ok_X8_doMeet lk_X8_221 (c_X8_doMeet hr1) rfl rfl ⟨by decide, by decide⟩ (rmD_z _) (Nat.le_of_ble_eq_true rfl) dX8_whyNot_73 ?_
            refine g_if_eqB (tgt := 81) S dX8_whyNot_76 (by decide) hf (fun c hf => ?_) (fun c hf => ?_)
            · refine g_iconst (v := 2) S dX8_whyNot_79 rfl ?_
              exact g_iretP rt hf dX8_whyNot_80
            · refine g_iinc (v := (x2 + 1)) (lv' := [(2, .int (x2 + 1)), (0, .ref (a.2 0)), (1, .int x1)]) 2 S dX8_whyNot_81 rfl rfl (by decide) rfl ?_
              refine g_goto (tgt := 34) S dX8_whyNot_84 (by decide) ?_
              refine Go.sub [1, 2, 0] rfl ?_
              exact ih _ _ hf
          · refine g_iinc (v := (x2 + 1)) (lv' := [(2, .int (x2 + 1)), (0, .ref (a.2 0)), (1, .int x1)]) 2 S dX8_whyNot_81 rfl rfl (by decide) rfl ?_
            refine g_goto (tgt := 34) S dX8_whyNot_84 (by decide) ?_
            refine Go.sub [1, 2, 0] rfl ?_
            exact ih _ _ hf
def f_X8_whyNot_2 (z : Nat → Nat) (M : Mem) : Nat → Int32 → Int32 → Option Int32
  | 0, _, _ => none
  | fu + 1, x1, x2 => if (M 0 32) ≤ x2 then f_X8_whyNot_34 z M 1000 x1 0 else ck (inb x2 20) (bd1 (f_X8_isInCone z M x1 (M 33 (Int32.toNatClampNeg x2))) (fun r2 => if r2 = true then some 1 else f_X8_whyNot_2 z M fu x1 (x2 + 1)))
theorem t_X8_whyNot_2 {K : KK} {a : AA} (S : Sx K RX8 cX8_whyNot 3 (rmD 2)) {r : Int32} {M : Mem} (rt : RtI K a cX8_whyNot r M) : ∀ (fu : Nat) (x1 : Int32) (x2 : Int32), f_X8_whyNot_2 a.1 M fu x1 x2 = some r → Go K 3 a M 2 [(0, .ref (a.2 0)), (1, .int x1), (2, .int x2)] [] := by
  intro fu
  induction fu with
  | zero => intro x1 x2 hf; exact absurd hf (by simp [f_X8_whyNot_2])
  | succ fu ih =>
    intro x1 x2 hf
    rw [f_X8_whyNot_2] at hf
    refine g_iload_n 2 S dX8_whyNot_2 rfl ?_
    refine g_aload_n 0 S dX8_whyNot_3 rfl ?_
    refine g_get (v := .int (M 0 32)) S ob_0 rfl gi_X8 (by decide) lf_X8_209 rfl dX8_whyNot_4 ?_
    refine g_icmp_ge (tgt := 32) S dX8_whyNot_7 (by decide) hf (fun c hf => ?_) (fun c hf => ?_)
    · refine g_iconst (v := 0) S dX8_whyNot_32 rfl ?_
      refine g_istore_n (lv' := [(2, .int 0), (0, .ref (a.2 0)), (1, .int x1)]) S dX8_whyNot_33 (by decide) rfl ?_
      refine Go.sub [1, 2, 0] rfl ?_
      exact t_X8_whyNot_34  S rt 1000 _ _ hf
    · refine g_aload_n 0 S dX8_whyNot_10 rfl ?_
      refine g_iload_n 1 S dX8_whyNot_11 rfl ?_
      refine g_aload_n 0 S dX8_whyNot_12 rfl ?_
      refine g_get (v := .ref (a.2 33)) S ob_0 rfl gi_X8 (by decide) lf_X8_96 rfl dX8_whyNot_13 ?_
      refine g_iload_n 2 S dX8_whyNot_16 rfl ?_
      refine g_iald S ia_33 dX8_whyNot_17 hf (fun hf => ?_)
      obtain ⟨r2, hr2, hf⟩ := bd1_some hf
      refine g_cVI (st := []) S ob_0 rfl ok_X8_isInCone lk_X8_218 (c_X8_isInCone hr2) rfl rfl ⟨by decide, by decide⟩ (rmD_z _) (Nat.le_of_ble_eq_true rfl) dX8_whyNot_18 ?_
      refine g_if_eqB (tgt := 26) S dX8_whyNot_21 (by decide) hf (fun c hf => ?_) (fun c hf => ?_)
      · refine g_iconst (v := 1) S dX8_whyNot_24 rfl ?_
        exact g_iretP rt hf dX8_whyNot_25
      · refine g_iinc (v := (x2 + 1)) (lv' := [(2, .int (x2 + 1)), (0, .ref (a.2 0)), (1, .int x1)]) 2 S dX8_whyNot_26 rfl rfl (by decide) rfl ?_
        refine g_goto (tgt := 2) S dX8_whyNot_29 (by decide) ?_
        refine Go.sub [1, 2, 0] rfl ?_
        exact ih _ _ hf
def f_X8_whyNot (z : Nat → Nat) (M : Mem) (p1 : Int32) : Option Int32 := f_X8_whyNot_2 z M 1000 p1 0
theorem c_X8_whyNot {l : Launch} {G : GG} {a : AA} {M : Mem} {p1 : Int32} {r : Int32} (hf : f_X8_whyNot a.1 M p1 = some r) : CtI l G a yX8_whyNot cX8_whyNot 3 .int (rmD 2) [.ref (a.2 0), .int p1] M r M := by
  refine ct_I (by decide) rfl rfl (own := RX8) (Nat.le_of_ble_eq_true rfl) (fun K hl hg S rt => ?_)
  subst hl; subst hg
  unfold f_X8_whyNot at hf
  show Go K 3 a M 0 [(0, .ref (a.2 0)), (1, .int p1)] []
  refine g_iconst (v := 0) S dX8_whyNot_0 rfl ?_
  refine g_istore_n (lv' := [(2, .int 0), (0, .ref (a.2 0)), (1, .int p1)]) S dX8_whyNot_1 (by decide) rfl ?_
  refine Go.sub [1, 2, 0] rfl ?_
  exact t_X8_whyNot_2  S rt 1000 _ _ hf
-- BridleBookModel.fly(II)I
theorem dX8_fly_0 : decode cX8_fly 0 = .ok (.aload_n 0, 1) := by decide +kernel
theorem dX8_fly_1 : decode cX8_fly 1 = .ok (.iload_n 1, 1) := by decide +kernel
theorem dX8_fly_2 : decode cX8_fly 2 = .ok (.invokevirtual 212, 3) := by decide +kernel
theorem dX8_fly_5 : decode cX8_fly 5 = .ok (.ifCond .eq 12, 3) := by decide +kernel
theorem dX8_fly_8 : decode cX8_fly 8 = .ok (.iload_n 2, 1) := by decide +kernel
theorem dX8_fly_9 : decode cX8_fly 9 = .ok (.iconst 0, 1) := by decide +kernel
theorem dX8_fly_10 : decode cX8_fly 10 = .ok (.iconst 1, 1) := by decide +kernel
theorem dX8_fly_11 : decode cX8_fly 11 = .ok (.invokestatic 111, 3) := by decide +kernel
theorem dX8_fly_14 : decode cX8_fly 14 = .ok (.ifCond .ne 5, 3) := by decide +kernel
theorem dX8_fly_17 : decode cX8_fly 17 = .ok (.iconst (-1), 1) := by decide +kernel
theorem dX8_fly_18 : decode cX8_fly 18 = .ok (.ireturn, 1) := by decide +kernel
theorem dX8_fly_19 : decode cX8_fly 19 = .ok (.iload_n 2, 1) := by decide +kernel
theorem dX8_fly_20 : decode cX8_fly 20 = .ok (.iconst 1, 1) := by decide +kernel
theorem dX8_fly_21 : decode cX8_fly 21 = .ok (.if_icmp .ne 20, 3) := by decide +kernel
theorem dX8_fly_24 : decode cX8_fly 24 = .ok (.aload_n 0, 1) := by decide +kernel
theorem dX8_fly_25 : decode cX8_fly 25 = .ok (.iload_n 1, 1) := by decide +kernel
theorem dX8_fly_26 : decode cX8_fly 26 = .ok (.invokevirtual 224, 3) := by decide +kernel
theorem dX8_fly_29 : decode cX8_fly 29 = .ok (.ifCond .le 12, 3) := by decide +kernel
theorem dX8_fly_32 : decode cX8_fly 32 = .ok (.bipush (-10), 2) := by decide +kernel
theorem dX8_fly_34 : decode cX8_fly 34 = .ok (.aload_n 0, 1) := by decide +kernel
theorem dX8_fly_35 : decode cX8_fly 35 = .ok (.iload_n 1, 1) := by decide +kernel
theorem dX8_fly_36 : decode cX8_fly 36 = .ok (.invokevirtual 224, 3) := by decide +kernel
theorem dX8_fly_39 : decode cX8_fly 39 = .ok (.isub, 1) := by decide +kernel
theorem dX8_fly_40 : decode cX8_fly 40 = .ok (.ireturn, 1) := by decide +kernel
theorem dX8_fly_41 : decode cX8_fly 41 = .ok (.aload_n 0, 1) := by decide +kernel
theorem dX8_fly_42 : decode cX8_fly 42 = .ok (.getfield 83, 3) := by decide +kernel
theorem dX8_fly_45 : decode cX8_fly 45 = .ok (.iload_n 1, 1) := by decide +kernel
theorem dX8_fly_46 : decode cX8_fly 46 = .ok (.iload_n 2, 1) := by decide +kernel
theorem dX8_fly_47 : decode cX8_fly 47 = .ok (.iconst 1, 1) := by decide +kernel
theorem dX8_fly_48 : decode cX8_fly 48 = .ok (.if_icmp .ne 7, 3) := by decide +kernel
theorem dX8_fly_51 : decode cX8_fly 51 = .ok (.iconst 1, 1) := by decide +kernel
theorem dX8_fly_52 : decode cX8_fly 52 = .ok (.goto 4, 3) := by decide +kernel
theorem dX8_fly_55 : decode cX8_fly 55 = .ok (.iconst 0, 1) := by decide +kernel
theorem dX8_fly_56 : decode cX8_fly 56 = .ok (.bastore, 1) := by decide +kernel
theorem dX8_fly_57 : decode cX8_fly 57 = .ok (.iconst 1, 1) := by decide +kernel
theorem dX8_fly_58 : decode cX8_fly 58 = .ok (.ireturn, 1) := by decide +kernel
def f_X8_fly_41 (z : Nat → Nat) (M : Mem) (x1 : Int32) (x2 : Int32) : Option (Int32 × Mem) := if x2 = 1 then ck (inb x1 10) (some (1, (mu M 27 (Int32.toNatClampNeg x1) 1))) else ck (inb x1 10) (some (1, (mu M 27 (Int32.toNatClampNeg x1) 0)))
theorem t_X8_fly_41 {K : KK} {a : AA} (S : Sx K RX8 cX8_fly 3 (rmD 3)) {r : Int32} {M' : Mem} (rt : RtI K a cX8_fly r M') (M : Mem) (x1 : Int32) (x2 : Int32) (hf : f_X8_fly_41 a.1 M x1 x2 = some (r, M')) : Go K 3 a M 41 [(0, .ref (a.2 0)), (1, .int x1), (2, .int x2)] [] := by
  unfold f_X8_fly_41 at hf
  refine g_aload_n 0 S dX8_fly_41 rfl ?_
  refine g_get (v := .ref (a.2 27)) S ob_0 rfl gi_X8 (by decide) lf_X8_83 rfl dX8_fly_42 ?_
  refine g_iload_n 1 S dX8_fly_45 rfl ?_
  refine g_iload_n 2 S dX8_fly_46 rfl ?_
  refine g_iconst (v := 1) S dX8_fly_47 rfl ?_
  refine g_icmp_ne (tgt := 55) S dX8_fly_48 (by decide) hf (fun c hf => ?_) (fun c hf => ?_)
  · refine g_iconst (v := 1) S dX8_fly_51 rfl ?_
    refine g_goto (tgt := 56) S dX8_fly_52 (by decide) ?_
    refine g_zast S za_27 dX8_fly_56 rfl hf (fun hf => ?_)
    refine g_iconst (v := 1) S dX8_fly_57 rfl ?_
    exact g_iretM rt hf dX8_fly_58
  · refine g_iconst (v := 0) S dX8_fly_55 rfl ?_
    refine g_zast S za_27 dX8_fly_56 rfl hf (fun hf => ?_)
    refine g_iconst (v := 1) S dX8_fly_57 rfl ?_
    exact g_iretM rt hf dX8_fly_58
def f_X8_fly (z : Nat → Nat) (M : Mem) (p1 : Int32) (p2 : Int32) : Option (Int32 × Mem) := bd1 (f_X8_isFlyer z M p1) (fun r1 => if r1 = true then bd1 (f_X8_in z M p2 0 1) (fun r2 => if r2 = true then if p2 = 1 then bd1 (f_X8_whyNot z M p1) (fun r3 => if r3 ≤ 0 then f_X8_fly_41 z M p1 p2 else bd1 (f_X8_whyNot z M p1) (fun r4 => some (((-10) - r4), M))) else f_X8_fly_41 z M p1 p2 else some ((-1), M)) else some ((-1), M))
theorem c_X8_fly {l : Launch} {G : GG} {a : AA} {M : Mem} {p1 : Int32} {p2 : Int32} {r : Int32} {M' : Mem} (hf : f_X8_fly a.1 M p1 p2 = some (r, M')) : CtI l G a yX8_fly cX8_fly 3 .int (rmD 3) [.ref (a.2 0), .int p1, .int p2] M r M' := by
  refine ct_I (by decide) rfl rfl (own := RX8) (Nat.le_of_ble_eq_true rfl) (fun K hl hg S rt => ?_)
  subst hl; subst hg
  unfold f_X8_fly at hf
  show Go K 3 a M 0 [(0, .ref (a.2 0)), (1, .int p1), (2, .int p2)] []
  refine g_aload_n 0 S dX8_fly_0 rfl ?_
  refine g_iload_n 1 S dX8_fly_1 rfl ?_
  obtain ⟨r1, hr1, hf⟩ := bd1_some hf
  refine g_cVI (st := []) S ob_0 rfl ok_X8_isFlyer lk_X8_212 (c_X8_isFlyer hr1) rfl rfl ⟨by decide, by decide⟩ (rmD_z _) (Nat.le_of_ble_eq_true rfl) dX8_fly_2 ?_
  refine g_if_eqB (tgt := 17) S dX8_fly_5 (by decide) hf (fun c hf => ?_) (fun c hf => ?_)
  · refine g_iload_n 2 S dX8_fly_8 rfl ?_
    refine g_iconst (v := 0) S dX8_fly_9 rfl ?_
    refine g_iconst (v := 1) S dX8_fly_10 rfl ?_
    obtain ⟨r2, hr2, hf⟩ := bd1_some hf
    refine g_cSI (st := []) S ok_X8_in lk_X8_111 (c_X8_in hr2) rfl rfl ⟨by decide, by decide⟩ (rmD_z _) (Nat.le_of_ble_eq_true rfl) dX8_fly_11 ?_
    refine g_if_neB (tgt := 19) S dX8_fly_14 (by decide) hf (fun c hf => ?_) (fun c hf => ?_)
    · refine g_iload_n 2 S dX8_fly_19 rfl ?_
      refine g_iconst (v := 1) S dX8_fly_20 rfl ?_
      refine g_icmp_ne (tgt := 41) S dX8_fly_21 (by decide) hf (fun c hf => ?_) (fun c hf => ?_)
      · refine g_aload_n 0 S dX8_fly_24 rfl ?_
        refine g_iload_n 1 S dX8_fly_25 rfl ?_
        obtain ⟨r3, hr3, hf⟩ := bd1_some hf
        refine g_cVI (st := []) S ob_0 rfl ok_X8_whyNot lk_X8_224 (c_X8_whyNot hr3) rfl rfl ⟨by decide, by decide⟩ (rmD_z _) (Nat.le_of_ble_eq_true rfl) dX8_fly_26 ?_
        refine g_if_le (tgt := 41) S dX8_fly_29 (by decide) hf (fun c hf => ?_) (fun c hf => ?_)
        · exact t_X8_fly_41  S rt _ _ _ hf
        · refine g_bipush (v := (-10)) S dX8_fly_32 rfl ?_
          refine g_aload_n 0 S dX8_fly_34 rfl ?_
          refine g_iload_n 1 S dX8_fly_35 rfl ?_
          obtain ⟨r4, hr4, hf⟩ := bd1_some hf
          refine g_cVI (st := [.int (-10)]) S ob_0 rfl ok_X8_whyNot lk_X8_224 (c_X8_whyNot hr4) rfl rfl ⟨by decide, by decide⟩ (rmD_z _) (Nat.le_of_ble_eq_true rfl) dX8_fly_36 ?_
          refine g_isub S dX8_fly_39 ?_
          exact g_iretM rt hf dX8_fly_40
      · exact t_X8_fly_41  S rt _ _ _ hf
    · refine g_iconst (v := (-1)) S dX8_fly_17 rfl ?_
      exact g_iretM rt hf dX8_fly_18
  · refine g_iconst (v := (-1)) S dX8_fly_17 rfl ?_
    exact g_iretM rt hf dX8_fly_18
