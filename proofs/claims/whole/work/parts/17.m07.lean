-- BridleBookModel.knot(II)I
theorem dX8_knot_0 : decode cX8_knot 0 = .ok (.aload_n 0, 1) := by decide +kernel
theorem dX8_knot_1 : decode cX8_knot 1 = .ok (.iload_n 1, 1) := by decide +kernel
theorem dX8_knot_2 : decode cX8_knot 2 = .ok (.invokevirtual 115, 3) := by decide +kernel
theorem dX8_knot_5 : decode cX8_knot 5 = .ok (.ifCond .eq 14, 3) := by decide +kernel
theorem dX8_knot_8 : decode cX8_knot 8 = .ok (.iload_n 2, 1) := by decide +kernel
theorem dX8_knot_9 : decode cX8_knot 9 = .ok (.bipush (-99), 2) := by decide +kernel
theorem dX8_knot_11 : decode cX8_knot 11 = .ok (.bipush 99, 2) := by decide +kernel
theorem dX8_knot_13 : decode cX8_knot 13 = .ok (.invokestatic 111, 3) := by decide +kernel
theorem dX8_knot_16 : decode cX8_knot 16 = .ok (.ifCond .ne 6, 3) := by decide +kernel
theorem dX8_knot_19 : decode cX8_knot 19 = .ok (.ldc 119, 2) := by decide +kernel
theorem dX8_knot_21 : decode cX8_knot 21 = .ok (.ireturn, 1) := by decide +kernel
theorem dX8_knot_22 : decode cX8_knot 22 = .ok (.aload_n 0, 1) := by decide +kernel
theorem dX8_knot_23 : decode cX8_knot 23 = .ok (.getfield 26, 3) := by decide +kernel
theorem dX8_knot_26 : decode cX8_knot 26 = .ok (.iload_n 1, 1) := by decide +kernel
theorem dX8_knot_27 : decode cX8_knot 27 = .ok (.iaload, 1) := by decide +kernel
theorem dX8_knot_28 : decode cX8_knot 28 = .ok (.istore_n 3, 1) := by decide +kernel
theorem dX8_knot_29 : decode cX8_knot 29 = .ok (.aload_n 0, 1) := by decide +kernel
theorem dX8_knot_30 : decode cX8_knot 30 = .ok (.getfield 26, 3) := by decide +kernel
theorem dX8_knot_33 : decode cX8_knot 33 = .ok (.iload_n 1, 1) := by decide +kernel
theorem dX8_knot_34 : decode cX8_knot 34 = .ok (.iload_n 2, 1) := by decide +kernel
theorem dX8_knot_35 : decode cX8_knot 35 = .ok (.iastore, 1) := by decide +kernel
theorem dX8_knot_36 : decode cX8_knot 36 = .ok (.iload_n 3, 1) := by decide +kernel
theorem dX8_knot_37 : decode cX8_knot 37 = .ok (.ireturn, 1) := by decide +kernel
def f_X8_knot (z : Nat → Nat) (M : Mem) (p1 : Int32) (p2 : Int32) : Option (Int32 × Mem) := bd1 (f_X8_isKite z M p1) (fun r1 => if r1 = true then bd1 (f_X8_in z M p2 (-99) 99) (fun r2 => if r2 = true then ck (inb p1 20) (ck (inb p1 20) (some ((M 6 (Int32.toNatClampNeg p1)), (mu M 6 (Int32.toNatClampNeg p1) p2)))) else some ((-2000000000), M)) else some ((-2000000000), M))
theorem c_X8_knot {l : Launch} {G : GG} {a : AA} {M : Mem} {p1 : Int32} {p2 : Int32} {r : Int32} {M' : Mem} (hf : f_X8_knot a.1 M p1 p2 = some (r, M')) : CtI l G a yX8_knot cX8_knot 4 .int (rmD 2) [.ref (a.2 0), .int p1, .int p2] M r M' := by
  refine ct_I (by decide) rfl rfl (own := RX8) (Nat.le_of_ble_eq_true rfl) (fun K hl hg S rt => ?_)
  subst hl; subst hg
  unfold f_X8_knot at hf
  show Go K 4 a M 0 [(0, .ref (a.2 0)), (1, .int p1), (2, .int p2)] []
  refine g_aload_n 0 S dX8_knot_0 rfl ?_
  refine g_iload_n 1 S dX8_knot_1 rfl ?_
  obtain ⟨r1, hr1, hf⟩ := bd1_some hf
  refine g_cVI (st := []) S ob_0 rfl ok_X8_isKite lk_X8_115 (c_X8_isKite hr1) rfl rfl ⟨by decide, by decide⟩ (rmD_z _) (Nat.le_of_ble_eq_true rfl) dX8_knot_2 ?_
  refine g_if_eqB (tgt := 19) S dX8_knot_5 (by decide) hf (fun c hf => ?_) (fun c hf => ?_)
  · refine g_iload_n 2 S dX8_knot_8 rfl ?_
    refine g_bipush (v := (-99)) S dX8_knot_9 rfl ?_
    refine g_bipush (v := 99) S dX8_knot_11 rfl ?_
    obtain ⟨r2, hr2, hf⟩ := bd1_some hf
    refine g_cSI (st := []) S ok_X8_in lk_X8_111 (c_X8_in hr2) rfl rfl ⟨by decide, by decide⟩ (rmD_z _) (Nat.le_of_ble_eq_true rfl) dX8_knot_13 ?_
    refine g_if_neB (tgt := 22) S dX8_knot_16 (by decide) hf (fun c hf => ?_) (fun c hf => ?_)
    · refine g_aload_n 0 S dX8_knot_22 rfl ?_
      refine g_get (v := .ref (a.2 6)) S ob_0 rfl gi_X8 (by decide) lf_X8_26 rfl dX8_knot_23 ?_
      refine g_iload_n 1 S dX8_knot_26 rfl ?_
      refine g_iald S ia_6 dX8_knot_27 hf (fun hf => ?_)
      refine g_istore_n (lv' := [(3, .int (M 6 (Int32.toNatClampNeg p1))), (0, .ref (a.2 0)), (1, .int p1), (2, .int p2)]) S dX8_knot_28 (by decide) rfl ?_
      refine g_aload_n 1 S dX8_knot_29 rfl ?_
      refine g_get (v := .ref (a.2 6)) S ob_0 rfl gi_X8 (by decide) lf_X8_26 rfl dX8_knot_30 ?_
      refine g_iload_n 2 S dX8_knot_33 rfl ?_
      refine g_iload_n 3 S dX8_knot_34 rfl ?_
      refine g_iast S ia_6 dX8_knot_35 hf (fun hf => ?_)
      refine g_iload_n 0 S dX8_knot_36 rfl ?_
      exact g_iretM rt hf dX8_knot_37
    · refine g_ldc S lc_X8_119 dX8_knot_19 ?_
      exact g_iretM rt hf dX8_knot_21
  · refine g_ldc S lc_X8_119 dX8_knot_19 ?_
    exact g_iretM rt hf dX8_knot_21
-- BridleBookModel.table(III)I
theorem dX8_table_0 : decode cX8_table 0 = .ok (.iload_n 1, 1) := by decide +kernel
theorem dX8_table_1 : decode cX8_table 1 = .ok (.invokestatic 120, 3) := by decide +kernel
theorem dX8_table_4 : decode cX8_table 4 = .ok (.ifCond .eq 31, 3) := by decide +kernel
theorem dX8_table_7 : decode cX8_table 7 = .ok (.iload_n 2, 1) := by decide +kernel
theorem dX8_table_8 : decode cX8_table 8 = .ok (.iconst 0, 1) := by decide +kernel
theorem dX8_table_9 : decode cX8_table 9 = .ok (.iconst 1, 1) := by decide +kernel
theorem dX8_table_10 : decode cX8_table 10 = .ok (.invokestatic 111, 3) := by decide +kernel
theorem dX8_table_13 : decode cX8_table 13 = .ok (.ifCond .eq 22, 3) := by decide +kernel
theorem dX8_table_16 : decode cX8_table 16 = .ok (.iload_n 3, 1) := by decide +kernel
theorem dX8_table_17 : decode cX8_table 17 = .ok (.iload_n 2, 1) := by decide +kernel
theorem dX8_table_18 : decode cX8_table 18 = .ok (.ifCond .ne 8, 3) := by decide +kernel
theorem dX8_table_21 : decode cX8_table 21 = .ok (.bipush (-99), 2) := by decide +kernel
theorem dX8_table_23 : decode cX8_table 23 = .ok (.goto 4, 3) := by decide +kernel
theorem dX8_table_26 : decode cX8_table 26 = .ok (.iconst 0, 1) := by decide +kernel
theorem dX8_table_27 : decode cX8_table 27 = .ok (.bipush 99, 2) := by decide +kernel
theorem dX8_table_29 : decode cX8_table 29 = .ok (.invokestatic 111, 3) := by decide +kernel
theorem dX8_table_32 : decode cX8_table 32 = .ok (.ifCond .ne 6, 3) := by decide +kernel
theorem dX8_table_35 : decode cX8_table 35 = .ok (.ldc 119, 2) := by decide +kernel
theorem dX8_table_37 : decode cX8_table 37 = .ok (.ireturn, 1) := by decide +kernel
theorem dX8_table_38 : decode cX8_table 38 = .ok (.iload_n 2, 1) := by decide +kernel
theorem dX8_table_39 : decode cX8_table 39 = .ok (.ifCond .ne 12, 3) := by decide +kernel
theorem dX8_table_42 : decode cX8_table 42 = .ok (.aload_n 0, 1) := by decide +kernel
theorem dX8_table_43 : decode cX8_table 43 = .ok (.getfield 35, 3) := by decide +kernel
theorem dX8_table_46 : decode cX8_table 46 = .ok (.iload_n 1, 1) := by decide +kernel
theorem dX8_table_47 : decode cX8_table 47 = .ok (.iaload, 1) := by decide +kernel
theorem dX8_table_48 : decode cX8_table 48 = .ok (.goto 9, 3) := by decide +kernel
theorem dX8_table_51 : decode cX8_table 51 = .ok (.aload_n 0, 1) := by decide +kernel
theorem dX8_table_52 : decode cX8_table 52 = .ok (.getfield 38, 3) := by decide +kernel
theorem dX8_table_55 : decode cX8_table 55 = .ok (.iload_n 1, 1) := by decide +kernel
theorem dX8_table_56 : decode cX8_table 56 = .ok (.iaload, 1) := by decide +kernel
theorem dX8_table_57 : decode cX8_table 57 = .ok (.istore 4, 2) := by decide +kernel
theorem dX8_table_59 : decode cX8_table 59 = .ok (.iload_n 2, 1) := by decide +kernel
theorem dX8_table_60 : decode cX8_table 60 = .ok (.ifCond .ne 13, 3) := by decide +kernel
theorem dX8_table_63 : decode cX8_table 63 = .ok (.aload_n 0, 1) := by decide +kernel
theorem dX8_table_64 : decode cX8_table 64 = .ok (.getfield 35, 3) := by decide +kernel
theorem dX8_table_67 : decode cX8_table 67 = .ok (.iload_n 1, 1) := by decide +kernel
theorem dX8_table_68 : decode cX8_table 68 = .ok (.iload_n 3, 1) := by decide +kernel
theorem dX8_table_69 : decode cX8_table 69 = .ok (.iastore, 1) := by decide +kernel
theorem dX8_table_70 : decode cX8_table 70 = .ok (.goto 10, 3) := by decide +kernel
theorem dX8_table_73 : decode cX8_table 73 = .ok (.aload_n 0, 1) := by decide +kernel
theorem dX8_table_74 : decode cX8_table 74 = .ok (.getfield 38, 3) := by decide +kernel
theorem dX8_table_77 : decode cX8_table 77 = .ok (.iload_n 1, 1) := by decide +kernel
theorem dX8_table_78 : decode cX8_table 78 = .ok (.iload_n 3, 1) := by decide +kernel
theorem dX8_table_79 : decode cX8_table 79 = .ok (.iastore, 1) := by decide +kernel
theorem dX8_table_80 : decode cX8_table 80 = .ok (.iload 4, 2) := by decide +kernel
theorem dX8_table_82 : decode cX8_table 82 = .ok (.ireturn, 1) := by decide +kernel
def f_X8_table_57 (z : Nat → Nat) (M : Mem) (s0 : Int32) (x1 : Int32) (x2 : Int32) (x3 : Int32) : Option (Int32 × Mem) := if x2 = 0 then ck (inb x1 18) (some (s0, (mu M 9 (Int32.toNatClampNeg x1) x3))) else ck (inb x1 18) (some (s0, (mu M 10 (Int32.toNatClampNeg x1) x3)))
theorem t_X8_table_57 {K : KK} {a : AA} (S : Sx K RX8 cX8_table 5 (rmD 2)) {r : Int32} {M' : Mem} (rt : RtI K a cX8_table r M') (M : Mem) (s0 : Int32) (x1 : Int32) (x2 : Int32) (x3 : Int32) (hf : f_X8_table_57 a.1 M s0 x1 x2 x3 = some (r, M')) : Go K 5 a M 57 [(0, .ref (a.2 0)), (1, .int x1), (2, .int x2), (3, .int x3)] [.int s0] := by
  unfold f_X8_table_57 at hf
  refine g_istore (lv' := [(4, .int s0), (0, .ref (a.2 0)), (1, .int x1), (2, .int x2), (3, .int x3)]) S dX8_table_57 (by decide) rfl ?_
  refine g_iload_n 3 S dX8_table_59 rfl ?_
  refine g_if_ne (tgt := 73) S dX8_table_60 (by decide) hf (fun c hf => ?_) (fun c hf => ?_)
  · refine g_aload_n 1 S dX8_table_63 rfl ?_
    refine g_get (v := .ref (a.2 9)) S ob_0 rfl gi_X8 (by decide) lf_X8_35 rfl dX8_table_64 ?_
    refine g_iload_n 2 S dX8_table_67 rfl ?_
    refine g_iload_n 4 S dX8_table_68 rfl ?_
    refine g_iast S ia_9 dX8_table_69 hf (fun hf => ?_)
    refine g_goto (tgt := 80) S dX8_table_70 (by decide) ?_
    refine g_iload 0 S dX8_table_80 rfl ?_
    exact g_iretM rt hf dX8_table_82
  · refine g_aload_n 1 S dX8_table_73 rfl ?_
    refine g_get (v := .ref (a.2 10)) S ob_0 rfl gi_X8 (by decide) lf_X8_38 rfl dX8_table_74 ?_
    refine g_iload_n 2 S dX8_table_77 rfl ?_
    refine g_iload_n 4 S dX8_table_78 rfl ?_
    refine g_iast S ia_10 dX8_table_79 hf (fun hf => ?_)
    refine g_iload 0 S dX8_table_80 rfl ?_
    exact g_iretM rt hf dX8_table_82
def f_X8_table_27 (z : Nat → Nat) (M : Mem) (s0 : Int32) (s1 : Int32) (x1 : Int32) (x2 : Int32) (x3 : Int32) : Option (Int32 × Mem) := bd1 (f_X8_in z M s1 s0 99) (fun r3 => if r3 = true then if x2 = 0 then ck (inb x1 18) (f_X8_table_57 z M (M 9 (Int32.toNatClampNeg x1)) x1 x2 x3) else ck (inb x1 18) (f_X8_table_57 z M (M 10 (Int32.toNatClampNeg x1)) x1 x2 x3) else some ((-2000000000), M))
theorem t_X8_table_27 {K : KK} {a : AA} (S : Sx K RX8 cX8_table 5 (rmD 2)) {r : Int32} {M' : Mem} (rt : RtI K a cX8_table r M') (M : Mem) (s0 : Int32) (s1 : Int32) (x1 : Int32) (x2 : Int32) (x3 : Int32) (hf : f_X8_table_27 a.1 M s0 s1 x1 x2 x3 = some (r, M')) : Go K 5 a M 27 [(0, .ref (a.2 0)), (1, .int x1), (2, .int x2), (3, .int x3)] [.int s0, .int s1] := by
  unfold f_X8_table_27 at hf
  refine g_bipush (v := 99) S dX8_table_27 rfl ?_
  obtain ⟨r3, hr3, hf⟩ := bd1_some hf
  refine g_cSI (st := []) S ok_X8_in lk_X8_111 (c_X8_in hr3) rfl rfl ⟨by decide, by decide⟩ (rmD_z _) (Nat.le_of_ble_eq_true rfl) dX8_table_29 ?_
  refine g_if_neB (tgt := 38) S dX8_table_32 (by decide) hf (fun c hf => ?_) (fun c hf => ?_)
  · refine g_iload_n 2 S dX8_table_38 rfl ?_
    refine g_if_ne (tgt := 51) S dX8_table_39 (by decide) hf (fun c hf => ?_) (fun c hf => ?_)
    · refine g_aload_n 0 S dX8_table_42 rfl ?_
      refine g_get (v := .ref (a.2 9)) S ob_0 rfl gi_X8 (by decide) lf_X8_35 rfl dX8_table_43 ?_
      refine g_iload_n 1 S dX8_table_46 rfl ?_
      refine g_iald S ia_9 dX8_table_47 hf (fun hf => ?_)
      refine g_goto (tgt := 57) S dX8_table_48 (by decide) ?_
      exact t_X8_table_57  S rt _ _ _ _ _ hf
    · refine g_aload_n 0 S dX8_table_51 rfl ?_
      refine g_get (v := .ref (a.2 10)) S ob_0 rfl gi_X8 (by decide) lf_X8_38 rfl dX8_table_52 ?_
      refine g_iload_n 1 S dX8_table_55 rfl ?_
      refine g_iald S ia_10 dX8_table_56 hf (fun hf => ?_)
      exact t_X8_table_57  S rt _ _ _ _ _ hf
  · refine g_ldc S lc_X8_119 dX8_table_35 ?_
    exact g_iretM rt hf dX8_table_37
def f_X8_table (z : Nat → Nat) (M : Mem) (p1 : Int32) (p2 : Int32) (p3 : Int32) : Option (Int32 × Mem) := bd1 (f_X8_isAngle z M p1) (fun r1 => if r1 = true then bd1 (f_X8_in z M p2 0 1) (fun r2 => if r2 = true then if p2 = 0 then f_X8_table_27 z M (-99) p3 p1 p2 p3 else f_X8_table_27 z M 0 p3 p1 p2 p3 else some ((-2000000000), M)) else some ((-2000000000), M))
theorem c_X8_table {l : Launch} {G : GG} {a : AA} {M : Mem} {p1 : Int32} {p2 : Int32} {p3 : Int32} {r : Int32} {M' : Mem} (hf : f_X8_table a.1 M p1 p2 p3 = some (r, M')) : CtI l G a yX8_table cX8_table 5 .int (rmD 2) [.ref (a.2 0), .int p1, .int p2, .int p3] M r M' := by
  refine ct_I (by decide) rfl rfl (own := RX8) (Nat.le_of_ble_eq_true rfl) (fun K hl hg S rt => ?_)
  subst hl; subst hg
  unfold f_X8_table at hf
  show Go K 5 a M 0 [(0, .ref (a.2 0)), (1, .int p1), (2, .int p2), (3, .int p3)] []
  refine g_iload_n 1 S dX8_table_0 rfl ?_
  obtain ⟨r1, hr1, hf⟩ := bd1_some hf
  refine g_cSI (st := []) S ok_X8_isAngle lk_X8_120 (c_X8_isAngle hr1) rfl rfl ⟨by decide, by decide⟩ (rmD_z _) (Nat.le_of_ble_eq_true rfl) dX8_table_1 ?_
  refine g_if_eqB (tgt := 35) S dX8_table_4 (by decide) hf (fun c hf => ?_) (fun c hf => ?_)
  · refine g_iload_n 2 S dX8_table_7 rfl ?_
    refine g_iconst (v := 0) S dX8_table_8 rfl ?_
    refine g_iconst (v := 1) S dX8_table_9 rfl ?_
    obtain ⟨r2, hr2, hf⟩ := bd1_some hf
    refine g_cSI (st := []) S ok_X8_in lk_X8_111 (c_X8_in hr2) rfl rfl ⟨by decide, by decide⟩ (rmD_z _) (Nat.le_of_ble_eq_true rfl) dX8_table_10 ?_
    refine g_if_eqB (tgt := 35) S dX8_table_13 (by decide) hf (fun c hf => ?_) (fun c hf => ?_)
    · refine g_iload_n 3 S dX8_table_16 rfl ?_
      refine g_iload_n 2 S dX8_table_17 rfl ?_
      refine g_if_ne (tgt := 26) S dX8_table_18 (by decide) hf (fun c hf => ?_) (fun c hf => ?_)
      · refine g_bipush (v := (-99)) S dX8_table_21 rfl ?_
        refine g_goto (tgt := 27) S dX8_table_23 (by decide) ?_
        exact t_X8_table_27  S rt _ _ _ _ _ _ hf
      · refine g_iconst (v := 0) S dX8_table_26 rfl ?_
        exact t_X8_table_27  S rt _ _ _ _ _ _ hf
    · refine g_ldc S lc_X8_119 dX8_table_35 ?_
      exact g_iretM rt hf dX8_table_37
  · refine g_ldc S lc_X8_119 dX8_table_35 ?_
    exact g_iretM rt hf dX8_table_37
-- BridleBookModel.weightOf(I)I
theorem dX8_weightOf_0 : decode cX8_weightOf 0 = .ok (.iconst 0, 1) := by decide +kernel
theorem dX8_weightOf_1 : decode cX8_weightOf 1 = .ok (.istore_n 2, 1) := by decide +kernel
theorem dX8_weightOf_2 : decode cX8_weightOf 2 = .ok (.bipush 6, 2) := by decide +kernel
theorem dX8_weightOf_4 : decode cX8_weightOf 4 = .ok (.iload_n 1, 1) := by decide +kernel
theorem dX8_weightOf_5 : decode cX8_weightOf 5 = .ok (.imul, 1) := by decide +kernel
theorem dX8_weightOf_6 : decode cX8_weightOf 6 = .ok (.istore_n 3, 1) := by decide +kernel
theorem dX8_weightOf_7 : decode cX8_weightOf 7 = .ok (.iload_n 3, 1) := by decide +kernel
theorem dX8_weightOf_8 : decode cX8_weightOf 8 = .ok (.bipush 6, 2) := by decide +kernel
theorem dX8_weightOf_10 : decode cX8_weightOf 10 = .ok (.iload_n 1, 1) := by decide +kernel
theorem dX8_weightOf_11 : decode cX8_weightOf 11 = .ok (.imul, 1) := by decide +kernel
theorem dX8_weightOf_12 : decode cX8_weightOf 12 = .ok (.aload_n 0, 1) := by decide +kernel
theorem dX8_weightOf_13 : decode cX8_weightOf 13 = .ok (.getfield 13, 3) := by decide +kernel
theorem dX8_weightOf_16 : decode cX8_weightOf 16 = .ok (.iload_n 1, 1) := by decide +kernel
theorem dX8_weightOf_17 : decode cX8_weightOf 17 = .ok (.iaload, 1) := by decide +kernel
theorem dX8_weightOf_18 : decode cX8_weightOf 18 = .ok (.iadd, 1) := by decide +kernel
theorem dX8_weightOf_19 : decode cX8_weightOf 19 = .ok (.if_icmp .ge 18, 3) := by decide +kernel
theorem dX8_weightOf_22 : decode cX8_weightOf 22 = .ok (.iload_n 2, 1) := by decide +kernel
theorem dX8_weightOf_23 : decode cX8_weightOf 23 = .ok (.aload_n 0, 1) := by decide +kernel
theorem dX8_weightOf_24 : decode cX8_weightOf 24 = .ok (.getfield 23, 3) := by decide +kernel
theorem dX8_weightOf_27 : decode cX8_weightOf 27 = .ok (.iload_n 3, 1) := by decide +kernel
theorem dX8_weightOf_28 : decode cX8_weightOf 28 = .ok (.iaload, 1) := by decide +kernel
theorem dX8_weightOf_29 : decode cX8_weightOf 29 = .ok (.iadd, 1) := by decide +kernel
theorem dX8_weightOf_30 : decode cX8_weightOf 30 = .ok (.istore_n 2, 1) := by decide +kernel
theorem dX8_weightOf_31 : decode cX8_weightOf 31 = .ok (.iinc 3 1, 3) := by decide +kernel
theorem dX8_weightOf_34 : decode cX8_weightOf 34 = .ok (.goto (-27), 3) := by decide +kernel
theorem dX8_weightOf_37 : decode cX8_weightOf 37 = .ok (.iload_n 2, 1) := by decide +kernel
theorem dX8_weightOf_38 : decode cX8_weightOf 38 = .ok (.ireturn, 1) := by decide +kernel
def f_X8_weightOf_7 (z : Nat → Nat) (M : Mem) : Nat → Int32 → Int32 → Int32 → Option Int32
  | 0, _, _, _ => none
  | fu + 1, x1, x2, x3 => ck (inb x1 20) (if ((6 * x1) + (M 2 (Int32.toNatClampNeg x1))) ≤ x3 then some x2 else ck (inb x3 120) (f_X8_weightOf_7 z M fu x1 (x2 + (M 5 (Int32.toNatClampNeg x3))) (x3 + 1)))
theorem t_X8_weightOf_7 {K : KK} {a : AA} (S : Sx K RX8 cX8_weightOf 4 (rmD 0)) {r : Int32} {M : Mem} (rt : RtI K a cX8_weightOf r M) : ∀ (fu : Nat) (x1 : Int32) (x2 : Int32) (x3 : Int32), f_X8_weightOf_7 a.1 M fu x1 x2 x3 = some r → Go K 4 a M 7 [(0, .ref (a.2 0)), (1, .int x1), (2, .int x2), (3, .int x3)] [] := by
  intro fu
  induction fu with
  | zero => intro x1 x2 x3 hf; exact absurd hf (by simp [f_X8_weightOf_7])
  | succ fu ih =>
    intro x1 x2 x3 hf
    rw [f_X8_weightOf_7] at hf
    refine g_iload_n 3 S dX8_weightOf_7 rfl ?_
    refine g_bipush (v := 6) S dX8_weightOf_8 rfl ?_
    refine g_iload_n 1 S dX8_weightOf_10 rfl ?_
    refine g_imul S dX8_weightOf_11 ?_
    refine g_aload_n 0 S dX8_weightOf_12 rfl ?_
    refine g_get (v := .ref (a.2 2)) S ob_0 rfl gi_X8 (by decide) lf_X8_13 rfl dX8_weightOf_13 ?_
    refine g_iload_n 1 S dX8_weightOf_16 rfl ?_
    refine g_iald S ia_2 dX8_weightOf_17 hf (fun hf => ?_)
    refine g_iadd S dX8_weightOf_18 ?_
    refine g_icmp_ge (tgt := 37) S dX8_weightOf_19 (by decide) hf (fun c hf => ?_) (fun c hf => ?_)
    · refine g_iload_n 2 S dX8_weightOf_37 rfl ?_
      exact g_iretP rt hf dX8_weightOf_38
    · refine g_iload_n 2 S dX8_weightOf_22 rfl ?_
      refine g_aload_n 0 S dX8_weightOf_23 rfl ?_
      refine g_get (v := .ref (a.2 5)) S ob_0 rfl gi_X8 (by decide) lf_X8_23 rfl dX8_weightOf_24 ?_
      refine g_iload_n 3 S dX8_weightOf_27 rfl ?_
      refine g_iald S ia_5 dX8_weightOf_28 hf (fun hf => ?_)
      refine g_iadd S dX8_weightOf_29 ?_
      refine g_istore_n (lv' := [(2, .int (x2 + (M 5 (Int32.toNatClampNeg x3)))), (0, .ref (a.2 0)), (1, .int x1), (3, .int x3)]) S dX8_weightOf_30 (by decide) rfl ?_
      refine g_iinc (v := (x3 + 1)) (lv' := [(3, .int (x3 + 1)), (2, .int (x2 + (M 5 (Int32.toNatClampNeg x3)))), (0, .ref (a.2 0)), (1, .int x1)]) 3 S dX8_weightOf_31 rfl rfl (by decide) rfl ?_
      refine g_goto (tgt := 7) S dX8_weightOf_34 (by decide) ?_
      refine Go.sub [2, 3, 1, 0] rfl ?_
      exact ih _ _ _ hf
def f_X8_weightOf (z : Nat → Nat) (M : Mem) (p1 : Int32) : Option Int32 := f_X8_weightOf_7 z M 1000 p1 0 (6 * p1)
theorem c_X8_weightOf {l : Launch} {G : GG} {a : AA} {M : Mem} {p1 : Int32} {r : Int32} (hf : f_X8_weightOf a.1 M p1 = some r) : CtI l G a yX8_weightOf cX8_weightOf 4 .int (rmD 0) [.ref (a.2 0), .int p1] M r M := by
  refine ct_I (by decide) rfl rfl (own := RX8) (Nat.le_of_ble_eq_true rfl) (fun K hl hg S rt => ?_)
  subst hl; subst hg
  unfold f_X8_weightOf at hf
  show Go K 4 a M 0 [(0, .ref (a.2 0)), (1, .int p1)] []
  refine g_iconst (v := 0) S dX8_weightOf_0 rfl ?_
  refine g_istore_n (lv' := [(2, .int 0), (0, .ref (a.2 0)), (1, .int p1)]) S dX8_weightOf_1 (by decide) rfl ?_
  refine g_bipush (v := 6) S dX8_weightOf_2 rfl ?_
  refine g_iload_n 2 S dX8_weightOf_4 rfl ?_
  refine g_imul S dX8_weightOf_5 ?_
  refine g_istore_n (lv' := [(3, .int (6 * p1)), (2, .int 0), (0, .ref (a.2 0)), (1, .int p1)]) S dX8_weightOf_6 (by decide) rfl ?_
  refine Go.sub [2, 3, 1, 0] rfl ?_
  exact t_X8_weightOf_7  S rt 1000 _ _ _ hf
-- BridleBookModel.up(III)I
theorem dX8_up_0 : decode cX8_up 0 = .ok (.aload_n 0, 1) := by decide +kernel
theorem dX8_up_1 : decode cX8_up 1 = .ok (.iload_n 1, 1) := by decide +kernel
theorem dX8_up_2 : decode cX8_up 2 = .ok (.invokevirtual 123, 3) := by decide +kernel
theorem dX8_up_5 : decode cX8_up 5 = .ok (.ineg, 1) := by decide +kernel
theorem dX8_up_6 : decode cX8_up 6 = .ok (.istore 4, 2) := by decide +kernel
theorem dX8_up_8 : decode cX8_up 8 = .ok (.bipush 6, 2) := by decide +kernel
theorem dX8_up_10 : decode cX8_up 10 = .ok (.iload_n 1, 1) := by decide +kernel
theorem dX8_up_11 : decode cX8_up 11 = .ok (.imul, 1) := by decide +kernel
theorem dX8_up_12 : decode cX8_up 12 = .ok (.istore 5, 2) := by decide +kernel
theorem dX8_up_14 : decode cX8_up 14 = .ok (.iload 5, 2) := by decide +kernel
theorem dX8_up_16 : decode cX8_up 16 = .ok (.bipush 6, 2) := by decide +kernel
theorem dX8_up_18 : decode cX8_up 18 = .ok (.iload_n 1, 1) := by decide +kernel
theorem dX8_up_19 : decode cX8_up 19 = .ok (.imul, 1) := by decide +kernel
theorem dX8_up_20 : decode cX8_up 20 = .ok (.aload_n 0, 1) := by decide +kernel
theorem dX8_up_21 : decode cX8_up 21 = .ok (.getfield 13, 3) := by decide +kernel
theorem dX8_up_24 : decode cX8_up 24 = .ok (.iload_n 1, 1) := by decide +kernel
theorem dX8_up_25 : decode cX8_up 25 = .ok (.iaload, 1) := by decide +kernel
theorem dX8_up_26 : decode cX8_up 26 = .ok (.iadd, 1) := by decide +kernel
theorem dX8_up_27 : decode cX8_up 27 = .ok (.if_icmp .ge 36, 3) := by decide +kernel
theorem dX8_up_30 : decode cX8_up 30 = .ok (.iload 4, 2) := by decide +kernel
theorem dX8_up_32 : decode cX8_up 32 = .ok (.aload_n 0, 1) := by decide +kernel
theorem dX8_up_33 : decode cX8_up 33 = .ok (.getfield 17, 3) := by decide +kernel
theorem dX8_up_36 : decode cX8_up 36 = .ok (.iload 5, 2) := by decide +kernel
theorem dX8_up_38 : decode cX8_up 38 = .ok (.iaload, 1) := by decide +kernel
theorem dX8_up_39 : decode cX8_up 39 = .ok (.aload_n 0, 1) := by decide +kernel
theorem dX8_up_40 : decode cX8_up 40 = .ok (.getfield 35, 3) := by decide +kernel
theorem dX8_up_43 : decode cX8_up 43 = .ok (.iload_n 3, 1) := by decide +kernel
theorem dX8_up_44 : decode cX8_up 44 = .ok (.iaload, 1) := by decide +kernel
theorem dX8_up_45 : decode cX8_up 45 = .ok (.imul, 1) := by decide +kernel
theorem dX8_up_46 : decode cX8_up 46 = .ok (.iload_n 2, 1) := by decide +kernel
theorem dX8_up_47 : decode cX8_up 47 = .ok (.imul, 1) := by decide +kernel
theorem dX8_up_48 : decode cX8_up 48 = .ok (.iload_n 2, 1) := by decide +kernel
theorem dX8_up_49 : decode cX8_up 49 = .ok (.imul, 1) := by decide +kernel
theorem dX8_up_50 : decode cX8_up 50 = .ok (.sipush 1000, 3) := by decide +kernel
theorem dX8_up_53 : decode cX8_up 53 = .ok (.idiv, 1) := by decide +kernel
theorem dX8_up_54 : decode cX8_up 54 = .ok (.iadd, 1) := by decide +kernel
theorem dX8_up_55 : decode cX8_up 55 = .ok (.istore 4, 2) := by decide +kernel
theorem dX8_up_57 : decode cX8_up 57 = .ok (.iinc 5 1, 3) := by decide +kernel
theorem dX8_up_60 : decode cX8_up 60 = .ok (.goto (-46), 3) := by decide +kernel
theorem dX8_up_63 : decode cX8_up 63 = .ok (.iload 4, 2) := by decide +kernel
theorem dX8_up_65 : decode cX8_up 65 = .ok (.ireturn, 1) := by decide +kernel
def f_X8_up_14 (z : Nat → Nat) (M : Mem) : Nat → Int32 → Int32 → Int32 → Int32 → Int32 → Option Int32
  | 0, _, _, _, _, _ => none
  | fu + 1, x1, x2, x3, x4, x5 => ck (inb x1 20) (if ((6 * x1) + (M 2 (Int32.toNatClampNeg x1))) ≤ x5 then some x4 else ck (inb x5 120) (ck (inb x3 18) (f_X8_up_14 z M fu x1 x2 x3 (x4 + (((((M 3 (Int32.toNatClampNeg x5)) * (M 9 (Int32.toNatClampNeg x3))) * x2) * x2) / 1000)) (x5 + 1))))
theorem t_X8_up_14 {K : KK} {a : AA} (S : Sx K RX8 cX8_up 6 (rmD 1)) {r : Int32} {M : Mem} (rt : RtI K a cX8_up r M) : ∀ (fu : Nat) (x1 : Int32) (x2 : Int32) (x3 : Int32) (x4 : Int32) (x5 : Int32), f_X8_up_14 a.1 M fu x1 x2 x3 x4 x5 = some r → Go K 6 a M 14 [(0, .ref (a.2 0)), (1, .int x1), (2, .int x2), (3, .int x3), (4, .int x4), (5, .int x5)] [] := by
  intro fu
  induction fu with
  | zero => intro x1 x2 x3 x4 x5 hf; exact absurd hf (by simp [f_X8_up_14])
  | succ fu ih =>
    intro x1 x2 x3 x4 x5 hf
    rw [f_X8_up_14] at hf
    refine g_iload 5 S dX8_up_14 rfl ?_
    refine g_bipush (v := 6) S dX8_up_16 rfl ?_
    refine g_iload_n 1 S dX8_up_18 rfl ?_
    refine g_imul S dX8_up_19 ?_
    refine g_aload_n 0 S dX8_up_20 rfl ?_
    refine g_get (v := .ref (a.2 2)) S ob_0 rfl gi_X8 (by decide) lf_X8_13 rfl dX8_up_21 ?_
    refine g_iload_n 1 S dX8_up_24 rfl ?_
    refine g_iald S ia_2 dX8_up_25 hf (fun hf => ?_)
    refine g_iadd S dX8_up_26 ?_
    refine g_icmp_ge (tgt := 63) S dX8_up_27 (by decide) hf (fun c hf => ?_) (fun c hf => ?_)
    · refine g_iload 4 S dX8_up_63 rfl ?_
      exact g_iretP rt hf dX8_up_65
    · refine g_iload 4 S dX8_up_30 rfl ?_
      refine g_aload_n 0 S dX8_up_32 rfl ?_
      refine g_get (v := .ref (a.2 3)) S ob_0 rfl gi_X8 (by decide) lf_X8_17 rfl dX8_up_33 ?_
      refine g_iload 5 S dX8_up_36 rfl ?_
      refine g_iald S ia_3 dX8_up_38 hf (fun hf => ?_)
      refine g_aload_n 0 S dX8_up_39 rfl ?_
      refine g_get (v := .ref (a.2 9)) S ob_0 rfl gi_X8 (by decide) lf_X8_35 rfl dX8_up_40 ?_
      refine g_iload_n 3 S dX8_up_43 rfl ?_
      refine g_iald S ia_9 dX8_up_44 hf (fun hf => ?_)
      refine g_imul S dX8_up_45 ?_
      refine g_iload_n 2 S dX8_up_46 rfl ?_
      refine g_imul S dX8_up_47 ?_
      refine g_iload_n 2 S dX8_up_48 rfl ?_
      refine g_imul S dX8_up_49 ?_
      refine g_sipush (v := 1000) S dX8_up_50 rfl ?_
      refine g_idiv S dX8_up_53 (by decide) ?_
      refine g_iadd S dX8_up_54 ?_
      refine g_istore (lv' := [(4, .int (x4 + (((((M 3 (Int32.toNatClampNeg x5)) * (M 9 (Int32.toNatClampNeg x3))) * x2) * x2) / 1000))), (0, .ref (a.2 0)), (1, .int x1), (2, .int x2), (3, .int x3), (5, .int x5)]) S dX8_up_55 (by decide) rfl ?_
      refine g_iinc (v := (x5 + 1)) (lv' := [(5, .int (x5 + 1)), (4, .int (x4 + (((((M 3 (Int32.toNatClampNeg x5)) * (M 9 (Int32.toNatClampNeg x3))) * x2) * x2) / 1000))), (0, .ref (a.2 0)), (1, .int x1), (2, .int x2), (3, .int x3)]) 5 S dX8_up_57 rfl rfl (by decide) rfl ?_
      refine g_goto (tgt := 14) S dX8_up_60 (by decide) ?_
      refine Go.sub [2, 3, 4, 5, 1, 0] rfl ?_
      exact ih _ _ _ _ _ hf
def f_X8_up (z : Nat → Nat) (M : Mem) (p1 : Int32) (p2 : Int32) (p3 : Int32) : Option Int32 := bd1 (f_X8_weightOf z M p1) (fun r1 => f_X8_up_14 z M 1000 p1 p2 p3 (-r1) (6 * p1))
theorem c_X8_up {l : Launch} {G : GG} {a : AA} {M : Mem} {p1 : Int32} {p2 : Int32} {p3 : Int32} {r : Int32} (hf : f_X8_up a.1 M p1 p2 p3 = some r) : CtI l G a yX8_up cX8_up 6 .int (rmD 1) [.ref (a.2 0), .int p1, .int p2, .int p3] M r M := by
  refine ct_I (by decide) rfl rfl (own := RX8) (Nat.le_of_ble_eq_true rfl) (fun K hl hg S rt => ?_)
  subst hl; subst hg
  unfold f_X8_up at hf
  show Go K 6 a M 0 [(0, .ref (a.2 0)), (1, .int p1), (2, .int p2), (3, .int p3)] []
  refine g_aload_n 0 S dX8_up_0 rfl ?_
  refine g_iload_n 1 S dX8_up_1 rfl ?_
  obtain ⟨r1, hr1, hf⟩ := bd1_some hf
  refine g_cVI (st := []) S ob_0 rfl ok_X8_weightOf lk_X8_123 (c_X8_weightOf hr1) rfl rfl ⟨by decide, by decide⟩ (rmD_z _) (Nat.le_of_ble_eq_true rfl) dX8_up_2 ?_
  refine g_ineg S dX8_up_5 ?_
  refine g_istore (lv' := [(4, .int (-r1)), (0, .ref (a.2 0)), (1, .int p1), (2, .int p2), (3, .int p3)]) S dX8_up_6 (by decide) rfl ?_
  refine g_bipush (v := 6) S dX8_up_8 rfl ?_
  refine g_iload_n 2 S dX8_up_10 rfl ?_
  refine g_imul S dX8_up_11 ?_
  refine g_istore (lv' := [(5, .int (6 * p1)), (4, .int (-r1)), (0, .ref (a.2 0)), (1, .int p1), (2, .int p2), (3, .int p3)]) S dX8_up_12 (by decide) rfl ?_
  refine Go.sub [2, 3, 4, 5, 1, 0] rfl ?_
  exact t_X8_up_14  S rt 1000 _ _ _ _ _ hf
-- BridleBookModel.back(III)I
theorem dX8_back_0 : decode cX8_back 0 = .ok (.iconst 0, 1) := by decide +kernel
theorem dX8_back_1 : decode cX8_back 1 = .ok (.istore 4, 2) := by decide +kernel
theorem dX8_back_3 : decode cX8_back 3 = .ok (.bipush 6, 2) := by decide +kernel
theorem dX8_back_5 : decode cX8_back 5 = .ok (.iload_n 1, 1) := by decide +kernel
theorem dX8_back_6 : decode cX8_back 6 = .ok (.imul, 1) := by decide +kernel
theorem dX8_back_7 : decode cX8_back 7 = .ok (.istore 5, 2) := by decide +kernel
theorem dX8_back_9 : decode cX8_back 9 = .ok (.iload 5, 2) := by decide +kernel
theorem dX8_back_11 : decode cX8_back 11 = .ok (.bipush 6, 2) := by decide +kernel
theorem dX8_back_13 : decode cX8_back 13 = .ok (.iload_n 1, 1) := by decide +kernel
theorem dX8_back_14 : decode cX8_back 14 = .ok (.imul, 1) := by decide +kernel
theorem dX8_back_15 : decode cX8_back 15 = .ok (.aload_n 0, 1) := by decide +kernel
theorem dX8_back_16 : decode cX8_back 16 = .ok (.getfield 13, 3) := by decide +kernel
theorem dX8_back_19 : decode cX8_back 19 = .ok (.iload_n 1, 1) := by decide +kernel
theorem dX8_back_20 : decode cX8_back 20 = .ok (.iaload, 1) := by decide +kernel
theorem dX8_back_21 : decode cX8_back 21 = .ok (.iadd, 1) := by decide +kernel
theorem dX8_back_22 : decode cX8_back 22 = .ok (.if_icmp .ge 36, 3) := by decide +kernel
theorem dX8_back_25 : decode cX8_back 25 = .ok (.iload 4, 2) := by decide +kernel
theorem dX8_back_27 : decode cX8_back 27 = .ok (.aload_n 0, 1) := by decide +kernel
theorem dX8_back_28 : decode cX8_back 28 = .ok (.getfield 17, 3) := by decide +kernel
theorem dX8_back_31 : decode cX8_back 31 = .ok (.iload 5, 2) := by decide +kernel
theorem dX8_back_33 : decode cX8_back 33 = .ok (.iaload, 1) := by decide +kernel
theorem dX8_back_34 : decode cX8_back 34 = .ok (.aload_n 0, 1) := by decide +kernel
theorem dX8_back_35 : decode cX8_back 35 = .ok (.getfield 38, 3) := by decide +kernel
theorem dX8_back_38 : decode cX8_back 38 = .ok (.iload_n 3, 1) := by decide +kernel
theorem dX8_back_39 : decode cX8_back 39 = .ok (.iaload, 1) := by decide +kernel
theorem dX8_back_40 : decode cX8_back 40 = .ok (.imul, 1) := by decide +kernel
theorem dX8_back_41 : decode cX8_back 41 = .ok (.iload_n 2, 1) := by decide +kernel
theorem dX8_back_42 : decode cX8_back 42 = .ok (.imul, 1) := by decide +kernel
theorem dX8_back_43 : decode cX8_back 43 = .ok (.iload_n 2, 1) := by decide +kernel
theorem dX8_back_44 : decode cX8_back 44 = .ok (.imul, 1) := by decide +kernel
theorem dX8_back_45 : decode cX8_back 45 = .ok (.sipush 1000, 3) := by decide +kernel
theorem dX8_back_48 : decode cX8_back 48 = .ok (.idiv, 1) := by decide +kernel
theorem dX8_back_49 : decode cX8_back 49 = .ok (.iadd, 1) := by decide +kernel
theorem dX8_back_50 : decode cX8_back 50 = .ok (.istore 4, 2) := by decide +kernel
theorem dX8_back_52 : decode cX8_back 52 = .ok (.iinc 5 1, 3) := by decide +kernel
theorem dX8_back_55 : decode cX8_back 55 = .ok (.goto (-46), 3) := by decide +kernel
theorem dX8_back_58 : decode cX8_back 58 = .ok (.iload 4, 2) := by decide +kernel
theorem dX8_back_60 : decode cX8_back 60 = .ok (.ireturn, 1) := by decide +kernel
def f_X8_back_9 (z : Nat → Nat) (M : Mem) : Nat → Int32 → Int32 → Int32 → Int32 → Int32 → Option Int32
  | 0, _, _, _, _, _ => none
  | fu + 1, x1, x2, x3, x4, x5 => ck (inb x1 20) (if ((6 * x1) + (M 2 (Int32.toNatClampNeg x1))) ≤ x5 then some x4 else ck (inb x5 120) (ck (inb x3 18) (f_X8_back_9 z M fu x1 x2 x3 (x4 + (((((M 3 (Int32.toNatClampNeg x5)) * (M 10 (Int32.toNatClampNeg x3))) * x2) * x2) / 1000)) (x5 + 1))))
theorem t_X8_back_9 {K : KK} {a : AA} (S : Sx K RX8 cX8_back 6 (rmD 0)) {r : Int32} {M : Mem} (rt : RtI K a cX8_back r M) : ∀ (fu : Nat) (x1 : Int32) (x2 : Int32) (x3 : Int32) (x4 : Int32) (x5 : Int32), f_X8_back_9 a.1 M fu x1 x2 x3 x4 x5 = some r → Go K 6 a M 9 [(0, .ref (a.2 0)), (1, .int x1), (2, .int x2), (3, .int x3), (4, .int x4), (5, .int x5)] [] := by
  intro fu
  induction fu with
  | zero => intro x1 x2 x3 x4 x5 hf; exact absurd hf (by simp [f_X8_back_9])
  | succ fu ih =>
    intro x1 x2 x3 x4 x5 hf
    rw [f_X8_back_9] at hf
    refine g_iload 5 S dX8_back_9 rfl ?_
    refine g_bipush (v := 6) S dX8_back_11 rfl ?_
    refine g_iload_n 1 S dX8_back_13 rfl ?_
    refine g_imul S dX8_back_14 ?_
    refine g_aload_n 0 S dX8_back_15 rfl ?_
    refine g_get (v := .ref (a.2 2)) S ob_0 rfl gi_X8 (by decide) lf_X8_13 rfl dX8_back_16 ?_
    refine g_iload_n 1 S dX8_back_19 rfl ?_
    refine g_iald S ia_2 dX8_back_20 hf (fun hf => ?_)
    refine g_iadd S dX8_back_21 ?_
    refine g_icmp_ge (tgt := 58) S dX8_back_22 (by decide) hf (fun c hf => ?_) (fun c hf => ?_)
    · refine g_iload 4 S dX8_back_58 rfl ?_
      exact g_iretP rt hf dX8_back_60
    · refine g_iload 4 S dX8_back_25 rfl ?_
      refine g_aload_n 0 S dX8_back_27 rfl ?_
      refine g_get (v := .ref (a.2 3)) S ob_0 rfl gi_X8 (by decide) lf_X8_17 rfl dX8_back_28 ?_
      refine g_iload 5 S dX8_back_31 rfl ?_
      refine g_iald S ia_3 dX8_back_33 hf (fun hf => ?_)
      refine g_aload_n 0 S dX8_back_34 rfl ?_
      refine g_get (v := .ref (a.2 10)) S ob_0 rfl gi_X8 (by decide) lf_X8_38 rfl dX8_back_35 ?_
      refine g_iload_n 3 S dX8_back_38 rfl ?_
      refine g_iald S ia_10 dX8_back_39 hf (fun hf => ?_)
      refine g_imul S dX8_back_40 ?_
      refine g_iload_n 2 S dX8_back_41 rfl ?_
      refine g_imul S dX8_back_42 ?_
      refine g_iload_n 2 S dX8_back_43 rfl ?_
      refine g_imul S dX8_back_44 ?_
      refine g_sipush (v := 1000) S dX8_back_45 rfl ?_
      refine g_idiv S dX8_back_48 (by decide) ?_
      refine g_iadd S dX8_back_49 ?_
      refine g_istore (lv' := [(4, .int (x4 + (((((M 3 (Int32.toNatClampNeg x5)) * (M 10 (Int32.toNatClampNeg x3))) * x2) * x2) / 1000))), (0, .ref (a.2 0)), (1, .int x1), (2, .int x2), (3, .int x3), (5, .int x5)]) S dX8_back_50 (by decide) rfl ?_
      refine g_iinc (v := (x5 + 1)) (lv' := [(5, .int (x5 + 1)), (4, .int (x4 + (((((M 3 (Int32.toNatClampNeg x5)) * (M 10 (Int32.toNatClampNeg x3))) * x2) * x2) / 1000))), (0, .ref (a.2 0)), (1, .int x1), (2, .int x2), (3, .int x3)]) 5 S dX8_back_52 rfl rfl (by decide) rfl ?_
      refine g_goto (tgt := 9) S dX8_back_55 (by decide) ?_
      refine Go.sub [2, 3, 4, 5, 1, 0] rfl ?_
      exact ih _ _ _ _ _ hf
def f_X8_back (z : Nat → Nat) (M : Mem) (p1 : Int32) (p2 : Int32) (p3 : Int32) : Option Int32 := f_X8_back_9 z M 1000 p1 p2 p3 0 (6 * p1)
theorem c_X8_back {l : Launch} {G : GG} {a : AA} {M : Mem} {p1 : Int32} {p2 : Int32} {p3 : Int32} {r : Int32} (hf : f_X8_back a.1 M p1 p2 p3 = some r) : CtI l G a yX8_back cX8_back 6 .int (rmD 0) [.ref (a.2 0), .int p1, .int p2, .int p3] M r M := by
  refine ct_I (by decide) rfl rfl (own := RX8) (Nat.le_of_ble_eq_true rfl) (fun K hl hg S rt => ?_)
  subst hl; subst hg
  unfold f_X8_back at hf
  show Go K 6 a M 0 [(0, .ref (a.2 0)), (1, .int p1), (2, .int p2), (3, .int p3)] []
  refine g_iconst (v := 0) S dX8_back_0 rfl ?_
  refine g_istore (lv' := [(4, .int 0), (0, .ref (a.2 0)), (1, .int p1), (2, .int p2), (3, .int p3)]) S dX8_back_1 (by decide) rfl ?_
  refine g_bipush (v := 6) S dX8_back_3 rfl ?_
  refine g_iload_n 2 S dX8_back_5 rfl ?_
  refine g_imul S dX8_back_6 ?_
  refine g_istore (lv' := [(5, .int (6 * p1)), (4, .int 0), (0, .ref (a.2 0)), (1, .int p1), (2, .int p2), (3, .int p3)]) S dX8_back_7 (by decide) rfl ?_
  refine Go.sub [2, 3, 4, 5, 1, 0] rfl ?_
  exact t_X8_back_9  S rt 1000 _ _ _ _ _ hf
-- BridleBookModel.turns(III)I
theorem dX8_turns_0 : decode cX8_turns 0 = .ok (.iconst 0, 1) := by decide +kernel
theorem dX8_turns_1 : decode cX8_turns 1 = .ok (.istore 4, 2) := by decide +kernel
theorem dX8_turns_3 : decode cX8_turns 3 = .ok (.bipush 6, 2) := by decide +kernel
theorem dX8_turns_5 : decode cX8_turns 5 = .ok (.iload_n 1, 1) := by decide +kernel
theorem dX8_turns_6 : decode cX8_turns 6 = .ok (.imul, 1) := by decide +kernel
theorem dX8_turns_7 : decode cX8_turns 7 = .ok (.istore 5, 2) := by decide +kernel
theorem dX8_turns_9 : decode cX8_turns 9 = .ok (.iload 5, 2) := by decide +kernel
theorem dX8_turns_11 : decode cX8_turns 11 = .ok (.bipush 6, 2) := by decide +kernel
theorem dX8_turns_13 : decode cX8_turns 13 = .ok (.iload_n 1, 1) := by decide +kernel
theorem dX8_turns_14 : decode cX8_turns 14 = .ok (.imul, 1) := by decide +kernel
theorem dX8_turns_15 : decode cX8_turns 15 = .ok (.aload_n 0, 1) := by decide +kernel
theorem dX8_turns_16 : decode cX8_turns 16 = .ok (.getfield 13, 3) := by decide +kernel
theorem dX8_turns_19 : decode cX8_turns 19 = .ok (.iload_n 1, 1) := by decide +kernel
theorem dX8_turns_20 : decode cX8_turns 20 = .ok (.iaload, 1) := by decide +kernel
theorem dX8_turns_21 : decode cX8_turns 21 = .ok (.iadd, 1) := by decide +kernel
theorem dX8_turns_22 : decode cX8_turns 22 = .ok (.if_icmp .ge 59, 3) := by decide +kernel
theorem dX8_turns_25 : decode cX8_turns 25 = .ok (.iload 4, 2) := by decide +kernel
theorem dX8_turns_27 : decode cX8_turns 27 = .ok (.aload_n 0, 1) := by decide +kernel
theorem dX8_turns_28 : decode cX8_turns 28 = .ok (.getfield 17, 3) := by decide +kernel
theorem dX8_turns_31 : decode cX8_turns 31 = .ok (.iload 5, 2) := by decide +kernel
theorem dX8_turns_33 : decode cX8_turns 33 = .ok (.iaload, 1) := by decide +kernel
theorem dX8_turns_34 : decode cX8_turns 34 = .ok (.aload_n 0, 1) := by decide +kernel
theorem dX8_turns_35 : decode cX8_turns 35 = .ok (.getfield 35, 3) := by decide +kernel
theorem dX8_turns_38 : decode cX8_turns 38 = .ok (.iload_n 3, 1) := by decide +kernel
theorem dX8_turns_39 : decode cX8_turns 39 = .ok (.iaload, 1) := by decide +kernel
theorem dX8_turns_40 : decode cX8_turns 40 = .ok (.imul, 1) := by decide +kernel
theorem dX8_turns_41 : decode cX8_turns 41 = .ok (.iload_n 2, 1) := by decide +kernel
theorem dX8_turns_42 : decode cX8_turns 42 = .ok (.imul, 1) := by decide +kernel
theorem dX8_turns_43 : decode cX8_turns 43 = .ok (.iload_n 2, 1) := by decide +kernel
theorem dX8_turns_44 : decode cX8_turns 44 = .ok (.imul, 1) := by decide +kernel
theorem dX8_turns_45 : decode cX8_turns 45 = .ok (.sipush 1000, 3) := by decide +kernel
theorem dX8_turns_48 : decode cX8_turns 48 = .ok (.idiv, 1) := by decide +kernel
theorem dX8_turns_49 : decode cX8_turns 49 = .ok (.aload_n 0, 1) := by decide +kernel
theorem dX8_turns_50 : decode cX8_turns 50 = .ok (.getfield 23, 3) := by decide +kernel
theorem dX8_turns_53 : decode cX8_turns 53 = .ok (.iload 5, 2) := by decide +kernel
theorem dX8_turns_55 : decode cX8_turns 55 = .ok (.iaload, 1) := by decide +kernel
theorem dX8_turns_56 : decode cX8_turns 56 = .ok (.isub, 1) := by decide +kernel
theorem dX8_turns_57 : decode cX8_turns 57 = .ok (.aload_n 0, 1) := by decide +kernel
theorem dX8_turns_58 : decode cX8_turns 58 = .ok (.getfield 20, 3) := by decide +kernel
theorem dX8_turns_61 : decode cX8_turns 61 = .ok (.iload 5, 2) := by decide +kernel
theorem dX8_turns_63 : decode cX8_turns 63 = .ok (.iaload, 1) := by decide +kernel
theorem dX8_turns_64 : decode cX8_turns 64 = .ok (.aload_n 0, 1) := by decide +kernel
theorem dX8_turns_65 : decode cX8_turns 65 = .ok (.getfield 26, 3) := by decide +kernel
theorem dX8_turns_68 : decode cX8_turns 68 = .ok (.iload_n 1, 1) := by decide +kernel
theorem dX8_turns_69 : decode cX8_turns 69 = .ok (.iaload, 1) := by decide +kernel
theorem dX8_turns_70 : decode cX8_turns 70 = .ok (.isub, 1) := by decide +kernel
theorem dX8_turns_71 : decode cX8_turns 71 = .ok (.imul, 1) := by decide +kernel
theorem dX8_turns_72 : decode cX8_turns 72 = .ok (.iadd, 1) := by decide +kernel
theorem dX8_turns_73 : decode cX8_turns 73 = .ok (.istore 4, 2) := by decide +kernel
theorem dX8_turns_75 : decode cX8_turns 75 = .ok (.iinc 5 1, 3) := by decide +kernel
theorem dX8_turns_78 : decode cX8_turns 78 = .ok (.goto (-69), 3) := by decide +kernel
theorem dX8_turns_81 : decode cX8_turns 81 = .ok (.iload 4, 2) := by decide +kernel
theorem dX8_turns_83 : decode cX8_turns 83 = .ok (.ireturn, 1) := by decide +kernel
def f_X8_turns_9 (z : Nat → Nat) (M : Mem) : Nat → Int32 → Int32 → Int32 → Int32 → Int32 → Option Int32
  | 0, _, _, _, _, _ => none
  | fu + 1, x1, x2, x3, x4, x5 => ck (inb x1 20) (if ((6 * x1) + (M 2 (Int32.toNatClampNeg x1))) ≤ x5 then some x4 else ck (inb x5 120) (ck (inb x3 18) (ck (inb x5 120) (ck (inb x5 120) (ck (inb x1 20) (f_X8_turns_9 z M fu x1 x2 x3 (x4 + (((((((M 3 (Int32.toNatClampNeg x5)) * (M 9 (Int32.toNatClampNeg x3))) * x2) * x2) / 1000) - (M 5 (Int32.toNatClampNeg x5))) * ((M 4 (Int32.toNatClampNeg x5)) - (M 6 (Int32.toNatClampNeg x1))))) (x5 + 1)))))))
theorem t_X8_turns_9 {K : KK} {a : AA} (S : Sx K RX8 cX8_turns 6 (rmD 0)) {r : Int32} {M : Mem} (rt : RtI K a cX8_turns r M) : ∀ (fu : Nat) (x1 : Int32) (x2 : Int32) (x3 : Int32) (x4 : Int32) (x5 : Int32), f_X8_turns_9 a.1 M fu x1 x2 x3 x4 x5 = some r → Go K 6 a M 9 [(0, .ref (a.2 0)), (1, .int x1), (2, .int x2), (3, .int x3), (4, .int x4), (5, .int x5)] [] := by
  intro fu
  induction fu with
  | zero => intro x1 x2 x3 x4 x5 hf; exact absurd hf (by simp [f_X8_turns_9])
  | succ fu ih =>
    intro x1 x2 x3 x4 x5 hf
    rw [f_X8_turns_9] at hf
    refine g_iload 5 S dX8_turns_9 rfl ?_
    refine g_bipush (v := 6) S dX8_turns_11 rfl ?_
    refine g_iload_n 1 S dX8_turns_13 rfl ?_
    refine g_imul S dX8_turns_14 ?_
    refine g_aload_n 0 S dX8_turns_15 rfl ?_
    refine g_get (v := .ref (a.2 2)) S ob_0 rfl gi_X8 (by decide) lf_X8_13 rfl dX8_turns_16 ?_
    refine g_iload_n 1 S dX8_turns_19 rfl ?_
    refine g_iald S ia_2 dX8_turns_20 hf (fun hf => ?_)
    refine g_iadd S dX8_turns_21 ?_
    refine g_icmp_ge (tgt := 81) S dX8_turns_22 (by decide) hf (fun c hf => ?_) (fun c hf => ?_)
    · refine g_iload 4 S dX8_turns_81 rfl ?_
      exact g_iretP rt hf dX8_turns_83
    · refine g_iload 4 S dX8_turns_25 rfl ?_
      refine g_aload_n 0 S dX8_turns_27 rfl ?_
      refine g_get (v := .ref (a.2 3)) S ob_0 rfl gi_X8 (by decide) lf_X8_17 rfl dX8_turns_28 ?_
      refine g_iload 5 S dX8_turns_31 rfl ?_
      refine g_iald S ia_3 dX8_turns_33 hf (fun hf => ?_)
      refine g_aload_n 0 S dX8_turns_34 rfl ?_
      refine g_get (v := .ref (a.2 9)) S ob_0 rfl gi_X8 (by decide) lf_X8_35 rfl dX8_turns_35 ?_
      refine g_iload_n 3 S dX8_turns_38 rfl ?_
      refine g_iald S ia_9 dX8_turns_39 hf (fun hf => ?_)
      refine g_imul S dX8_turns_40 ?_
      refine g_iload_n 2 S dX8_turns_41 rfl ?_
      refine g_imul S dX8_turns_42 ?_
      refine g_iload_n 2 S dX8_turns_43 rfl ?_
      refine g_imul S dX8_turns_44 ?_
      refine g_sipush (v := 1000) S dX8_turns_45 rfl ?_
      refine g_idiv S dX8_turns_48 (by decide) ?_
      refine g_aload_n 0 S dX8_turns_49 rfl ?_
      refine g_get (v := .ref (a.2 5)) S ob_0 rfl gi_X8 (by decide) lf_X8_23 rfl dX8_turns_50 ?_
      refine g_iload 5 S dX8_turns_53 rfl ?_
      refine g_iald S ia_5 dX8_turns_55 hf (fun hf => ?_)
      refine g_isub S dX8_turns_56 ?_
      refine g_aload_n 0 S dX8_turns_57 rfl ?_
      refine g_get (v := .ref (a.2 4)) S ob_0 rfl gi_X8 (by decide) lf_X8_20 rfl dX8_turns_58 ?_
      refine g_iload 5 S dX8_turns_61 rfl ?_
      refine g_iald S ia_4 dX8_turns_63 hf (fun hf => ?_)
      refine g_aload_n 0 S dX8_turns_64 rfl ?_
      refine g_get (v := .ref (a.2 6)) S ob_0 rfl gi_X8 (by decide) lf_X8_26 rfl dX8_turns_65 ?_
      refine g_iload_n 1 S dX8_turns_68 rfl ?_
      refine g_iald S ia_6 dX8_turns_69 hf (fun hf => ?_)
      refine g_isub S dX8_turns_70 ?_
      refine g_imul S dX8_turns_71 ?_
      refine g_iadd S dX8_turns_72 ?_
      refine g_istore (lv' := [(4, .int (x4 + (((((((M 3 (Int32.toNatClampNeg x5)) * (M 9 (Int32.toNatClampNeg x3))) * x2) * x2) / 1000) - (M 5 (Int32.toNatClampNeg x5))) * ((M 4 (Int32.toNatClampNeg x5)) - (M 6 (Int32.toNatClampNeg x1)))))), (0, .ref (a.2 0)), (1, .int x1), (2, .int x2), (3, .int x3), (5, .int x5)]) S dX8_turns_73 (by decide) rfl ?_
      refine g_iinc (v := (x5 + 1)) (lv' := [(5, .int (x5 + 1)), (4, .int (x4 + (((((((M 3 (Int32.toNatClampNeg x5)) * (M 9 (Int32.toNatClampNeg x3))) * x2) * x2) / 1000) - (M 5 (Int32.toNatClampNeg x5))) * ((M 4 (Int32.toNatClampNeg x5)) - (M 6 (Int32.toNatClampNeg x1)))))), (0, .ref (a.2 0)), (1, .int x1), (2, .int x2), (3, .int x3)]) 5 S dX8_turns_75 rfl rfl (by decide) rfl ?_
      refine g_goto (tgt := 9) S dX8_turns_78 (by decide) ?_
      refine Go.sub [2, 3, 4, 5, 1, 0] rfl ?_
      exact ih _ _ _ _ _ hf
def f_X8_turns (z : Nat → Nat) (M : Mem) (p1 : Int32) (p2 : Int32) (p3 : Int32) : Option Int32 := f_X8_turns_9 z M 1000 p1 p2 p3 0 (6 * p1)
theorem c_X8_turns {l : Launch} {G : GG} {a : AA} {M : Mem} {p1 : Int32} {p2 : Int32} {p3 : Int32} {r : Int32} (hf : f_X8_turns a.1 M p1 p2 p3 = some r) : CtI l G a yX8_turns cX8_turns 6 .int (rmD 0) [.ref (a.2 0), .int p1, .int p2, .int p3] M r M := by
  refine ct_I (by decide) rfl rfl (own := RX8) (Nat.le_of_ble_eq_true rfl) (fun K hl hg S rt => ?_)
  subst hl; subst hg
  unfold f_X8_turns at hf
  show Go K 6 a M 0 [(0, .ref (a.2 0)), (1, .int p1), (2, .int p2), (3, .int p3)] []
  refine g_iconst (v := 0) S dX8_turns_0 rfl ?_
  refine g_istore (lv' := [(4, .int 0), (0, .ref (a.2 0)), (1, .int p1), (2, .int p2), (3, .int p3)]) S dX8_turns_1 (by decide) rfl ?_
  refine g_bipush (v := 6) S dX8_turns_3 rfl ?_
  refine g_iload_n 2 S dX8_turns_5 rfl ?_
  refine g_imul S dX8_turns_6 ?_
  refine g_istore (lv' := [(5, .int (6 * p1)), (4, .int 0), (0, .ref (a.2 0)), (1, .int p1), (2, .int p2), (3, .int p3)]) S dX8_turns_7 (by decide) rfl ?_
  refine Go.sub [2, 3, 4, 5, 1, 0] rfl ?_
  exact t_X8_turns_9  S rt 1000 _ _ _ _ _ hf
-- BridleBookModel.force(IIII)I
theorem dX8_force_0 : decode cX8_force 0 = .ok (.aload_n 0, 1) := by decide +kernel
theorem dX8_force_1 : decode cX8_force 1 = .ok (.iload_n 1, 1) := by decide +kernel
theorem dX8_force_2 : decode cX8_force 2 = .ok (.invokevirtual 115, 3) := by decide +kernel
theorem dX8_force_5 : decode cX8_force 5 = .ok (.ifCond .eq 17, 3) := by decide +kernel
theorem dX8_force_8 : decode cX8_force 8 = .ok (.iload_n 2, 1) := by decide +kernel
theorem dX8_force_9 : decode cX8_force 9 = .ok (.invokestatic 127, 3) := by decide +kernel
theorem dX8_force_12 : decode cX8_force 12 = .ok (.ifCond .eq 10, 3) := by decide +kernel
theorem dX8_force_15 : decode cX8_force 15 = .ok (.iload_n 3, 1) := by decide +kernel
theorem dX8_force_16 : decode cX8_force 16 = .ok (.invokestatic 120, 3) := by decide +kernel
theorem dX8_force_19 : decode cX8_force 19 = .ok (.ifCond .ne 6, 3) := by decide +kernel
theorem dX8_force_22 : decode cX8_force 22 = .ok (.ldc 119, 2) := by decide +kernel
theorem dX8_force_24 : decode cX8_force 24 = .ok (.ireturn, 1) := by decide +kernel
theorem dX8_force_25 : decode cX8_force 25 = .ok (.iload 4, 2) := by decide +kernel
theorem dX8_force_27 : decode cX8_force 27 = .ok (.tableswitch 49 0 2 #[25, 33, 41], 25) := by decide +kernel
theorem dX8_force_52 : decode cX8_force 52 = .ok (.aload_n 0, 1) := by decide +kernel
theorem dX8_force_53 : decode cX8_force 53 = .ok (.iload_n 1, 1) := by decide +kernel
theorem dX8_force_54 : decode cX8_force 54 = .ok (.iload_n 2, 1) := by decide +kernel
theorem dX8_force_55 : decode cX8_force 55 = .ok (.iload_n 3, 1) := by decide +kernel
theorem dX8_force_56 : decode cX8_force 56 = .ok (.invokevirtual 130, 3) := by decide +kernel
theorem dX8_force_59 : decode cX8_force 59 = .ok (.ireturn, 1) := by decide +kernel
theorem dX8_force_60 : decode cX8_force 60 = .ok (.aload_n 0, 1) := by decide +kernel
theorem dX8_force_61 : decode cX8_force 61 = .ok (.iload_n 1, 1) := by decide +kernel
theorem dX8_force_62 : decode cX8_force 62 = .ok (.iload_n 2, 1) := by decide +kernel
theorem dX8_force_63 : decode cX8_force 63 = .ok (.iload_n 3, 1) := by decide +kernel
theorem dX8_force_64 : decode cX8_force 64 = .ok (.invokevirtual 134, 3) := by decide +kernel
theorem dX8_force_67 : decode cX8_force 67 = .ok (.ireturn, 1) := by decide +kernel
theorem dX8_force_68 : decode cX8_force 68 = .ok (.aload_n 0, 1) := by decide +kernel
theorem dX8_force_69 : decode cX8_force 69 = .ok (.iload_n 1, 1) := by decide +kernel
theorem dX8_force_70 : decode cX8_force 70 = .ok (.iload_n 2, 1) := by decide +kernel
theorem dX8_force_71 : decode cX8_force 71 = .ok (.iload_n 3, 1) := by decide +kernel
theorem dX8_force_72 : decode cX8_force 72 = .ok (.invokevirtual 137, 3) := by decide +kernel
theorem dX8_force_75 : decode cX8_force 75 = .ok (.ireturn, 1) := by decide +kernel
theorem dX8_force_76 : decode cX8_force 76 = .ok (.ldc 119, 2) := by decide +kernel
theorem dX8_force_78 : decode cX8_force 78 = .ok (.ireturn, 1) := by decide +kernel
def f_X8_force (z : Nat → Nat) (M : Mem) (p1 : Int32) (p2 : Int32) (p3 : Int32) (p4 : Int32) : Option Int32 := bd1 (f_X8_isKite z M p1) (fun r1 => if r1 = true then bd1 (f_X8_isWind z M p2) (fun r2 => if r2 = true then bd1 (f_X8_isAngle z M p3) (fun r3 => if r3 = true then if p4 = 0 then bd1 (f_X8_up z M p1 p2 p3) (fun r4 => some r4) else if p4 = 1 then bd1 (f_X8_back z M p1 p2 p3) (fun r5 => some r5) else if p4 = 2 then bd1 (f_X8_turns z M p1 p2 p3) (fun r6 => some r6) else (some (-2000000000)) else some (-2000000000)) else some (-2000000000)) else some (-2000000000))
theorem c_X8_force {l : Launch} {G : GG} {a : AA} {M : Mem} {p1 : Int32} {p2 : Int32} {p3 : Int32} {p4 : Int32} {r : Int32} (hf : f_X8_force a.1 M p1 p2 p3 p4 = some r) : CtI l G a yX8_force cX8_force 5 .int (rmD 2) [.ref (a.2 0), .int p1, .int p2, .int p3, .int p4] M r M := by
  refine ct_I (by decide) rfl rfl (own := RX8) (Nat.le_of_ble_eq_true rfl) (fun K hl hg S rt => ?_)
  subst hl; subst hg
  unfold f_X8_force at hf
  show Go K 5 a M 0 [(0, .ref (a.2 0)), (1, .int p1), (2, .int p2), (3, .int p3), (4, .int p4)] []
  refine g_aload_n 0 S dX8_force_0 rfl ?_
  refine g_iload_n 1 S dX8_force_1 rfl ?_
  obtain ⟨r1, hr1, hf⟩ := bd1_some hf
  refine g_cVI (st := []) S ob_0 rfl ok_X8_isKite lk_X8_115 (c_X8_isKite hr1) rfl rfl ⟨by decide, by decide⟩ (rmD_z _) (Nat.le_of_ble_eq_true rfl) dX8_force_2 ?_
  refine g_if_eqB (tgt := 22) S dX8_force_5 (by decide) hf (fun c hf => ?_) (fun c hf => ?_)
  · refine g_iload_n 2 S dX8_force_8 rfl ?_
    obtain ⟨r2, hr2, hf⟩ := bd1_some hf
    refine g_cSI (st := []) S ok_X8_isWind lk_X8_127 (c_X8_isWind hr2) rfl rfl ⟨by decide, by decide⟩ (rmD_z _) (Nat.le_of_ble_eq_true rfl) dX8_force_9 ?_
    refine g_if_eqB (tgt := 22) S dX8_force_12 (by decide) hf (fun c hf => ?_) (fun c hf => ?_)
    · refine g_iload_n 3 S dX8_force_15 rfl ?_
      obtain ⟨r3, hr3, hf⟩ := bd1_some hf
      refine g_cSI (st := []) S ok_X8_isAngle lk_X8_120 (c_X8_isAngle hr3) rfl rfl ⟨by decide, by decide⟩ (rmD_z _) (Nat.le_of_ble_eq_true rfl) dX8_force_16 ?_
      refine g_if_neB (tgt := 25) S dX8_force_19 (by decide) hf (fun c hf => ?_) (fun c hf => ?_)
      · refine g_iload 4 S dX8_force_25 rfl ?_
        refine sp_if hf (fun c0 hf => ?_) (fun c0 hf => ?_)
        · refine g_tabIn (tgt := 52) 0 S dX8_force_27 c0 (by decide) (by decide) rfl (by decide) ?_
          refine g_aload_n 0 S dX8_force_52 rfl ?_
          refine g_iload_n 1 S dX8_force_53 rfl ?_
          refine g_iload_n 2 S dX8_force_54 rfl ?_
          refine g_iload_n 3 S dX8_force_55 rfl ?_
          obtain ⟨r4, hr4, hf⟩ := bd1_some hf
          refine g_cVI (st := []) S ob_0 rfl ok_X8_up lk_X8_130 (c_X8_up hr4) rfl rfl ⟨by decide, by decide⟩ (rmD_z _) (Nat.le_of_ble_eq_true rfl) dX8_force_56 ?_
          exact g_iretP rt hf dX8_force_59
        refine sp_if hf (fun c1 hf => ?_) (fun c1 hf => ?_)
        · refine g_tabIn (tgt := 60) 1 S dX8_force_27 c1 (by decide) (by decide) rfl (by decide) ?_
          refine g_aload_n 0 S dX8_force_60 rfl ?_
          refine g_iload_n 1 S dX8_force_61 rfl ?_
          refine g_iload_n 2 S dX8_force_62 rfl ?_
          refine g_iload_n 3 S dX8_force_63 rfl ?_
          obtain ⟨r5, hr5, hf⟩ := bd1_some hf
          refine g_cVI (st := []) S ob_0 rfl ok_X8_back lk_X8_134 (c_X8_back hr5) rfl rfl ⟨by decide, by decide⟩ (rmD_z _) (Nat.le_of_ble_eq_true rfl) dX8_force_64 ?_
          exact g_iretP rt hf dX8_force_67
        refine sp_if hf (fun c2 hf => ?_) (fun c2 hf => ?_)
        · refine g_tabIn (tgt := 68) 2 S dX8_force_27 c2 (by decide) (by decide) rfl (by decide) ?_
          refine g_aload_n 0 S dX8_force_68 rfl ?_
          refine g_iload_n 1 S dX8_force_69 rfl ?_
          refine g_iload_n 2 S dX8_force_70 rfl ?_
          refine g_iload_n 3 S dX8_force_71 rfl ?_
          obtain ⟨r6, hr6, hf⟩ := bd1_some hf
          refine g_cVI (st := []) S ob_0 rfl ok_X8_turns lk_X8_137 (c_X8_turns hr6) rfl rfl ⟨by decide, by decide⟩ (rmD_z _) (Nat.le_of_ble_eq_true rfl) dX8_force_72 ?_
          exact g_iretP rt hf dX8_force_75
        refine g_tabOut (tgt := 76) S dX8_force_27 (by have := sw_ne c0; simp only [show ((0 : Int32).toInt) = 0 from by decide] at this; have := sw_ne c1; simp only [show ((1 : Int32).toInt) = 1 from by decide] at this; have := sw_ne c2; simp only [show ((2 : Int32).toInt) = 2 from by decide] at this; omega) (by decide) ?_
        refine g_ldc S lc_X8_119 dX8_force_76 ?_
        exact g_iretP rt hf dX8_force_78
      · refine g_ldc S lc_X8_119 dX8_force_22 ?_
        exact g_iretP rt hf dX8_force_24
    · refine g_ldc S lc_X8_119 dX8_force_22 ?_
      exact g_iretP rt hf dX8_force_24
  · refine g_ldc S lc_X8_119 dX8_force_22 ?_
    exact g_iretP rt hf dX8_force_24
-- BridleBookModel.standsAt(II)I
theorem dX8_standsAt_0 : decode cX8_standsAt 0 = .ok (.aload_n 0, 1) := by decide +kernel
theorem dX8_standsAt_1 : decode cX8_standsAt 1 = .ok (.getfield 13, 3) := by decide +kernel
theorem dX8_standsAt_4 : decode cX8_standsAt 4 = .ok (.iload_n 1, 1) := by decide +kernel
theorem dX8_standsAt_5 : decode cX8_standsAt 5 = .ok (.iaload, 1) := by decide +kernel
theorem dX8_standsAt_6 : decode cX8_standsAt 6 = .ok (.ifCond .ne 6, 3) := by decide +kernel
theorem dX8_standsAt_9 : decode cX8_standsAt 9 = .ok (.bipush (-2), 2) := by decide +kernel
theorem dX8_standsAt_11 : decode cX8_standsAt 11 = .ok (.ireturn, 1) := by decide +kernel
theorem dX8_standsAt_12 : decode cX8_standsAt 12 = .ok (.iconst 0, 1) := by decide +kernel
theorem dX8_standsAt_13 : decode cX8_standsAt 13 = .ok (.istore_n 3, 1) := by decide +kernel
theorem dX8_standsAt_14 : decode cX8_standsAt 14 = .ok (.iload_n 3, 1) := by decide +kernel
theorem dX8_standsAt_15 : decode cX8_standsAt 15 = .ok (.bipush 18, 2) := by decide +kernel
theorem dX8_standsAt_17 : decode cX8_standsAt 17 = .ok (.if_icmp .ge 67, 3) := by decide +kernel
theorem dX8_standsAt_20 : decode cX8_standsAt 20 = .ok (.aload_n 0, 1) := by decide +kernel
theorem dX8_standsAt_21 : decode cX8_standsAt 21 = .ok (.iload_n 1, 1) := by decide +kernel
theorem dX8_standsAt_22 : decode cX8_standsAt 22 = .ok (.iload_n 2, 1) := by decide +kernel
theorem dX8_standsAt_23 : decode cX8_standsAt 23 = .ok (.iload_n 3, 1) := by decide +kernel
theorem dX8_standsAt_24 : decode cX8_standsAt 24 = .ok (.invokevirtual 137, 3) := by decide +kernel
theorem dX8_standsAt_27 : decode cX8_standsAt 27 = .ok (.istore 4, 2) := by decide +kernel
theorem dX8_standsAt_29 : decode cX8_standsAt 29 = .ok (.iload 4, 2) := by decide +kernel
theorem dX8_standsAt_31 : decode cX8_standsAt 31 = .ok (.ifCond .ne 5, 3) := by decide +kernel
theorem dX8_standsAt_34 : decode cX8_standsAt 34 = .ok (.iload_n 3, 1) := by decide +kernel
theorem dX8_standsAt_35 : decode cX8_standsAt 35 = .ok (.ireturn, 1) := by decide +kernel
theorem dX8_standsAt_36 : decode cX8_standsAt 36 = .ok (.iload_n 3, 1) := by decide +kernel
theorem dX8_standsAt_37 : decode cX8_standsAt 37 = .ok (.bipush 17, 2) := by decide +kernel
theorem dX8_standsAt_39 : decode cX8_standsAt 39 = .ok (.if_icmp .ne 6, 3) := by decide +kernel
theorem dX8_standsAt_42 : decode cX8_standsAt 42 = .ok (.goto 36, 3) := by decide +kernel
theorem dX8_standsAt_45 : decode cX8_standsAt 45 = .ok (.aload_n 0, 1) := by decide +kernel
theorem dX8_standsAt_46 : decode cX8_standsAt 46 = .ok (.iload_n 1, 1) := by decide +kernel
theorem dX8_standsAt_47 : decode cX8_standsAt 47 = .ok (.iload_n 2, 1) := by decide +kernel
theorem dX8_standsAt_48 : decode cX8_standsAt 48 = .ok (.iload_n 3, 1) := by decide +kernel
theorem dX8_standsAt_49 : decode cX8_standsAt 49 = .ok (.iconst 1, 1) := by decide +kernel
theorem dX8_standsAt_50 : decode cX8_standsAt 50 = .ok (.iadd, 1) := by decide +kernel
theorem dX8_standsAt_51 : decode cX8_standsAt 51 = .ok (.invokevirtual 137, 3) := by decide +kernel
theorem dX8_standsAt_54 : decode cX8_standsAt 54 = .ok (.istore 5, 2) := by decide +kernel
theorem dX8_standsAt_56 : decode cX8_standsAt 56 = .ok (.iload 4, 2) := by decide +kernel
theorem dX8_standsAt_58 : decode cX8_standsAt 58 = .ok (.ifCond .le 8, 3) := by decide +kernel
theorem dX8_standsAt_61 : decode cX8_standsAt 61 = .ok (.iload 5, 2) := by decide +kernel
theorem dX8_standsAt_63 : decode cX8_standsAt 63 = .ok (.ifCond .lt 13, 3) := by decide +kernel
theorem dX8_standsAt_66 : decode cX8_standsAt 66 = .ok (.iload 4, 2) := by decide +kernel
theorem dX8_standsAt_68 : decode cX8_standsAt 68 = .ok (.ifCond .ge 10, 3) := by decide +kernel
theorem dX8_standsAt_71 : decode cX8_standsAt 71 = .ok (.iload 5, 2) := by decide +kernel
theorem dX8_standsAt_73 : decode cX8_standsAt 73 = .ok (.ifCond .le 5, 3) := by decide +kernel
theorem dX8_standsAt_76 : decode cX8_standsAt 76 = .ok (.iload_n 3, 1) := by decide +kernel
theorem dX8_standsAt_77 : decode cX8_standsAt 77 = .ok (.ireturn, 1) := by decide +kernel
theorem dX8_standsAt_78 : decode cX8_standsAt 78 = .ok (.iinc 3 1, 3) := by decide +kernel
theorem dX8_standsAt_81 : decode cX8_standsAt 81 = .ok (.goto (-67), 3) := by decide +kernel
theorem dX8_standsAt_84 : decode cX8_standsAt 84 = .ok (.bipush (-2), 2) := by decide +kernel
theorem dX8_standsAt_86 : decode cX8_standsAt 86 = .ok (.ireturn, 1) := by decide +kernel
def f_X8_standsAt_14 (z : Nat → Nat) (M : Mem) : Nat → Int32 → Int32 → Int32 → Option Int32
  | 0, _, _, _ => none
  | fu + 1, x1, x2, x3 => if 18 ≤ x3 then some (-2) else bd1 (f_X8_turns z M x1 x2 x3) (fun r1 => if r1 = 0 then some x3 else if x3 = 17 then f_X8_standsAt_14 z M fu x1 x2 (x3 + 1) else bd1 (f_X8_turns z M x1 x2 (x3 + 1)) (fun r2 => if r1 ≤ 0 then if 0 ≤ r1 then f_X8_standsAt_14 z M fu x1 x2 (x3 + 1) else if r2 ≤ 0 then f_X8_standsAt_14 z M fu x1 x2 (x3 + 1) else some x3 else if r2 < 0 then some x3 else if 0 ≤ r1 then f_X8_standsAt_14 z M fu x1 x2 (x3 + 1) else if r2 ≤ 0 then f_X8_standsAt_14 z M fu x1 x2 (x3 + 1) else some x3))
theorem t_X8_standsAt_14 {K : KK} {a : AA} (S : Sx K RX8 cX8_standsAt 6 (rmD 1)) {r : Int32} {M : Mem} (rt : RtI K a cX8_standsAt r M) : ∀ (fu : Nat) (x1 : Int32) (x2 : Int32) (x3 : Int32), f_X8_standsAt_14 a.1 M fu x1 x2 x3 = some r → Go K 6 a M 14 [(0, .ref (a.2 0)), (1, .int x1), (2, .int x2), (3, .int x3)] [] := by
  intro fu
  induction fu with
  | zero => intro x1 x2 x3 hf; exact absurd hf (by simp [f_X8_standsAt_14])
  | succ fu ih =>
    intro x1 x2 x3 hf
    rw [f_X8_standsAt_14] at hf
    refine g_iload_n 3 S dX8_standsAt_14 rfl ?_
    refine g_bipush (v := 18) S dX8_standsAt_15 rfl ?_
    refine g_icmp_ge (tgt := 84) S dX8_standsAt_17 (by decide) hf (fun c hf => ?_) (fun c hf => ?_)
    · refine g_bipush (v := (-2)) S dX8_standsAt_84 rfl ?_
      exact g_iretP rt hf dX8_standsAt_86
    · refine g_aload_n 0 S dX8_standsAt_20 rfl ?_
      refine g_iload_n 1 S dX8_standsAt_21 rfl ?_
      refine g_iload_n 2 S dX8_standsAt_22 rfl ?_
      refine g_iload_n 3 S dX8_standsAt_23 rfl ?_
      obtain ⟨r1, hr1, hf⟩ := bd1_some hf
      refine g_cVI (st := []) S ob_0 rfl ok_X8_turns lk_X8_137 (c_X8_turns hr1) rfl rfl ⟨by decide, by decide⟩ (rmD_z _) (Nat.le_of_ble_eq_true rfl) dX8_standsAt_24 ?_
      refine g_istore (lv' := [(4, .int r1), (0, .ref (a.2 0)), (1, .int x1), (2, .int x2), (3, .int x3)]) S dX8_standsAt_27 (by decide) rfl ?_
      refine g_iload 0 S dX8_standsAt_29 rfl ?_
      refine g_if_ne (tgt := 36) S dX8_standsAt_31 (by decide) hf (fun c hf => ?_) (fun c hf => ?_)
      · refine g_iload_n 4 S dX8_standsAt_34 rfl ?_
        exact g_iretP rt hf dX8_standsAt_35
      · refine g_iload_n 4 S dX8_standsAt_36 rfl ?_
        refine g_bipush (v := 17) S dX8_standsAt_37 rfl ?_
        refine g_icmp_ne (tgt := 45) S dX8_standsAt_39 (by decide) hf (fun c hf => ?_) (fun c hf => ?_)
        · refine g_goto (tgt := 78) S dX8_standsAt_42 (by decide) ?_
          refine g_iinc (v := (x3 + 1)) (lv' := [(3, .int (x3 + 1)), (4, .int r1), (0, .ref (a.2 0)), (1, .int x1), (2, .int x2)]) 4 S dX8_standsAt_78 rfl rfl (by decide) rfl ?_
          refine g_goto (tgt := 14) S dX8_standsAt_81 (by decide) ?_
          refine Go.sub [2, 3, 4, 0] rfl ?_
          exact ih _ _ _ hf
        · refine g_aload_n 1 S dX8_standsAt_45 rfl ?_
          refine g_iload_n 2 S dX8_standsAt_46 rfl ?_
          refine g_iload_n 3 S dX8_standsAt_47 rfl ?_
          refine g_iload_n 4 S dX8_standsAt_48 rfl ?_
          refine g_iconst (v := 1) S dX8_standsAt_49 rfl ?_
          refine g_iadd S dX8_standsAt_50 ?_
          obtain ⟨r2, hr2, hf⟩ := bd1_some hf
          refine g_cVI (st := []) S ob_0 rfl ok_X8_turns lk_X8_137 (c_X8_turns hr2) rfl rfl ⟨by decide, by decide⟩ (rmD_z _) (Nat.le_of_ble_eq_true rfl) dX8_standsAt_51 ?_
          refine g_istore (lv' := [(5, .int r2), (4, .int r1), (0, .ref (a.2 0)), (1, .int x1), (2, .int x2), (3, .int x3)]) S dX8_standsAt_54 (by decide) rfl ?_
          refine g_iload 1 S dX8_standsAt_56 rfl ?_
          refine g_if_le (tgt := 66) S dX8_standsAt_58 (by decide) hf (fun c hf => ?_) (fun c hf => ?_)
          · refine g_iload 1 S dX8_standsAt_66 rfl ?_
            refine g_if_ge (tgt := 78) S dX8_standsAt_68 (by decide) hf (fun c hf => ?_) (fun c hf => ?_)
            · refine g_iinc (v := (x3 + 1)) (lv' := [(3, .int (x3 + 1)), (5, .int r2), (4, .int r1), (0, .ref (a.2 0)), (1, .int x1), (2, .int x2)]) 5 S dX8_standsAt_78 rfl rfl (by decide) rfl ?_
              refine g_goto (tgt := 14) S dX8_standsAt_81 (by decide) ?_
              refine Go.sub [3, 4, 5, 0] rfl ?_
              exact ih _ _ _ hf
            · refine g_iload 0 S dX8_standsAt_71 rfl ?_
              refine g_if_le (tgt := 78) S dX8_standsAt_73 (by decide) hf (fun c hf => ?_) (fun c hf => ?_)
              · refine g_iinc (v := (x3 + 1)) (lv' := [(3, .int (x3 + 1)), (5, .int r2), (4, .int r1), (0, .ref (a.2 0)), (1, .int x1), (2, .int x2)]) 5 S dX8_standsAt_78 rfl rfl (by decide) rfl ?_
                refine g_goto (tgt := 14) S dX8_standsAt_81 (by decide) ?_
                refine Go.sub [3, 4, 5, 0] rfl ?_
                exact ih _ _ _ hf
              · refine g_iload_n 5 S dX8_standsAt_76 rfl ?_
                exact g_iretP rt hf dX8_standsAt_77
          · refine g_iload 0 S dX8_standsAt_61 rfl ?_
            refine g_if_lt (tgt := 76) S dX8_standsAt_63 (by decide) hf (fun c hf => ?_) (fun c hf => ?_)
            · refine g_iload_n 5 S dX8_standsAt_76 rfl ?_
              exact g_iretP rt hf dX8_standsAt_77
            · refine g_iload 1 S dX8_standsAt_66 rfl ?_
              refine g_if_ge (tgt := 78) S dX8_standsAt_68 (by decide) hf (fun c hf => ?_) (fun c hf => ?_)
              · refine g_iinc (v := (x3 + 1)) (lv' := [(3, .int (x3 + 1)), (5, .int r2), (4, .int r1), (0, .ref (a.2 0)), (1, .int x1), (2, .int x2)]) 5 S dX8_standsAt_78 rfl rfl (by decide) rfl ?_
                refine g_goto (tgt := 14) S dX8_standsAt_81 (by decide) ?_
                refine Go.sub [3, 4, 5, 0] rfl ?_
                exact ih _ _ _ hf
              · refine g_iload 0 S dX8_standsAt_71 rfl ?_
                refine g_if_le (tgt := 78) S dX8_standsAt_73 (by decide) hf (fun c hf => ?_) (fun c hf => ?_)
                · refine g_iinc (v := (x3 + 1)) (lv' := [(3, .int (x3 + 1)), (5, .int r2), (4, .int r1), (0, .ref (a.2 0)), (1, .int x1), (2, .int x2)]) 5 S dX8_standsAt_78 rfl rfl (by decide) rfl ?_
                  refine g_goto (tgt := 14) S dX8_standsAt_81 (by decide) ?_
                  refine Go.sub [3, 4, 5, 0] rfl ?_
                  exact ih _ _ _ hf
                · refine g_iload_n 5 S dX8_standsAt_76 rfl ?_
                  exact g_iretP rt hf dX8_standsAt_77
def f_X8_standsAt (z : Nat → Nat) (M : Mem) (p1 : Int32) (p2 : Int32) : Option Int32 := ck (inb p1 20) (if (M 2 (Int32.toNatClampNeg p1)) = 0 then some (-2) else f_X8_standsAt_14 z M 1000 p1 p2 0)
theorem c_X8_standsAt {l : Launch} {G : GG} {a : AA} {M : Mem} {p1 : Int32} {p2 : Int32} {r : Int32} (hf : f_X8_standsAt a.1 M p1 p2 = some r) : CtI l G a yX8_standsAt cX8_standsAt 6 .int (rmD 1) [.ref (a.2 0), .int p1, .int p2] M r M := by
  refine ct_I (by decide) rfl rfl (own := RX8) (Nat.le_of_ble_eq_true rfl) (fun K hl hg S rt => ?_)
  subst hl; subst hg
  unfold f_X8_standsAt at hf
  show Go K 6 a M 0 [(0, .ref (a.2 0)), (1, .int p1), (2, .int p2)] []
  refine g_aload_n 0 S dX8_standsAt_0 rfl ?_
  refine g_get (v := .ref (a.2 2)) S ob_0 rfl gi_X8 (by decide) lf_X8_13 rfl dX8_standsAt_1 ?_
  refine g_iload_n 1 S dX8_standsAt_4 rfl ?_
  refine g_iald S ia_2 dX8_standsAt_5 hf (fun hf => ?_)
  refine g_if_ne (tgt := 12) S dX8_standsAt_6 (by decide) hf (fun c hf => ?_) (fun c hf => ?_)
  · refine g_bipush (v := (-2)) S dX8_standsAt_9 rfl ?_
    exact g_iretP rt hf dX8_standsAt_11
  · refine g_iconst (v := 0) S dX8_standsAt_12 rfl ?_
    refine g_istore_n (lv' := [(3, .int 0), (0, .ref (a.2 0)), (1, .int p1), (2, .int p2)]) S dX8_standsAt_13 (by decide) rfl ?_
    refine Go.sub [1, 2, 3, 0] rfl ?_
    exact t_X8_standsAt_14  S rt 1000 _ _ _ hf
-- BridleBookModel.isSteady(III)Z
theorem dX8_isSteady_0 : decode cX8_isSteady 0 = .ok (.iload_n 3, 1) := by decide +kernel
theorem dX8_isSteady_1 : decode cX8_isSteady 1 = .ok (.ifCond .ne 7, 3) := by decide +kernel
theorem dX8_isSteady_4 : decode cX8_isSteady 4 = .ok (.iconst 0, 1) := by decide +kernel
theorem dX8_isSteady_5 : decode cX8_isSteady 5 = .ok (.goto 6, 3) := by decide +kernel
theorem dX8_isSteady_8 : decode cX8_isSteady 8 = .ok (.iload_n 3, 1) := by decide +kernel
theorem dX8_isSteady_9 : decode cX8_isSteady 9 = .ok (.iconst 1, 1) := by decide +kernel
theorem dX8_isSteady_10 : decode cX8_isSteady 10 = .ok (.isub, 1) := by decide +kernel
theorem dX8_isSteady_11 : decode cX8_isSteady 11 = .ok (.istore 4, 2) := by decide +kernel
theorem dX8_isSteady_13 : decode cX8_isSteady 13 = .ok (.iload_n 3, 1) := by decide +kernel
theorem dX8_isSteady_14 : decode cX8_isSteady 14 = .ok (.bipush 17, 2) := by decide +kernel
theorem dX8_isSteady_16 : decode cX8_isSteady 16 = .ok (.if_icmp .ne 7, 3) := by decide +kernel
theorem dX8_isSteady_19 : decode cX8_isSteady 19 = .ok (.iload_n 3, 1) := by decide +kernel
theorem dX8_isSteady_20 : decode cX8_isSteady 20 = .ok (.goto 6, 3) := by decide +kernel
theorem dX8_isSteady_23 : decode cX8_isSteady 23 = .ok (.iload_n 3, 1) := by decide +kernel
theorem dX8_isSteady_24 : decode cX8_isSteady 24 = .ok (.iconst 1, 1) := by decide +kernel
theorem dX8_isSteady_25 : decode cX8_isSteady 25 = .ok (.iadd, 1) := by decide +kernel
theorem dX8_isSteady_26 : decode cX8_isSteady 26 = .ok (.istore 5, 2) := by decide +kernel
theorem dX8_isSteady_28 : decode cX8_isSteady 28 = .ok (.aload_n 0, 1) := by decide +kernel
theorem dX8_isSteady_29 : decode cX8_isSteady 29 = .ok (.iload_n 1, 1) := by decide +kernel
theorem dX8_isSteady_30 : decode cX8_isSteady 30 = .ok (.iload_n 2, 1) := by decide +kernel
theorem dX8_isSteady_31 : decode cX8_isSteady 31 = .ok (.iload 4, 2) := by decide +kernel
theorem dX8_isSteady_33 : decode cX8_isSteady 33 = .ok (.invokevirtual 137, 3) := by decide +kernel
theorem dX8_isSteady_36 : decode cX8_isSteady 36 = .ok (.ifCond .lt 18, 3) := by decide +kernel
theorem dX8_isSteady_39 : decode cX8_isSteady 39 = .ok (.aload_n 0, 1) := by decide +kernel
theorem dX8_isSteady_40 : decode cX8_isSteady 40 = .ok (.iload_n 1, 1) := by decide +kernel
theorem dX8_isSteady_41 : decode cX8_isSteady 41 = .ok (.iload_n 2, 1) := by decide +kernel
theorem dX8_isSteady_42 : decode cX8_isSteady 42 = .ok (.iload 5, 2) := by decide +kernel
theorem dX8_isSteady_44 : decode cX8_isSteady 44 = .ok (.invokevirtual 137, 3) := by decide +kernel
theorem dX8_isSteady_47 : decode cX8_isSteady 47 = .ok (.ifCond .gt 7, 3) := by decide +kernel
theorem dX8_isSteady_50 : decode cX8_isSteady 50 = .ok (.iconst 1, 1) := by decide +kernel
theorem dX8_isSteady_51 : decode cX8_isSteady 51 = .ok (.goto 4, 3) := by decide +kernel
theorem dX8_isSteady_54 : decode cX8_isSteady 54 = .ok (.iconst 0, 1) := by decide +kernel
theorem dX8_isSteady_55 : decode cX8_isSteady 55 = .ok (.ireturn, 1) := by decide +kernel
def f_X8_isSteady_26 (z : Nat → Nat) (M : Mem) (s0 : Int32) (x1 : Int32) (x2 : Int32) (x4 : Int32) : Option Bool := bd1 (f_X8_turns z M x1 x2 x4) (fun r1 => if r1 < 0 then some false else bd1 (f_X8_turns z M x1 x2 s0) (fun r2 => if 0 < r2 then some false else some true))
theorem t_X8_isSteady_26 {K : KK} {a : AA} (S : Sx K RX8 cX8_isSteady 6 (rmD 1)) {r : Bool} {M : Mem} (rt : RtI K a cX8_isSteady (b2i r) M) (s0 : Int32) (x1 : Int32) (x2 : Int32) (x4 : Int32) (hf : f_X8_isSteady_26 a.1 M s0 x1 x2 x4 = some r) : Go K 6 a M 26 [(0, .ref (a.2 0)), (1, .int x1), (2, .int x2), (4, .int x4)] [.int s0] := by
  unfold f_X8_isSteady_26 at hf
  refine g_istore (lv' := [(5, .int s0), (0, .ref (a.2 0)), (1, .int x1), (2, .int x2), (4, .int x4)]) S dX8_isSteady_26 (by decide) rfl ?_
  refine g_aload_n 1 S dX8_isSteady_28 rfl ?_
  refine g_iload_n 2 S dX8_isSteady_29 rfl ?_
  refine g_iload_n 3 S dX8_isSteady_30 rfl ?_
  refine g_iload 4 S dX8_isSteady_31 rfl ?_
  obtain ⟨r1, hr1, hf⟩ := bd1_some hf
  refine g_cVI (st := []) S ob_0 rfl ok_X8_turns lk_X8_137 (c_X8_turns hr1) rfl rfl ⟨by decide, by decide⟩ (rmD_z _) (Nat.le_of_ble_eq_true rfl) dX8_isSteady_33 ?_
  refine g_if_lt (tgt := 54) S dX8_isSteady_36 (by decide) hf (fun c hf => ?_) (fun c hf => ?_)
  · refine g_iconst (v := 0) S dX8_isSteady_54 rfl ?_
    exact g_zretP rt hf dX8_isSteady_55 rfl
  · refine g_aload_n 1 S dX8_isSteady_39 rfl ?_
    refine g_iload_n 2 S dX8_isSteady_40 rfl ?_
    refine g_iload_n 3 S dX8_isSteady_41 rfl ?_
    refine g_iload 0 S dX8_isSteady_42 rfl ?_
    obtain ⟨r2, hr2, hf⟩ := bd1_some hf
    refine g_cVI (st := []) S ob_0 rfl ok_X8_turns lk_X8_137 (c_X8_turns hr2) rfl rfl ⟨by decide, by decide⟩ (rmD_z _) (Nat.le_of_ble_eq_true rfl) dX8_isSteady_44 ?_
    refine g_if_gt (tgt := 54) S dX8_isSteady_47 (by decide) hf (fun c hf => ?_) (fun c hf => ?_)
    · refine g_iconst (v := 0) S dX8_isSteady_54 rfl ?_
      exact g_zretP rt hf dX8_isSteady_55 rfl
    · refine g_iconst (v := 1) S dX8_isSteady_50 rfl ?_
      refine g_goto (tgt := 55) S dX8_isSteady_51 (by decide) ?_
      exact g_zretP rt hf dX8_isSteady_55 rfl
def f_X8_isSteady (z : Nat → Nat) (M : Mem) (p1 : Int32) (p2 : Int32) (p3 : Int32) : Option Bool := if p3 = 0 then if p3 = 17 then f_X8_isSteady_26 z M p3 p1 p2 0 else f_X8_isSteady_26 z M (p3 + 1) p1 p2 0 else if p3 = 17 then f_X8_isSteady_26 z M p3 p1 p2 (p3 - 1) else f_X8_isSteady_26 z M (p3 + 1) p1 p2 (p3 - 1)
theorem c_X8_isSteady {l : Launch} {G : GG} {a : AA} {M : Mem} {p1 : Int32} {p2 : Int32} {p3 : Int32} {r : Bool} (hf : f_X8_isSteady a.1 M p1 p2 p3 = some r) : CtI l G a yX8_isSteady cX8_isSteady 6 .boolean (rmD 1) [.ref (a.2 0), .int p1, .int p2, .int p3] M (b2i r) M := by
  refine ct_I (by decide) rfl (b2i_n _) (own := RX8) (Nat.le_of_ble_eq_true rfl) (fun K hl hg S rt => ?_)
  subst hl; subst hg
  unfold f_X8_isSteady at hf
  show Go K 6 a M 0 [(0, .ref (a.2 0)), (1, .int p1), (2, .int p2), (3, .int p3)] []
  refine g_iload_n 3 S dX8_isSteady_0 rfl ?_
  refine g_if_ne (tgt := 8) S dX8_isSteady_1 (by decide) hf (fun c hf => ?_) (fun c hf => ?_)
  · refine g_iconst (v := 0) S dX8_isSteady_4 rfl ?_
    refine g_goto (tgt := 11) S dX8_isSteady_5 (by decide) ?_
    refine g_istore (lv' := [(4, .int 0), (0, .ref (a.2 0)), (1, .int p1), (2, .int p2), (3, .int p3)]) S dX8_isSteady_11 (by decide) rfl ?_
    refine g_iload_n 4 S dX8_isSteady_13 rfl ?_
    refine g_bipush (v := 17) S dX8_isSteady_14 rfl ?_
    refine g_icmp_ne (tgt := 23) S dX8_isSteady_16 (by decide) hf (fun c hf => ?_) (fun c hf => ?_)
    · refine g_iload_n 4 S dX8_isSteady_19 rfl ?_
      refine g_goto (tgt := 26) S dX8_isSteady_20 (by decide) ?_
      refine Go.sub [1, 2, 3, 0] rfl ?_
      exact t_X8_isSteady_26  S rt _ _ _ _ hf
    · refine g_iload_n 4 S dX8_isSteady_23 rfl ?_
      refine g_iconst (v := 1) S dX8_isSteady_24 rfl ?_
      refine g_iadd S dX8_isSteady_25 ?_
      refine Go.sub [1, 2, 3, 0] rfl ?_
      exact t_X8_isSteady_26  S rt _ _ _ _ hf
  · refine g_iload_n 3 S dX8_isSteady_8 rfl ?_
    refine g_iconst (v := 1) S dX8_isSteady_9 rfl ?_
    refine g_isub S dX8_isSteady_10 ?_
    refine g_istore (lv' := [(4, .int (p3 - 1)), (0, .ref (a.2 0)), (1, .int p1), (2, .int p2), (3, .int p3)]) S dX8_isSteady_11 (by decide) rfl ?_
    refine g_iload_n 4 S dX8_isSteady_13 rfl ?_
    refine g_bipush (v := 17) S dX8_isSteady_14 rfl ?_
    refine g_icmp_ne (tgt := 23) S dX8_isSteady_16 (by decide) hf (fun c hf => ?_) (fun c hf => ?_)
    · refine g_iload_n 4 S dX8_isSteady_19 rfl ?_
      refine g_goto (tgt := 26) S dX8_isSteady_20 (by decide) ?_
      refine Go.sub [1, 2, 3, 0] rfl ?_
      exact t_X8_isSteady_26  S rt _ _ _ _ hf
    · refine g_iload_n 4 S dX8_isSteady_23 rfl ?_
      refine g_iconst (v := 1) S dX8_isSteady_24 rfl ?_
      refine g_iadd S dX8_isSteady_25 ?_
      refine Go.sub [1, 2, 3, 0] rfl ?_
      exact t_X8_isSteady_26  S rt _ _ _ _ hf
