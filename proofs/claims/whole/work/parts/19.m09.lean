-- BridleBookModel.weaken(II)I
theorem dX8_weaken_0 : decode cX8_weaken 0 = .ok (.aload_n 0, 1) := by decide +kernel
theorem dX8_weaken_1 : decode cX8_weaken 1 = .ok (.iload_n 1, 1) := by decide +kernel
theorem dX8_weaken_2 : decode cX8_weaken 2 = .ok (.invokevirtual 157, 3) := by decide +kernel
theorem dX8_weaken_5 : decode cX8_weaken 5 = .ok (.ifCond .eq 21, 3) := by decide +kernel
theorem dX8_weaken_8 : decode cX8_weaken 8 = .ok (.aload_n 0, 1) := by decide +kernel
theorem dX8_weaken_9 : decode cX8_weaken 9 = .ok (.iload_n 1, 1) := by decide +kernel
theorem dX8_weaken_10 : decode cX8_weaken 10 = .ok (.iload_n 2, 1) := by decide +kernel
theorem dX8_weaken_11 : decode cX8_weaken 11 = .ok (.invokevirtual 160, 3) := by decide +kernel
theorem dX8_weaken_14 : decode cX8_weaken 14 = .ok (.ifCond .eq 12, 3) := by decide +kernel
theorem dX8_weaken_17 : decode cX8_weaken 17 = .ok (.aload_n 0, 1) := by decide +kernel
theorem dX8_weaken_18 : decode cX8_weaken 18 = .ok (.iload_n 1, 1) := by decide +kernel
theorem dX8_weaken_19 : decode cX8_weaken 19 = .ok (.iload_n 2, 1) := by decide +kernel
theorem dX8_weaken_20 : decode cX8_weaken 20 = .ok (.invokevirtual 167, 3) := by decide +kernel
theorem dX8_weaken_23 : decode cX8_weaken 23 = .ok (.ifCond .eq 5, 3) := by decide +kernel
theorem dX8_weaken_26 : decode cX8_weaken 26 = .ok (.iconst (-1), 1) := by decide +kernel
theorem dX8_weaken_27 : decode cX8_weaken 27 = .ok (.ireturn, 1) := by decide +kernel
theorem dX8_weaken_28 : decode cX8_weaken 28 = .ok (.aload_n 0, 1) := by decide +kernel
theorem dX8_weaken_29 : decode cX8_weaken 29 = .ok (.getfield 53, 3) := by decide +kernel
theorem dX8_weaken_32 : decode cX8_weaken 32 = .ok (.iload_n 1, 1) := by decide +kernel
theorem dX8_weaken_33 : decode cX8_weaken 33 = .ok (.iaload, 1) := by decide +kernel
theorem dX8_weaken_34 : decode cX8_weaken 34 = .ok (.bipush 10, 2) := by decide +kernel
theorem dX8_weaken_36 : decode cX8_weaken 36 = .ok (.if_icmp .ne 6, 3) := by decide +kernel
theorem dX8_weaken_39 : decode cX8_weaken 39 = .ok (.bipush (-3), 2) := by decide +kernel
theorem dX8_weaken_41 : decode cX8_weaken 41 = .ok (.ireturn, 1) := by decide +kernel
theorem dX8_weaken_42 : decode cX8_weaken 42 = .ok (.aload_n 0, 1) := by decide +kernel
theorem dX8_weaken_43 : decode cX8_weaken 43 = .ok (.getfield 56, 3) := by decide +kernel
theorem dX8_weaken_46 : decode cX8_weaken 46 = .ok (.bipush 10, 2) := by decide +kernel
theorem dX8_weaken_48 : decode cX8_weaken 48 = .ok (.iload_n 1, 1) := by decide +kernel
theorem dX8_weaken_49 : decode cX8_weaken 49 = .ok (.imul, 1) := by decide +kernel
theorem dX8_weaken_50 : decode cX8_weaken 50 = .ok (.aload_n 0, 1) := by decide +kernel
theorem dX8_weaken_51 : decode cX8_weaken 51 = .ok (.getfield 53, 3) := by decide +kernel
theorem dX8_weaken_54 : decode cX8_weaken 54 = .ok (.iload_n 1, 1) := by decide +kernel
theorem dX8_weaken_55 : decode cX8_weaken 55 = .ok (.iaload, 1) := by decide +kernel
theorem dX8_weaken_56 : decode cX8_weaken 56 = .ok (.iadd, 1) := by decide +kernel
theorem dX8_weaken_57 : decode cX8_weaken 57 = .ok (.iload_n 2, 1) := by decide +kernel
theorem dX8_weaken_58 : decode cX8_weaken 58 = .ok (.iastore, 1) := by decide +kernel
theorem dX8_weaken_59 : decode cX8_weaken 59 = .ok (.aload_n 0, 1) := by decide +kernel
theorem dX8_weaken_60 : decode cX8_weaken 60 = .ok (.getfield 53, 3) := by decide +kernel
theorem dX8_weaken_63 : decode cX8_weaken 63 = .ok (.iload_n 1, 1) := by decide +kernel
theorem dX8_weaken_64 : decode cX8_weaken 64 = .ok (.dup2, 1) := by decide +kernel
theorem dX8_weaken_65 : decode cX8_weaken 65 = .ok (.iaload, 1) := by decide +kernel
theorem dX8_weaken_66 : decode cX8_weaken 66 = .ok (.iconst 1, 1) := by decide +kernel
theorem dX8_weaken_67 : decode cX8_weaken 67 = .ok (.iadd, 1) := by decide +kernel
theorem dX8_weaken_68 : decode cX8_weaken 68 = .ok (.iastore, 1) := by decide +kernel
theorem dX8_weaken_69 : decode cX8_weaken 69 = .ok (.aload_n 0, 1) := by decide +kernel
theorem dX8_weaken_70 : decode cX8_weaken 70 = .ok (.getfield 53, 3) := by decide +kernel
theorem dX8_weaken_73 : decode cX8_weaken 73 = .ok (.iload_n 1, 1) := by decide +kernel
theorem dX8_weaken_74 : decode cX8_weaken 74 = .ok (.iaload, 1) := by decide +kernel
theorem dX8_weaken_75 : decode cX8_weaken 75 = .ok (.ireturn, 1) := by decide +kernel
def f_X8_weaken (z : Nat → Nat) (M : Mem) (p1 : Int32) (p2 : Int32) : Option (Int32 × Mem) := bd1 (f_X8_isLine z M p1) (fun r1 => if r1 = true then bd1 (f_X8_isStep z M p1 p2) (fun r2 => if r2 = true then bd1 (f_X8_isWeak z M p1 p2) (fun r3 => if r3 = true then some ((-1), M) else ck (inb p1 10) (if (M 16 (Int32.toNatClampNeg p1)) = 10 then some ((-3), M) else ck (inb p1 10) (ck (inb ((10 * p1) + (M 16 (Int32.toNatClampNeg p1))) 100) (lt (mu M 17 (Int32.toNatClampNeg ((10 * p1) + (M 16 (Int32.toNatClampNeg p1)))) p2) (fun M4 => ck (inb p1 10) (ck (inb p1 10) (lt (mu M4 16 (Int32.toNatClampNeg p1) ((M4 16 (Int32.toNatClampNeg p1)) + 1)) (fun M5 => ck (inb p1 10) (some ((M5 16 (Int32.toNatClampNeg p1)), M5)))))))))) else some ((-1), M)) else some ((-1), M))
theorem c_X8_weaken {l : Launch} {G : GG} {a : AA} {M : Mem} {p1 : Int32} {p2 : Int32} {r : Int32} {M' : Mem} (hf : f_X8_weaken a.1 M p1 p2 = some (r, M')) : CtI l G a yX8_weaken cX8_weaken 3 .int (rmD 2) [.ref (a.2 0), .int p1, .int p2] M r M' := by
  refine ct_I (by decide) rfl rfl (own := RX8) (Nat.le_of_ble_eq_true rfl) (fun K hl hg S rt => ?_)
  subst hl; subst hg
  unfold f_X8_weaken at hf
  show Go K 3 a M 0 [(0, .ref (a.2 0)), (1, .int p1), (2, .int p2)] []
  refine g_aload_n 0 S dX8_weaken_0 rfl ?_
  refine g_iload_n 1 S dX8_weaken_1 rfl ?_
  obtain ⟨r1, hr1, hf⟩ := bd1_some hf
  refine g_cVI (st := []) S ob_0 rfl ok_X8_isLine lk_X8_157 (c_X8_isLine hr1) rfl rfl ⟨by decide, by decide⟩ (rmD_z _) (Nat.le_of_ble_eq_true rfl) dX8_weaken_2 ?_
  refine g_if_eqB (tgt := 26) S dX8_weaken_5 (by decide) hf (fun c hf => ?_) (fun c hf => ?_)
  · refine g_aload_n 0 S dX8_weaken_8 rfl ?_
    refine g_iload_n 1 S dX8_weaken_9 rfl ?_
    refine g_iload_n 2 S dX8_weaken_10 rfl ?_
    obtain ⟨r2, hr2, hf⟩ := bd1_some hf
    refine g_cVI (st := []) S ob_0 rfl ok_X8_isStep lk_X8_160 (c_X8_isStep hr2) rfl rfl ⟨by decide, by decide⟩ (rmD_z _) (Nat.le_of_ble_eq_true rfl) dX8_weaken_11 ?_
    refine g_if_eqB (tgt := 26) S dX8_weaken_14 (by decide) hf (fun c hf => ?_) (fun c hf => ?_)
    · refine g_aload_n 0 S dX8_weaken_17 rfl ?_
      refine g_iload_n 1 S dX8_weaken_18 rfl ?_
      refine g_iload_n 2 S dX8_weaken_19 rfl ?_
      obtain ⟨r3, hr3, hf⟩ := bd1_some hf
      refine g_cVI (st := []) S ob_0 rfl ok_X8_isWeak lk_X8_167 (c_X8_isWeak hr3) rfl rfl ⟨by decide, by decide⟩ (rmD_z _) (Nat.le_of_ble_eq_true rfl) dX8_weaken_20 ?_
      refine g_if_eqB (tgt := 28) S dX8_weaken_23 (by decide) hf (fun c hf => ?_) (fun c hf => ?_)
      · refine g_iconst (v := (-1)) S dX8_weaken_26 rfl ?_
        exact g_iretM rt hf dX8_weaken_27
      · refine g_aload_n 0 S dX8_weaken_28 rfl ?_
        refine g_get (v := .ref (a.2 16)) S ob_0 rfl gi_X8 (by decide) lf_X8_53 rfl dX8_weaken_29 ?_
        refine g_iload_n 1 S dX8_weaken_32 rfl ?_
        refine g_iald S ia_16 dX8_weaken_33 hf (fun hf => ?_)
        refine g_bipush (v := 10) S dX8_weaken_34 rfl ?_
        refine g_icmp_ne (tgt := 42) S dX8_weaken_36 (by decide) hf (fun c hf => ?_) (fun c hf => ?_)
        · refine g_bipush (v := (-3)) S dX8_weaken_39 rfl ?_
          exact g_iretM rt hf dX8_weaken_41
        · refine g_aload_n 0 S dX8_weaken_42 rfl ?_
          refine g_get (v := .ref (a.2 17)) S ob_0 rfl gi_X8 (by decide) lf_X8_56 rfl dX8_weaken_43 ?_
          refine g_bipush (v := 10) S dX8_weaken_46 rfl ?_
          refine g_iload_n 1 S dX8_weaken_48 rfl ?_
          refine g_imul S dX8_weaken_49 ?_
          refine g_aload_n 0 S dX8_weaken_50 rfl ?_
          refine g_get (v := .ref (a.2 16)) S ob_0 rfl gi_X8 (by decide) lf_X8_53 rfl dX8_weaken_51 ?_
          refine g_iload_n 1 S dX8_weaken_54 rfl ?_
          refine g_iald S ia_16 dX8_weaken_55 hf (fun hf => ?_)
          refine g_iadd S dX8_weaken_56 ?_
          refine g_iload_n 2 S dX8_weaken_57 rfl ?_
          refine g_iast S ia_17 dX8_weaken_58 hf (fun hf => ?_)
          obtain ⟨M4, eM4, hf⟩ := lt_some hf
          refine Go.M eM4 ?_
          refine g_aload_n 0 S dX8_weaken_59 rfl ?_
          refine g_get (v := .ref (a.2 16)) S ob_0 rfl gi_X8 (by decide) lf_X8_53 rfl dX8_weaken_60 ?_
          refine g_iload_n 1 S dX8_weaken_63 rfl ?_
          refine g_dup2 S dX8_weaken_64 rfl rfl ?_
          refine g_iald S ia_16 dX8_weaken_65 hf (fun hf => ?_)
          refine g_iconst (v := 1) S dX8_weaken_66 rfl ?_
          refine g_iadd S dX8_weaken_67 ?_
          refine g_iast S ia_16 dX8_weaken_68 hf (fun hf => ?_)
          obtain ⟨M5, eM5, hf⟩ := lt_some hf
          refine Go.M eM5 ?_
          refine g_aload_n 0 S dX8_weaken_69 rfl ?_
          refine g_get (v := .ref (a.2 16)) S ob_0 rfl gi_X8 (by decide) lf_X8_53 rfl dX8_weaken_70 ?_
          refine g_iload_n 1 S dX8_weaken_73 rfl ?_
          refine g_iald S ia_16 dX8_weaken_74 hf (fun hf => ?_)
          exact g_iretM rt hf dX8_weaken_75
    · refine g_iconst (v := (-1)) S dX8_weaken_26 rfl ?_
      exact g_iretM rt hf dX8_weaken_27
  · refine g_iconst (v := (-1)) S dX8_weaken_26 rfl ?_
    exact g_iretM rt hf dX8_weaken_27
-- BridleBookModel.windBand(I)I
theorem dX8_windBand_0 : decode cX8_windBand 0 = .ok (.iload_n 0, 1) := by decide +kernel
theorem dX8_windBand_1 : decode cX8_windBand 1 = .ok (.bipush 10, 2) := by decide +kernel
theorem dX8_windBand_3 : decode cX8_windBand 3 = .ok (.idiv, 1) := by decide +kernel
theorem dX8_windBand_4 : decode cX8_windBand 4 = .ok (.bipush 20, 2) := by decide +kernel
theorem dX8_windBand_6 : decode cX8_windBand 6 = .ok (.if_icmp .ge 10, 3) := by decide +kernel
theorem dX8_windBand_9 : decode cX8_windBand 9 = .ok (.iload_n 0, 1) := by decide +kernel
theorem dX8_windBand_10 : decode cX8_windBand 10 = .ok (.bipush 10, 2) := by decide +kernel
theorem dX8_windBand_12 : decode cX8_windBand 12 = .ok (.idiv, 1) := by decide +kernel
theorem dX8_windBand_13 : decode cX8_windBand 13 = .ok (.goto 5, 3) := by decide +kernel
theorem dX8_windBand_16 : decode cX8_windBand 16 = .ok (.bipush 19, 2) := by decide +kernel
theorem dX8_windBand_18 : decode cX8_windBand 18 = .ok (.ireturn, 1) := by decide +kernel
def f_X8_windBand (z : Nat → Nat) (M : Mem) (p1 : Int32) : Option Int32 := if 20 ≤ (p1 / 10) then some 19 else some (p1 / 10)
theorem c_X8_windBand {l : Launch} {G : GG} {a : AA} {M : Mem} {p1 : Int32} {r : Int32} (hf : f_X8_windBand a.1 M p1 = some r) : CtI l G a yX8_windBand cX8_windBand 1 .int (rmD 0) [.int p1] M r M := by
  refine ct_I (by decide) rfl rfl (own := RX8) (Nat.le_of_ble_eq_true rfl) (fun K hl hg S rt => ?_)
  subst hl; subst hg
  unfold f_X8_windBand at hf
  show Go K 1 a M 0 [(0, .int p1)] []
  refine g_iload_n 0 S dX8_windBand_0 rfl ?_
  refine g_bipush (v := 10) S dX8_windBand_1 rfl ?_
  refine g_idiv S dX8_windBand_3 (by decide) ?_
  refine g_bipush (v := 20) S dX8_windBand_4 rfl ?_
  refine g_icmp_ge (tgt := 16) S dX8_windBand_6 (by decide) hf (fun c hf => ?_) (fun c hf => ?_)
  · refine g_bipush (v := 19) S dX8_windBand_16 rfl ?_
    exact g_iretP rt hf dX8_windBand_18
  · refine g_iload_n 0 S dX8_windBand_9 rfl ?_
    refine g_bipush (v := 10) S dX8_windBand_10 rfl ?_
    refine g_idiv S dX8_windBand_12 (by decide) ?_
    refine g_goto (tgt := 18) S dX8_windBand_13 (by decide) ?_
    exact g_iretP rt hf dX8_windBand_18
-- BridleBookModel.root(J)I
theorem dX8_root_0 : decode cX8_root 0 = .ok (.lconst 0, 1) := by decide +kernel
theorem dX8_root_1 : decode cX8_root 1 = .ok (.lstore_n 2, 1) := by decide +kernel
theorem dX8_root_2 : decode cX8_root 2 = .ok (.ldc2_w 170, 3) := by decide +kernel
theorem dX8_root_5 : decode cX8_root 5 = .ok (.lstore 4, 2) := by decide +kernel
theorem dX8_root_7 : decode cX8_root 7 = .ok (.lload 4, 2) := by decide +kernel
theorem dX8_root_9 : decode cX8_root 9 = .ok (.lload_n 2, 1) := by decide +kernel
theorem dX8_root_10 : decode cX8_root 10 = .ok (.lsub, 1) := by decide +kernel
theorem dX8_root_11 : decode cX8_root 11 = .ok (.lconst 1, 1) := by decide +kernel
theorem dX8_root_12 : decode cX8_root 12 = .ok (.lcmp, 1) := by decide +kernel
theorem dX8_root_13 : decode cX8_root 13 = .ok (.ifCond .le 36, 3) := by decide +kernel
theorem dX8_root_16 : decode cX8_root 16 = .ok (.lload_n 2, 1) := by decide +kernel
theorem dX8_root_17 : decode cX8_root 17 = .ok (.lload 4, 2) := by decide +kernel
theorem dX8_root_19 : decode cX8_root 19 = .ok (.ladd, 1) := by decide +kernel
theorem dX8_root_20 : decode cX8_root 20 = .ok (.ldc2_w 172, 3) := by decide +kernel
theorem dX8_root_23 : decode cX8_root 23 = .ok (.ldiv, 1) := by decide +kernel
theorem dX8_root_24 : decode cX8_root 24 = .ok (.lstore 6, 2) := by decide +kernel
theorem dX8_root_26 : decode cX8_root 26 = .ok (.lload 6, 2) := by decide +kernel
theorem dX8_root_28 : decode cX8_root 28 = .ok (.lload 6, 2) := by decide +kernel
theorem dX8_root_30 : decode cX8_root 30 = .ok (.lmul, 1) := by decide +kernel
theorem dX8_root_31 : decode cX8_root 31 = .ok (.lload_n 0, 1) := by decide +kernel
theorem dX8_root_32 : decode cX8_root 32 = .ok (.lcmp, 1) := by decide +kernel
theorem dX8_root_33 : decode cX8_root 33 = .ok (.ifCond .gt 9, 3) := by decide +kernel
theorem dX8_root_36 : decode cX8_root 36 = .ok (.lload 6, 2) := by decide +kernel
theorem dX8_root_38 : decode cX8_root 38 = .ok (.lstore_n 2, 1) := by decide +kernel
theorem dX8_root_39 : decode cX8_root 39 = .ok (.goto 7, 3) := by decide +kernel
theorem dX8_root_42 : decode cX8_root 42 = .ok (.lload 6, 2) := by decide +kernel
theorem dX8_root_44 : decode cX8_root 44 = .ok (.lstore 4, 2) := by decide +kernel
theorem dX8_root_46 : decode cX8_root 46 = .ok (.goto (-39), 3) := by decide +kernel
theorem dX8_root_49 : decode cX8_root 49 = .ok (.lload_n 2, 1) := by decide +kernel
theorem dX8_root_50 : decode cX8_root 50 = .ok (.l2i, 1) := by decide +kernel
theorem dX8_root_51 : decode cX8_root 51 = .ok (.ireturn, 1) := by decide +kernel
def f_X8_root_7 (z : Nat → Nat) (M : Mem) : Nat → Int64 → Int64 → Int64 → Option Int32
  | 0, _, _, _ => none
  | fu + 1, x0, x2, x4 => if 1 < (x4 - x2) then if x0 < (((x2 + x4) / 2) * ((x2 + x4) / 2)) then f_X8_root_7 z M fu x0 x2 ((x2 + x4) / 2) else f_X8_root_7 z M fu x0 ((x2 + x4) / 2) x4 else some (Int64.toInt32 x2)
theorem t_X8_root_7 {K : KK} {a : AA} (S : Sx K RX8 cX8_root 8 (rmD 0)) {r : Int32} {M : Mem} (rt : RtI K a cX8_root r M) : ∀ (fu : Nat) (x0 : Int64) (x2 : Int64) (x4 : Int64), f_X8_root_7 a.1 M fu x0 x2 x4 = some r → Go K 8 a M 7 [(0, .long x0), (2, .long x2), (4, .long x4)] [] := by
  intro fu
  induction fu with
  | zero => intro x0 x2 x4 hf; exact absurd hf (by simp [f_X8_root_7])
  | succ fu ih =>
    intro x0 x2 x4 hf
    rw [f_X8_root_7] at hf
    refine g_lload 2 S dX8_root_7 rfl ?_
    refine g_lload_n 1 S dX8_root_9 rfl ?_
    refine g_lsub S dX8_root_10 ?_
    refine g_lconst (v := 1) S dX8_root_11 rfl ?_
    refine g_lcmp S dX8_root_12 ?_
    refine g_ifl_le (tgt := 49) S dX8_root_13 (by decide) hf (fun c hf => ?_) (fun c hf => ?_)
    · refine g_lload_n 1 S dX8_root_16 rfl ?_
      refine g_lload 2 S dX8_root_17 rfl ?_
      refine g_ladd S dX8_root_19 ?_
      refine g_ldc2 S lc_X8_172 dX8_root_20 ?_
      refine g_ldiv S dX8_root_23 (by decide) ?_
      refine g_lstore (lv' := [(6, .long ((x2 + x4) / 2)), (0, .long x0), (2, .long x2), (4, .long x4)]) S dX8_root_24 (by decide) rfl ?_
      refine g_lload 0 S dX8_root_26 rfl ?_
      refine g_lload 0 S dX8_root_28 rfl ?_
      refine g_lmul S dX8_root_30 ?_
      refine g_lload_n 1 S dX8_root_31 rfl ?_
      refine g_lcmp S dX8_root_32 ?_
      refine g_ifl_gt (tgt := 42) S dX8_root_33 (by decide) hf (fun c hf => ?_) (fun c hf => ?_)
      · refine g_lload 0 S dX8_root_42 rfl ?_
        refine g_lstore (lv' := [(4, .long ((x2 + x4) / 2)), (6, .long ((x2 + x4) / 2)), (0, .long x0), (2, .long x2)]) S dX8_root_44 (by decide) rfl ?_
        refine g_goto (tgt := 7) S dX8_root_46 (by decide) ?_
        refine Go.sub [2, 3, 0] rfl ?_
        exact ih _ _ _ hf
      · refine g_lload 0 S dX8_root_36 rfl ?_
        refine g_lstore_n (lv' := [(2, .long ((x2 + x4) / 2)), (6, .long ((x2 + x4) / 2)), (0, .long x0), (4, .long x4)]) S dX8_root_38 (by decide) rfl ?_
        refine g_goto (tgt := 46) S dX8_root_39 (by decide) ?_
        refine g_goto (tgt := 7) S dX8_root_46 (by decide) ?_
        refine Go.sub [2, 0, 3] rfl ?_
        exact ih _ _ _ hf
    · refine g_lload_n 1 S dX8_root_49 rfl ?_
      refine g_l2i S dX8_root_50 ?_
      exact g_iretP rt hf dX8_root_51
def f_X8_root (z : Nat → Nat) (M : Mem) (p1 : Int64) : Option Int32 := f_X8_root_7 z M 1000 p1 0 3000000000
theorem c_X8_root {l : Launch} {G : GG} {a : AA} {M : Mem} {p1 : Int64} {r : Int32} (hf : f_X8_root a.1 M p1 = some r) : CtI l G a yX8_root cX8_root 8 .int (rmD 0) [.long p1] M r M := by
  refine ct_I (by decide) rfl rfl (own := RX8) (Nat.le_of_ble_eq_true rfl) (fun K hl hg S rt => ?_)
  subst hl; subst hg
  unfold f_X8_root at hf
  show Go K 8 a M 0 [(0, .long p1)] []
  refine g_lconst (v := 0) S dX8_root_0 rfl ?_
  refine g_lstore_n (lv' := [(2, .long 0), (0, .long p1)]) S dX8_root_1 (by decide) rfl ?_
  refine g_ldc2 S lc_X8_170 dX8_root_2 ?_
  refine g_lstore (lv' := [(4, .long 3000000000), (2, .long 0), (0, .long p1)]) S dX8_root_5 (by decide) rfl ?_
  refine Go.sub [2, 1, 0] rfl ?_
  exact t_X8_root_7  S rt 1000 _ _ _ hf
-- BridleBookModel.stand(II)V
theorem dX8_stand_0 : decode cX8_stand 0 = .ok (.iconst 0, 1) := by decide +kernel
theorem dX8_stand_1 : decode cX8_stand 1 = .ok (.istore_n 3, 1) := by decide +kernel
theorem dX8_stand_2 : decode cX8_stand 2 = .ok (.iload_n 3, 1) := by decide +kernel
theorem dX8_stand_3 : decode cX8_stand 3 = .ok (.sipush 200, 3) := by decide +kernel
theorem dX8_stand_6 : decode cX8_stand 6 = .ok (.if_icmp .gt 23, 3) := by decide +kernel
theorem dX8_stand_9 : decode cX8_stand 9 = .ok (.aload_n 0, 1) := by decide +kernel
theorem dX8_stand_10 : decode cX8_stand 10 = .ok (.getfield 59, 3) := by decide +kernel
theorem dX8_stand_13 : decode cX8_stand 13 = .ok (.iload_n 3, 1) := by decide +kernel
theorem dX8_stand_14 : decode cX8_stand 14 = .ok (.iconst 0, 1) := by decide +kernel
theorem dX8_stand_15 : decode cX8_stand 15 = .ok (.iastore, 1) := by decide +kernel
theorem dX8_stand_16 : decode cX8_stand 16 = .ok (.aload_n 0, 1) := by decide +kernel
theorem dX8_stand_17 : decode cX8_stand 17 = .ok (.getfield 62, 3) := by decide +kernel
theorem dX8_stand_20 : decode cX8_stand 20 = .ok (.iload_n 3, 1) := by decide +kernel
theorem dX8_stand_21 : decode cX8_stand 21 = .ok (.iconst 0, 1) := by decide +kernel
theorem dX8_stand_22 : decode cX8_stand 22 = .ok (.iastore, 1) := by decide +kernel
theorem dX8_stand_23 : decode cX8_stand 23 = .ok (.iinc 3 1, 3) := by decide +kernel
theorem dX8_stand_26 : decode cX8_stand 26 = .ok (.goto (-24), 3) := by decide +kernel
theorem dX8_stand_29 : decode cX8_stand 29 = .ok (.iconst 0, 1) := by decide +kernel
theorem dX8_stand_30 : decode cX8_stand 30 = .ok (.istore_n 3, 1) := by decide +kernel
theorem dX8_stand_31 : decode cX8_stand 31 = .ok (.iload_n 3, 1) := by decide +kernel
theorem dX8_stand_32 : decode cX8_stand 32 = .ok (.aload_n 0, 1) := by decide +kernel
theorem dX8_stand_33 : decode cX8_stand 33 = .ok (.getfield 108, 3) := by decide +kernel
theorem dX8_stand_36 : decode cX8_stand 36 = .ok (.if_icmp .ge 88, 3) := by decide +kernel
theorem dX8_stand_39 : decode cX8_stand 39 = .ok (.aload_n 0, 1) := by decide +kernel
theorem dX8_stand_40 : decode cX8_stand 40 = .ok (.getfield 29, 3) := by decide +kernel
theorem dX8_stand_43 : decode cX8_stand 43 = .ok (.iload_n 3, 1) := by decide +kernel
theorem dX8_stand_44 : decode cX8_stand 44 = .ok (.iaload, 1) := by decide +kernel
theorem dX8_stand_45 : decode cX8_stand 45 = .ok (.iload_n 1, 1) := by decide +kernel
theorem dX8_stand_46 : decode cX8_stand 46 = .ok (.if_icmp .eq 6, 3) := by decide +kernel
theorem dX8_stand_49 : decode cX8_stand 49 = .ok (.goto 69, 3) := by decide +kernel
theorem dX8_stand_52 : decode cX8_stand 52 = .ok (.iload_n 2, 1) := by decide +kernel
theorem dX8_stand_53 : decode cX8_stand 53 = .ok (.ifCond .ge 20, 3) := by decide +kernel
theorem dX8_stand_56 : decode cX8_stand 56 = .ok (.aload_n 0, 1) := by decide +kernel
theorem dX8_stand_57 : decode cX8_stand 57 = .ok (.getfield 41, 3) := by decide +kernel
theorem dX8_stand_60 : decode cX8_stand 60 = .ok (.aload_n 0, 1) := by decide +kernel
theorem dX8_stand_61 : decode cX8_stand 61 = .ok (.getfield 32, 3) := by decide +kernel
theorem dX8_stand_64 : decode cX8_stand 64 = .ok (.iload_n 3, 1) := by decide +kernel
theorem dX8_stand_65 : decode cX8_stand 65 = .ok (.iaload, 1) := by decide +kernel
theorem dX8_stand_66 : decode cX8_stand 66 = .ok (.invokestatic 174, 3) := by decide +kernel
theorem dX8_stand_69 : decode cX8_stand 69 = .ok (.iaload, 1) := by decide +kernel
theorem dX8_stand_70 : decode cX8_stand 70 = .ok (.goto 4, 3) := by decide +kernel
theorem dX8_stand_73 : decode cX8_stand 73 = .ok (.iload_n 2, 1) := by decide +kernel
theorem dX8_stand_74 : decode cX8_stand 74 = .ok (.istore 4, 2) := by decide +kernel
theorem dX8_stand_76 : decode cX8_stand 76 = .ok (.aload_n 0, 1) := by decide +kernel
theorem dX8_stand_77 : decode cX8_stand 77 = .ok (.getfield 59, 3) := by decide +kernel
theorem dX8_stand_80 : decode cX8_stand 80 = .ok (.aload_n 0, 1) := by decide +kernel
theorem dX8_stand_81 : decode cX8_stand 81 = .ok (.getfield 32, 3) := by decide +kernel
theorem dX8_stand_84 : decode cX8_stand 84 = .ok (.iload_n 3, 1) := by decide +kernel
theorem dX8_stand_85 : decode cX8_stand 85 = .ok (.iaload, 1) := by decide +kernel
theorem dX8_stand_86 : decode cX8_stand 86 = .ok (.dup2, 1) := by decide +kernel
theorem dX8_stand_87 : decode cX8_stand 87 = .ok (.iaload, 1) := by decide +kernel
theorem dX8_stand_88 : decode cX8_stand 88 = .ok (.aload_n 0, 1) := by decide +kernel
theorem dX8_stand_89 : decode cX8_stand 89 = .ok (.iload_n 3, 1) := by decide +kernel
theorem dX8_stand_90 : decode cX8_stand 90 = .ok (.iload 4, 2) := by decide +kernel
theorem dX8_stand_92 : decode cX8_stand 92 = .ok (.invokevirtual 150, 3) := by decide +kernel
theorem dX8_stand_95 : decode cX8_stand 95 = .ok (.iadd, 1) := by decide +kernel
theorem dX8_stand_96 : decode cX8_stand 96 = .ok (.iastore, 1) := by decide +kernel
theorem dX8_stand_97 : decode cX8_stand 97 = .ok (.aload_n 0, 1) := by decide +kernel
theorem dX8_stand_98 : decode cX8_stand 98 = .ok (.getfield 62, 3) := by decide +kernel
theorem dX8_stand_101 : decode cX8_stand 101 = .ok (.aload_n 0, 1) := by decide +kernel
theorem dX8_stand_102 : decode cX8_stand 102 = .ok (.getfield 32, 3) := by decide +kernel
theorem dX8_stand_105 : decode cX8_stand 105 = .ok (.iload_n 3, 1) := by decide +kernel
theorem dX8_stand_106 : decode cX8_stand 106 = .ok (.iaload, 1) := by decide +kernel
theorem dX8_stand_107 : decode cX8_stand 107 = .ok (.dup2, 1) := by decide +kernel
theorem dX8_stand_108 : decode cX8_stand 108 = .ok (.iaload, 1) := by decide +kernel
theorem dX8_stand_109 : decode cX8_stand 109 = .ok (.aload_n 0, 1) := by decide +kernel
theorem dX8_stand_110 : decode cX8_stand 110 = .ok (.iload_n 3, 1) := by decide +kernel
theorem dX8_stand_111 : decode cX8_stand 111 = .ok (.iload 4, 2) := by decide +kernel
theorem dX8_stand_113 : decode cX8_stand 113 = .ok (.invokevirtual 147, 3) := by decide +kernel
theorem dX8_stand_116 : decode cX8_stand 116 = .ok (.iadd, 1) := by decide +kernel
theorem dX8_stand_117 : decode cX8_stand 117 = .ok (.iastore, 1) := by decide +kernel
theorem dX8_stand_118 : decode cX8_stand 118 = .ok (.iinc 3 1, 3) := by decide +kernel
theorem dX8_stand_121 : decode cX8_stand 121 = .ok (.goto (-90), 3) := by decide +kernel
theorem dX8_stand_124 : decode cX8_stand 124 = .ok (.aload_n 0, 1) := by decide +kernel
theorem dX8_stand_125 : decode cX8_stand 125 = .ok (.getfield 44, 3) := by decide +kernel
theorem dX8_stand_128 : decode cX8_stand 128 = .ok (.iload_n 1, 1) := by decide +kernel
theorem dX8_stand_129 : decode cX8_stand 129 = .ok (.iaload, 1) := by decide +kernel
theorem dX8_stand_130 : decode cX8_stand 130 = .ok (.istore_n 3, 1) := by decide +kernel
theorem dX8_stand_131 : decode cX8_stand 131 = .ok (.iload_n 3, 1) := by decide +kernel
theorem dX8_stand_132 : decode cX8_stand 132 = .ok (.iconst 1, 1) := by decide +kernel
theorem dX8_stand_133 : decode cX8_stand 133 = .ok (.if_icmp .lt 71, 3) := by decide +kernel
theorem dX8_stand_136 : decode cX8_stand 136 = .ok (.aload_n 0, 1) := by decide +kernel
theorem dX8_stand_137 : decode cX8_stand 137 = .ok (.getfield 62, 3) := by decide +kernel
theorem dX8_stand_140 : decode cX8_stand 140 = .ok (.iload_n 3, 1) := by decide +kernel
theorem dX8_stand_141 : decode cX8_stand 141 = .ok (.dup2, 1) := by decide +kernel
theorem dX8_stand_142 : decode cX8_stand 142 = .ok (.iaload, 1) := by decide +kernel
theorem dX8_stand_143 : decode cX8_stand 143 = .ok (.aload_n 0, 1) := by decide +kernel
theorem dX8_stand_144 : decode cX8_stand 144 = .ok (.getfield 50, 3) := by decide +kernel
theorem dX8_stand_147 : decode cX8_stand 147 = .ok (.iload_n 1, 1) := by decide +kernel
theorem dX8_stand_148 : decode cX8_stand 148 = .ok (.iaload, 1) := by decide +kernel
theorem dX8_stand_149 : decode cX8_stand 149 = .ok (.isub, 1) := by decide +kernel
theorem dX8_stand_150 : decode cX8_stand 150 = .ok (.iastore, 1) := by decide +kernel
theorem dX8_stand_151 : decode cX8_stand 151 = .ok (.iload_n 3, 1) := by decide +kernel
theorem dX8_stand_152 : decode cX8_stand 152 = .ok (.aload_n 0, 1) := by decide +kernel
theorem dX8_stand_153 : decode cX8_stand 153 = .ok (.getfield 44, 3) := by decide +kernel
theorem dX8_stand_156 : decode cX8_stand 156 = .ok (.iload_n 1, 1) := by decide +kernel
theorem dX8_stand_157 : decode cX8_stand 157 = .ok (.iaload, 1) := by decide +kernel
theorem dX8_stand_158 : decode cX8_stand 158 = .ok (.if_icmp .ne 6, 3) := by decide +kernel
theorem dX8_stand_161 : decode cX8_stand 161 = .ok (.goto 37, 3) := by decide +kernel
theorem dX8_stand_164 : decode cX8_stand 164 = .ok (.aload_n 0, 1) := by decide +kernel
theorem dX8_stand_165 : decode cX8_stand 165 = .ok (.getfield 59, 3) := by decide +kernel
theorem dX8_stand_168 : decode cX8_stand 168 = .ok (.iload_n 3, 1) := by decide +kernel
theorem dX8_stand_169 : decode cX8_stand 169 = .ok (.dup2, 1) := by decide +kernel
theorem dX8_stand_170 : decode cX8_stand 170 = .ok (.iaload, 1) := by decide +kernel
theorem dX8_stand_171 : decode cX8_stand 171 = .ok (.aload_n 0, 1) := by decide +kernel
theorem dX8_stand_172 : decode cX8_stand 172 = .ok (.getfield 59, 3) := by decide +kernel
theorem dX8_stand_175 : decode cX8_stand 175 = .ok (.iload_n 3, 1) := by decide +kernel
theorem dX8_stand_176 : decode cX8_stand 176 = .ok (.iconst 1, 1) := by decide +kernel
theorem dX8_stand_177 : decode cX8_stand 177 = .ok (.iadd, 1) := by decide +kernel
theorem dX8_stand_178 : decode cX8_stand 178 = .ok (.iaload, 1) := by decide +kernel
theorem dX8_stand_179 : decode cX8_stand 179 = .ok (.iadd, 1) := by decide +kernel
theorem dX8_stand_180 : decode cX8_stand 180 = .ok (.iastore, 1) := by decide +kernel
theorem dX8_stand_181 : decode cX8_stand 181 = .ok (.aload_n 0, 1) := by decide +kernel
theorem dX8_stand_182 : decode cX8_stand 182 = .ok (.getfield 62, 3) := by decide +kernel
theorem dX8_stand_185 : decode cX8_stand 185 = .ok (.iload_n 3, 1) := by decide +kernel
theorem dX8_stand_186 : decode cX8_stand 186 = .ok (.dup2, 1) := by decide +kernel
theorem dX8_stand_187 : decode cX8_stand 187 = .ok (.iaload, 1) := by decide +kernel
theorem dX8_stand_188 : decode cX8_stand 188 = .ok (.aload_n 0, 1) := by decide +kernel
theorem dX8_stand_189 : decode cX8_stand 189 = .ok (.getfield 62, 3) := by decide +kernel
theorem dX8_stand_192 : decode cX8_stand 192 = .ok (.iload_n 3, 1) := by decide +kernel
theorem dX8_stand_193 : decode cX8_stand 193 = .ok (.iconst 1, 1) := by decide +kernel
theorem dX8_stand_194 : decode cX8_stand 194 = .ok (.iadd, 1) := by decide +kernel
theorem dX8_stand_195 : decode cX8_stand 195 = .ok (.iaload, 1) := by decide +kernel
theorem dX8_stand_196 : decode cX8_stand 196 = .ok (.iadd, 1) := by decide +kernel
theorem dX8_stand_197 : decode cX8_stand 197 = .ok (.iastore, 1) := by decide +kernel
theorem dX8_stand_198 : decode cX8_stand 198 = .ok (.iinc 3 (-1), 3) := by decide +kernel
theorem dX8_stand_201 : decode cX8_stand 201 = .ok (.goto (-70), 3) := by decide +kernel
theorem dX8_stand_204 : decode cX8_stand 204 = .ok (.aload_n 0, 1) := by decide +kernel
theorem dX8_stand_205 : decode cX8_stand 205 = .ok (.getfield 68, 3) := by decide +kernel
theorem dX8_stand_208 : decode cX8_stand 208 = .ok (.iconst 0, 1) := by decide +kernel
theorem dX8_stand_209 : decode cX8_stand 209 = .ok (.iconst 0, 1) := by decide +kernel
theorem dX8_stand_210 : decode cX8_stand 210 = .ok (.iastore, 1) := by decide +kernel
theorem dX8_stand_211 : decode cX8_stand 211 = .ok (.aload_n 0, 1) := by decide +kernel
theorem dX8_stand_212 : decode cX8_stand 212 = .ok (.getfield 71, 3) := by decide +kernel
theorem dX8_stand_215 : decode cX8_stand 215 = .ok (.iconst 0, 1) := by decide +kernel
theorem dX8_stand_216 : decode cX8_stand 216 = .ok (.iconst 0, 1) := by decide +kernel
theorem dX8_stand_217 : decode cX8_stand 217 = .ok (.iastore, 1) := by decide +kernel
theorem dX8_stand_218 : decode cX8_stand 218 = .ok (.iconst 1, 1) := by decide +kernel
theorem dX8_stand_219 : decode cX8_stand 219 = .ok (.istore_n 3, 1) := by decide +kernel
theorem dX8_stand_220 : decode cX8_stand 220 = .ok (.iload_n 3, 1) := by decide +kernel
theorem dX8_stand_221 : decode cX8_stand 221 = .ok (.aload_n 0, 1) := by decide +kernel
theorem dX8_stand_222 : decode cX8_stand 222 = .ok (.getfield 44, 3) := by decide +kernel
theorem dX8_stand_225 : decode cX8_stand 225 = .ok (.iload_n 1, 1) := by decide +kernel
theorem dX8_stand_226 : decode cX8_stand 226 = .ok (.iaload, 1) := by decide +kernel
theorem dX8_stand_227 : decode cX8_stand 227 = .ok (.if_icmp .gt 133, 3) := by decide +kernel
theorem dX8_stand_230 : decode cX8_stand 230 = .ok (.aload_n 0, 1) := by decide +kernel
theorem dX8_stand_231 : decode cX8_stand 231 = .ok (.getfield 59, 3) := by decide +kernel
theorem dX8_stand_234 : decode cX8_stand 234 = .ok (.iload_n 3, 1) := by decide +kernel
theorem dX8_stand_235 : decode cX8_stand 235 = .ok (.iaload, 1) := by decide +kernel
theorem dX8_stand_236 : decode cX8_stand 236 = .ok (.i2l, 1) := by decide +kernel
theorem dX8_stand_237 : decode cX8_stand 237 = .ok (.aload_n 0, 1) := by decide +kernel
theorem dX8_stand_238 : decode cX8_stand 238 = .ok (.getfield 59, 3) := by decide +kernel
theorem dX8_stand_241 : decode cX8_stand 241 = .ok (.iload_n 3, 1) := by decide +kernel
theorem dX8_stand_242 : decode cX8_stand 242 = .ok (.iaload, 1) := by decide +kernel
theorem dX8_stand_243 : decode cX8_stand 243 = .ok (.i2l, 1) := by decide +kernel
theorem dX8_stand_244 : decode cX8_stand 244 = .ok (.lmul, 1) := by decide +kernel
theorem dX8_stand_245 : decode cX8_stand 245 = .ok (.aload_n 0, 1) := by decide +kernel
theorem dX8_stand_246 : decode cX8_stand 246 = .ok (.getfield 62, 3) := by decide +kernel
theorem dX8_stand_249 : decode cX8_stand 249 = .ok (.iload_n 3, 1) := by decide +kernel
theorem dX8_stand_250 : decode cX8_stand 250 = .ok (.iaload, 1) := by decide +kernel
theorem dX8_stand_251 : decode cX8_stand 251 = .ok (.i2l, 1) := by decide +kernel
theorem dX8_stand_252 : decode cX8_stand 252 = .ok (.aload_n 0, 1) := by decide +kernel
theorem dX8_stand_253 : decode cX8_stand 253 = .ok (.getfield 62, 3) := by decide +kernel
theorem dX8_stand_256 : decode cX8_stand 256 = .ok (.iload_n 3, 1) := by decide +kernel
theorem dX8_stand_257 : decode cX8_stand 257 = .ok (.iaload, 1) := by decide +kernel
theorem dX8_stand_258 : decode cX8_stand 258 = .ok (.i2l, 1) := by decide +kernel
theorem dX8_stand_259 : decode cX8_stand 259 = .ok (.lmul, 1) := by decide +kernel
theorem dX8_stand_260 : decode cX8_stand 260 = .ok (.ladd, 1) := by decide +kernel
theorem dX8_stand_261 : decode cX8_stand 261 = .ok (.invokestatic 177, 3) := by decide +kernel
theorem dX8_stand_264 : decode cX8_stand 264 = .ok (.istore 4, 2) := by decide +kernel
theorem dX8_stand_266 : decode cX8_stand 266 = .ok (.aload_n 0, 1) := by decide +kernel
theorem dX8_stand_267 : decode cX8_stand 267 = .ok (.getfield 65, 3) := by decide +kernel
theorem dX8_stand_270 : decode cX8_stand 270 = .ok (.iload_n 3, 1) := by decide +kernel
theorem dX8_stand_271 : decode cX8_stand 271 = .ok (.iload 4, 2) := by decide +kernel
theorem dX8_stand_273 : decode cX8_stand 273 = .ok (.iastore, 1) := by decide +kernel
theorem dX8_stand_274 : decode cX8_stand 274 = .ok (.aload_n 0, 1) := by decide +kernel
theorem dX8_stand_275 : decode cX8_stand 275 = .ok (.getfield 68, 3) := by decide +kernel
theorem dX8_stand_278 : decode cX8_stand 278 = .ok (.iload_n 3, 1) := by decide +kernel
theorem dX8_stand_279 : decode cX8_stand 279 = .ok (.aload_n 0, 1) := by decide +kernel
theorem dX8_stand_280 : decode cX8_stand 280 = .ok (.getfield 68, 3) := by decide +kernel
theorem dX8_stand_283 : decode cX8_stand 283 = .ok (.iload_n 3, 1) := by decide +kernel
theorem dX8_stand_284 : decode cX8_stand 284 = .ok (.iconst 1, 1) := by decide +kernel
theorem dX8_stand_285 : decode cX8_stand 285 = .ok (.isub, 1) := by decide +kernel
theorem dX8_stand_286 : decode cX8_stand 286 = .ok (.iaload, 1) := by decide +kernel
theorem dX8_stand_287 : decode cX8_stand 287 = .ok (.iload 4, 2) := by decide +kernel
theorem dX8_stand_289 : decode cX8_stand 289 = .ok (.ifCond .ne 7, 3) := by decide +kernel
theorem dX8_stand_292 : decode cX8_stand 292 = .ok (.iconst 0, 1) := by decide +kernel
theorem dX8_stand_293 : decode cX8_stand 293 = .ok (.goto 19, 3) := by decide +kernel
theorem dX8_stand_296 : decode cX8_stand 296 = .ok (.ldc2_w 181, 3) := by decide +kernel
theorem dX8_stand_299 : decode cX8_stand 299 = .ok (.aload_n 0, 1) := by decide +kernel
theorem dX8_stand_300 : decode cX8_stand 300 = .ok (.getfield 59, 3) := by decide +kernel
theorem dX8_stand_303 : decode cX8_stand 303 = .ok (.iload_n 3, 1) := by decide +kernel
theorem dX8_stand_304 : decode cX8_stand 304 = .ok (.iaload, 1) := by decide +kernel
theorem dX8_stand_305 : decode cX8_stand 305 = .ok (.i2l, 1) := by decide +kernel
theorem dX8_stand_306 : decode cX8_stand 306 = .ok (.lmul, 1) := by decide +kernel
theorem dX8_stand_307 : decode cX8_stand 307 = .ok (.iload 4, 2) := by decide +kernel
theorem dX8_stand_309 : decode cX8_stand 309 = .ok (.i2l, 1) := by decide +kernel
theorem dX8_stand_310 : decode cX8_stand 310 = .ok (.ldiv, 1) := by decide +kernel
theorem dX8_stand_311 : decode cX8_stand 311 = .ok (.l2i, 1) := by decide +kernel
theorem dX8_stand_312 : decode cX8_stand 312 = .ok (.iadd, 1) := by decide +kernel
theorem dX8_stand_313 : decode cX8_stand 313 = .ok (.iastore, 1) := by decide +kernel
theorem dX8_stand_314 : decode cX8_stand 314 = .ok (.aload_n 0, 1) := by decide +kernel
theorem dX8_stand_315 : decode cX8_stand 315 = .ok (.getfield 71, 3) := by decide +kernel
theorem dX8_stand_318 : decode cX8_stand 318 = .ok (.iload_n 3, 1) := by decide +kernel
theorem dX8_stand_319 : decode cX8_stand 319 = .ok (.aload_n 0, 1) := by decide +kernel
theorem dX8_stand_320 : decode cX8_stand 320 = .ok (.getfield 71, 3) := by decide +kernel
theorem dX8_stand_323 : decode cX8_stand 323 = .ok (.iload_n 3, 1) := by decide +kernel
theorem dX8_stand_324 : decode cX8_stand 324 = .ok (.iconst 1, 1) := by decide +kernel
theorem dX8_stand_325 : decode cX8_stand 325 = .ok (.isub, 1) := by decide +kernel
theorem dX8_stand_326 : decode cX8_stand 326 = .ok (.iaload, 1) := by decide +kernel
theorem dX8_stand_327 : decode cX8_stand 327 = .ok (.iload 4, 2) := by decide +kernel
theorem dX8_stand_329 : decode cX8_stand 329 = .ok (.ifCond .ne 7, 3) := by decide +kernel
theorem dX8_stand_332 : decode cX8_stand 332 = .ok (.iconst 0, 1) := by decide +kernel
theorem dX8_stand_333 : decode cX8_stand 333 = .ok (.goto 19, 3) := by decide +kernel
theorem dX8_stand_336 : decode cX8_stand 336 = .ok (.ldc2_w 181, 3) := by decide +kernel
theorem dX8_stand_339 : decode cX8_stand 339 = .ok (.aload_n 0, 1) := by decide +kernel
theorem dX8_stand_340 : decode cX8_stand 340 = .ok (.getfield 62, 3) := by decide +kernel
theorem dX8_stand_343 : decode cX8_stand 343 = .ok (.iload_n 3, 1) := by decide +kernel
theorem dX8_stand_344 : decode cX8_stand 344 = .ok (.iaload, 1) := by decide +kernel
theorem dX8_stand_345 : decode cX8_stand 345 = .ok (.i2l, 1) := by decide +kernel
theorem dX8_stand_346 : decode cX8_stand 346 = .ok (.lmul, 1) := by decide +kernel
theorem dX8_stand_347 : decode cX8_stand 347 = .ok (.iload 4, 2) := by decide +kernel
theorem dX8_stand_349 : decode cX8_stand 349 = .ok (.i2l, 1) := by decide +kernel
theorem dX8_stand_350 : decode cX8_stand 350 = .ok (.ldiv, 1) := by decide +kernel
theorem dX8_stand_351 : decode cX8_stand 351 = .ok (.l2i, 1) := by decide +kernel
theorem dX8_stand_352 : decode cX8_stand 352 = .ok (.iadd, 1) := by decide +kernel
theorem dX8_stand_353 : decode cX8_stand 353 = .ok (.iastore, 1) := by decide +kernel
theorem dX8_stand_354 : decode cX8_stand 354 = .ok (.iinc 3 1, 3) := by decide +kernel
theorem dX8_stand_357 : decode cX8_stand 357 = .ok (.goto (-137), 3) := by decide +kernel
theorem dX8_stand_360 : decode cX8_stand 360 = .ok (.return_, 1) := by decide +kernel
def f_X8_stand_220 (z : Nat → Nat) : Nat → Mem → Int32 → Int32 → Option Mem
  | 0, _, _, _ => none
  | fu + 1, M, x1, x3 => ck (inb x1 10) (if (M 13 (Int32.toNatClampNeg x1)) < x3 then some M else ck (inb x3 201) (ck (inb x3 201) (ck (inb x3 201) (ck (inb x3 201) (bd1 (f_X8_root z M (((Int32.toInt64 (M 18 (Int32.toNatClampNeg x3))) * (Int32.toInt64 (M 18 (Int32.toNatClampNeg x3)))) + ((Int32.toInt64 (M 19 (Int32.toNatClampNeg x3))) * (Int32.toInt64 (M 19 (Int32.toNatClampNeg x3)))))) (fun r1 => ck (inb x3 201) (ck (inb (x3 - 1) 201) (if r1 = 0 then ck (inb x3 201) (lt (mu (mu M 20 (Int32.toNatClampNeg x3) r1) 21 (Int32.toNatClampNeg x3) (((mu M 20 (Int32.toNatClampNeg x3) r1) 21 (Int32.toNatClampNeg (x3 - 1))) + 0)) (fun M2 => ck (inb (x3 - 1) 201) (if r1 = 0 then ck (inb x3 201) (lt (mu M2 22 (Int32.toNatClampNeg x3) ((M2 22 (Int32.toNatClampNeg (x3 - 1))) + 0)) (fun M3 => f_X8_stand_220 z fu M3 x1 (x3 + 1))) else ck (inb x3 201) (ck (decide (¬ (Int32.toInt64 r1) = 0)) (ck (inb x3 201) (lt (mu M2 22 (Int32.toNatClampNeg x3) ((M2 22 (Int32.toNatClampNeg (x3 - 1))) + (Int64.toInt32 ((100 * (Int32.toInt64 (M2 19 (Int32.toNatClampNeg x3)))) / (Int32.toInt64 r1))))) (fun M4 => f_X8_stand_220 z fu M4 x1 (x3 + 1)))))))) else ck (inb x3 201) (ck (decide (¬ (Int32.toInt64 r1) = 0)) (ck (inb x3 201) (lt (mu (mu M 20 (Int32.toNatClampNeg x3) r1) 21 (Int32.toNatClampNeg x3) (((mu M 20 (Int32.toNatClampNeg x3) r1) 21 (Int32.toNatClampNeg (x3 - 1))) + (Int64.toInt32 ((100 * (Int32.toInt64 ((mu M 20 (Int32.toNatClampNeg x3) r1) 18 (Int32.toNatClampNeg x3)))) / (Int32.toInt64 r1))))) (fun M5 => ck (inb (x3 - 1) 201) (if r1 = 0 then ck (inb x3 201) (lt (mu M5 22 (Int32.toNatClampNeg x3) ((M5 22 (Int32.toNatClampNeg (x3 - 1))) + 0)) (fun M6 => f_X8_stand_220 z fu M6 x1 (x3 + 1))) else ck (inb x3 201) (ck (decide (¬ (Int32.toInt64 r1) = 0)) (ck (inb x3 201) (lt (mu M5 22 (Int32.toNatClampNeg x3) ((M5 22 (Int32.toNatClampNeg (x3 - 1))) + (Int64.toInt32 ((100 * (Int32.toInt64 (M5 19 (Int32.toNatClampNeg x3)))) / (Int32.toInt64 r1))))) (fun M7 => f_X8_stand_220 z fu M7 x1 (x3 + 1))))))))))))))))))
theorem t_X8_stand_220 {K : KK} {a : AA} (S : Sx K RX8 cX8_stand 5 (rmD 3))  {M' : Mem} (rt : RtV K a cX8_stand M') : ∀ (fu : Nat) (M : Mem) (x1 : Int32) (x3 : Int32), f_X8_stand_220 a.1 fu M x1 x3 = some M' → Go K 5 a M 220 [(0, .ref (a.2 0)), (1, .int x1), (3, .int x3)] [] := by
  intro fu
  induction fu with
  | zero => intro M x1 x3 hf; exact absurd hf (by simp [f_X8_stand_220])
  | succ fu ih =>
    intro M x1 x3 hf
    rw [f_X8_stand_220] at hf
    refine g_iload_n 2 S dX8_stand_220 rfl ?_
    refine g_aload_n 0 S dX8_stand_221 rfl ?_
    refine g_get (v := .ref (a.2 13)) S ob_0 rfl gi_X8 (by decide) lf_X8_44 rfl dX8_stand_222 ?_
    refine g_iload_n 1 S dX8_stand_225 rfl ?_
    refine g_iald S ia_13 dX8_stand_226 hf (fun hf => ?_)
    refine g_icmp_gt (tgt := 360) S dX8_stand_227 (by decide) hf (fun c hf => ?_) (fun c hf => ?_)
    · exact g_vretM rt hf dX8_stand_360
    · refine g_aload_n 0 S dX8_stand_230 rfl ?_
      refine g_get (v := .ref (a.2 18)) S ob_0 rfl gi_X8 (by decide) lf_X8_59 rfl dX8_stand_231 ?_
      refine g_iload_n 2 S dX8_stand_234 rfl ?_
      refine g_iald S ia_18 dX8_stand_235 hf (fun hf => ?_)
      refine g_i2l S dX8_stand_236 ?_
      refine g_aload_n 0 S dX8_stand_237 rfl ?_
      refine g_get (v := .ref (a.2 18)) S ob_0 rfl gi_X8 (by decide) lf_X8_59 rfl dX8_stand_238 ?_
      refine g_iload_n 2 S dX8_stand_241 rfl ?_
      refine g_iald S ia_18 dX8_stand_242 hf (fun hf => ?_)
      refine g_i2l S dX8_stand_243 ?_
      refine g_lmul S dX8_stand_244 ?_
      refine g_aload_n 0 S dX8_stand_245 rfl ?_
      refine g_get (v := .ref (a.2 19)) S ob_0 rfl gi_X8 (by decide) lf_X8_62 rfl dX8_stand_246 ?_
      refine g_iload_n 2 S dX8_stand_249 rfl ?_
      refine g_iald S ia_19 dX8_stand_250 hf (fun hf => ?_)
      refine g_i2l S dX8_stand_251 ?_
      refine g_aload_n 0 S dX8_stand_252 rfl ?_
      refine g_get (v := .ref (a.2 19)) S ob_0 rfl gi_X8 (by decide) lf_X8_62 rfl dX8_stand_253 ?_
      refine g_iload_n 2 S dX8_stand_256 rfl ?_
      refine g_iald S ia_19 dX8_stand_257 hf (fun hf => ?_)
      refine g_i2l S dX8_stand_258 ?_
      refine g_lmul S dX8_stand_259 ?_
      refine g_ladd S dX8_stand_260 ?_
      obtain ⟨r1, hr1, hf⟩ := bd1_some hf
      refine g_cSI (st := []) S ok_X8_root lk_X8_177 (c_X8_root hr1) rfl rfl ⟨by decide, by decide⟩ (rmD_z _) (Nat.le_of_ble_eq_true rfl) dX8_stand_261 ?_
      refine g_istore (lv' := [(4, .int r1), (0, .ref (a.2 0)), (1, .int x1), (3, .int x3)]) S dX8_stand_264 (by decide) rfl ?_
      refine g_aload_n 1 S dX8_stand_266 rfl ?_
      refine g_get (v := .ref (a.2 20)) S ob_0 rfl gi_X8 (by decide) lf_X8_65 rfl dX8_stand_267 ?_
      refine g_iload_n 3 S dX8_stand_270 rfl ?_
      refine g_iload 0 S dX8_stand_271 rfl ?_
      refine g_iast S ia_20 dX8_stand_273 hf (fun hf => ?_)
      refine g_aload_n 1 S dX8_stand_274 rfl ?_
      refine g_get (v := .ref (a.2 21)) S ob_0 rfl gi_X8 (by decide) lf_X8_68 rfl dX8_stand_275 ?_
      refine g_iload_n 3 S dX8_stand_278 rfl ?_
      refine g_aload_n 1 S dX8_stand_279 rfl ?_
      refine g_get (v := .ref (a.2 21)) S ob_0 rfl gi_X8 (by decide) lf_X8_68 rfl dX8_stand_280 ?_
      refine g_iload_n 3 S dX8_stand_283 rfl ?_
      refine g_iconst (v := 1) S dX8_stand_284 rfl ?_
      refine g_isub S dX8_stand_285 ?_
      refine g_iald S ia_21 dX8_stand_286 hf (fun hf => ?_)
      refine g_iload 0 S dX8_stand_287 rfl ?_
      refine g_if_ne (tgt := 296) S dX8_stand_289 (by decide) hf (fun c hf => ?_) (fun c hf => ?_)
      · refine g_iconst (v := 0) S dX8_stand_292 rfl ?_
        refine g_goto (tgt := 312) S dX8_stand_293 (by decide) ?_
        refine g_iadd S dX8_stand_312 ?_
        refine g_iast S ia_21 dX8_stand_313 hf (fun hf => ?_)
        obtain ⟨M2, eM2, hf⟩ := lt_some hf
        refine Go.M eM2 ?_
        refine g_aload_n 1 S dX8_stand_314 rfl ?_
        refine g_get (v := .ref (a.2 22)) S ob_0 rfl gi_X8 (by decide) lf_X8_71 rfl dX8_stand_315 ?_
        refine g_iload_n 3 S dX8_stand_318 rfl ?_
        refine g_aload_n 1 S dX8_stand_319 rfl ?_
        refine g_get (v := .ref (a.2 22)) S ob_0 rfl gi_X8 (by decide) lf_X8_71 rfl dX8_stand_320 ?_
        refine g_iload_n 3 S dX8_stand_323 rfl ?_
        refine g_iconst (v := 1) S dX8_stand_324 rfl ?_
        refine g_isub S dX8_stand_325 ?_
        refine g_iald S ia_22 dX8_stand_326 hf (fun hf => ?_)
        refine g_iload 0 S dX8_stand_327 rfl ?_
        refine g_if_ne (tgt := 336) S dX8_stand_329 (by decide) hf (fun c hf => ?_) (fun c hf => ?_)
        · refine g_iconst (v := 0) S dX8_stand_332 rfl ?_
          refine g_goto (tgt := 352) S dX8_stand_333 (by decide) ?_
          refine g_iadd S dX8_stand_352 ?_
          refine g_iast S ia_22 dX8_stand_353 hf (fun hf => ?_)
          obtain ⟨M3, eM3, hf⟩ := lt_some hf
          refine Go.M eM3 ?_
          refine g_iinc (v := (x3 + 1)) (lv' := [(3, .int (x3 + 1)), (4, .int r1), (0, .ref (a.2 0)), (1, .int x1)]) 3 S dX8_stand_354 rfl rfl (by decide) rfl ?_
          refine g_goto (tgt := 220) S dX8_stand_357 (by decide) ?_
          refine Go.sub [2, 3, 0] rfl ?_
          exact ih _ _ _ hf
        · refine g_ldc2 S lc_X8_181 dX8_stand_336 ?_
          refine g_aload_n 1 S dX8_stand_339 rfl ?_
          refine g_get (v := .ref (a.2 19)) S ob_0 rfl gi_X8 (by decide) lf_X8_62 rfl dX8_stand_340 ?_
          refine g_iload_n 3 S dX8_stand_343 rfl ?_
          refine g_iald S ia_19 dX8_stand_344 hf (fun hf => ?_)
          refine g_i2l S dX8_stand_345 ?_
          refine g_lmul S dX8_stand_346 ?_
          refine g_iload 0 S dX8_stand_347 rfl ?_
          refine g_i2l S dX8_stand_349 ?_
          refine g_ldivC S dX8_stand_350 hf (fun hf => ?_)
          refine g_l2i S dX8_stand_351 ?_
          refine g_iadd S dX8_stand_352 ?_
          refine g_iast S ia_22 dX8_stand_353 hf (fun hf => ?_)
          obtain ⟨M4, eM4, hf⟩ := lt_some hf
          refine Go.M eM4 ?_
          refine g_iinc (v := (x3 + 1)) (lv' := [(3, .int (x3 + 1)), (4, .int r1), (0, .ref (a.2 0)), (1, .int x1)]) 3 S dX8_stand_354 rfl rfl (by decide) rfl ?_
          refine g_goto (tgt := 220) S dX8_stand_357 (by decide) ?_
          refine Go.sub [2, 3, 0] rfl ?_
          exact ih _ _ _ hf
      · refine g_ldc2 S lc_X8_181 dX8_stand_296 ?_
        refine g_aload_n 1 S dX8_stand_299 rfl ?_
        refine g_get (v := .ref (a.2 18)) S ob_0 rfl gi_X8 (by decide) lf_X8_59 rfl dX8_stand_300 ?_
        refine g_iload_n 3 S dX8_stand_303 rfl ?_
        refine g_iald S ia_18 dX8_stand_304 hf (fun hf => ?_)
        refine g_i2l S dX8_stand_305 ?_
        refine g_lmul S dX8_stand_306 ?_
        refine g_iload 0 S dX8_stand_307 rfl ?_
        refine g_i2l S dX8_stand_309 ?_
        refine g_ldivC S dX8_stand_310 hf (fun hf => ?_)
        refine g_l2i S dX8_stand_311 ?_
        refine g_iadd S dX8_stand_312 ?_
        refine g_iast S ia_21 dX8_stand_313 hf (fun hf => ?_)
        obtain ⟨M5, eM5, hf⟩ := lt_some hf
        refine Go.M eM5 ?_
        refine g_aload_n 1 S dX8_stand_314 rfl ?_
        refine g_get (v := .ref (a.2 22)) S ob_0 rfl gi_X8 (by decide) lf_X8_71 rfl dX8_stand_315 ?_
        refine g_iload_n 3 S dX8_stand_318 rfl ?_
        refine g_aload_n 1 S dX8_stand_319 rfl ?_
        refine g_get (v := .ref (a.2 22)) S ob_0 rfl gi_X8 (by decide) lf_X8_71 rfl dX8_stand_320 ?_
        refine g_iload_n 3 S dX8_stand_323 rfl ?_
        refine g_iconst (v := 1) S dX8_stand_324 rfl ?_
        refine g_isub S dX8_stand_325 ?_
        refine g_iald S ia_22 dX8_stand_326 hf (fun hf => ?_)
        refine g_iload 0 S dX8_stand_327 rfl ?_
        refine g_if_ne (tgt := 336) S dX8_stand_329 (by decide) hf (fun c hf => ?_) (fun c hf => ?_)
        · refine g_iconst (v := 0) S dX8_stand_332 rfl ?_
          refine g_goto (tgt := 352) S dX8_stand_333 (by decide) ?_
          refine g_iadd S dX8_stand_352 ?_
          refine g_iast S ia_22 dX8_stand_353 hf (fun hf => ?_)
          obtain ⟨M6, eM6, hf⟩ := lt_some hf
          refine Go.M eM6 ?_
          refine g_iinc (v := (x3 + 1)) (lv' := [(3, .int (x3 + 1)), (4, .int r1), (0, .ref (a.2 0)), (1, .int x1)]) 3 S dX8_stand_354 rfl rfl (by decide) rfl ?_
          refine g_goto (tgt := 220) S dX8_stand_357 (by decide) ?_
          refine Go.sub [2, 3, 0] rfl ?_
          exact ih _ _ _ hf
        · refine g_ldc2 S lc_X8_181 dX8_stand_336 ?_
          refine g_aload_n 1 S dX8_stand_339 rfl ?_
          refine g_get (v := .ref (a.2 19)) S ob_0 rfl gi_X8 (by decide) lf_X8_62 rfl dX8_stand_340 ?_
          refine g_iload_n 3 S dX8_stand_343 rfl ?_
          refine g_iald S ia_19 dX8_stand_344 hf (fun hf => ?_)
          refine g_i2l S dX8_stand_345 ?_
          refine g_lmul S dX8_stand_346 ?_
          refine g_iload 0 S dX8_stand_347 rfl ?_
          refine g_i2l S dX8_stand_349 ?_
          refine g_ldivC S dX8_stand_350 hf (fun hf => ?_)
          refine g_l2i S dX8_stand_351 ?_
          refine g_iadd S dX8_stand_352 ?_
          refine g_iast S ia_22 dX8_stand_353 hf (fun hf => ?_)
          obtain ⟨M7, eM7, hf⟩ := lt_some hf
          refine Go.M eM7 ?_
          refine g_iinc (v := (x3 + 1)) (lv' := [(3, .int (x3 + 1)), (4, .int r1), (0, .ref (a.2 0)), (1, .int x1)]) 3 S dX8_stand_354 rfl rfl (by decide) rfl ?_
          refine g_goto (tgt := 220) S dX8_stand_357 (by decide) ?_
          refine Go.sub [2, 3, 0] rfl ?_
          exact ih _ _ _ hf
def f_X8_stand_131 (z : Nat → Nat) : Nat → Mem → Int32 → Int32 → Option Mem
  | 0, _, _, _ => none
  | fu + 1, M, x1, x3 => if x3 < 1 then ck (inb 0 201) (ck (inb 0 201) (f_X8_stand_220 z 1000 (mu (mu M 21 (Int32.toNatClampNeg 0) 0) 22 (Int32.toNatClampNeg 0) 0) x1 1)) else ck (inb x3 201) (ck (inb x1 10) (ck (inb x3 201) (lt (mu M 19 (Int32.toNatClampNeg x3) ((M 19 (Int32.toNatClampNeg x3)) - (M 15 (Int32.toNatClampNeg x1)))) (fun M8 => ck (inb x1 10) (if x3 = (M8 13 (Int32.toNatClampNeg x1)) then f_X8_stand_131 z fu M8 x1 (x3 + (-1)) else ck (inb x3 201) (ck (inb (x3 + 1) 201) (ck (inb x3 201) (lt (mu M8 18 (Int32.toNatClampNeg x3) ((M8 18 (Int32.toNatClampNeg x3)) + (M8 18 (Int32.toNatClampNeg (x3 + 1))))) (fun M9 => ck (inb x3 201) (ck (inb (x3 + 1) 201) (ck (inb x3 201) (lt (mu M9 19 (Int32.toNatClampNeg x3) ((M9 19 (Int32.toNatClampNeg x3)) + (M9 19 (Int32.toNatClampNeg (x3 + 1))))) (fun M10 => f_X8_stand_131 z fu M10 x1 (x3 + (-1)))))))))))))))
theorem t_X8_stand_131 {K : KK} {a : AA} (S : Sx K RX8 cX8_stand 5 (rmD 3))  {M' : Mem} (rt : RtV K a cX8_stand M') : ∀ (fu : Nat) (M : Mem) (x1 : Int32) (x3 : Int32), f_X8_stand_131 a.1 fu M x1 x3 = some M' → Go K 5 a M 131 [(0, .ref (a.2 0)), (1, .int x1), (3, .int x3)] [] := by
  intro fu
  induction fu with
  | zero => intro M x1 x3 hf; exact absurd hf (by simp [f_X8_stand_131])
  | succ fu ih =>
    intro M x1 x3 hf
    rw [f_X8_stand_131] at hf
    refine g_iload_n 2 S dX8_stand_131 rfl ?_
    refine g_iconst (v := 1) S dX8_stand_132 rfl ?_
    refine g_icmp_lt (tgt := 204) S dX8_stand_133 (by decide) hf (fun c hf => ?_) (fun c hf => ?_)
    · refine g_aload_n 0 S dX8_stand_204 rfl ?_
      refine g_get (v := .ref (a.2 21)) S ob_0 rfl gi_X8 (by decide) lf_X8_68 rfl dX8_stand_205 ?_
      refine g_iconst (v := 0) S dX8_stand_208 rfl ?_
      refine g_iconst (v := 0) S dX8_stand_209 rfl ?_
      refine g_iast S ia_21 dX8_stand_210 hf (fun hf => ?_)
      refine g_aload_n 0 S dX8_stand_211 rfl ?_
      refine g_get (v := .ref (a.2 22)) S ob_0 rfl gi_X8 (by decide) lf_X8_71 rfl dX8_stand_212 ?_
      refine g_iconst (v := 0) S dX8_stand_215 rfl ?_
      refine g_iconst (v := 0) S dX8_stand_216 rfl ?_
      refine g_iast S ia_22 dX8_stand_217 hf (fun hf => ?_)
      refine g_iconst (v := 1) S dX8_stand_218 rfl ?_
      refine g_istore_n (lv' := [(3, .int 1), (0, .ref (a.2 0)), (1, .int x1)]) S dX8_stand_219 (by decide) rfl ?_
      refine Go.sub [1, 2, 0] rfl ?_
      exact t_X8_stand_220  S rt 1000 _ _ _ hf
    · refine g_aload_n 0 S dX8_stand_136 rfl ?_
      refine g_get (v := .ref (a.2 19)) S ob_0 rfl gi_X8 (by decide) lf_X8_62 rfl dX8_stand_137 ?_
      refine g_iload_n 2 S dX8_stand_140 rfl ?_
      refine g_dup2 S dX8_stand_141 rfl rfl ?_
      refine g_iald S ia_19 dX8_stand_142 hf (fun hf => ?_)
      refine g_aload_n 0 S dX8_stand_143 rfl ?_
      refine g_get (v := .ref (a.2 15)) S ob_0 rfl gi_X8 (by decide) lf_X8_50 rfl dX8_stand_144 ?_
      refine g_iload_n 1 S dX8_stand_147 rfl ?_
      refine g_iald S ia_15 dX8_stand_148 hf (fun hf => ?_)
      refine g_isub S dX8_stand_149 ?_
      refine g_iast S ia_19 dX8_stand_150 hf (fun hf => ?_)
      obtain ⟨M8, eM8, hf⟩ := lt_some hf
      refine Go.M eM8 ?_
      refine g_iload_n 2 S dX8_stand_151 rfl ?_
      refine g_aload_n 0 S dX8_stand_152 rfl ?_
      refine g_get (v := .ref (a.2 13)) S ob_0 rfl gi_X8 (by decide) lf_X8_44 rfl dX8_stand_153 ?_
      refine g_iload_n 1 S dX8_stand_156 rfl ?_
      refine g_iald S ia_13 dX8_stand_157 hf (fun hf => ?_)
      refine g_icmp_ne (tgt := 164) S dX8_stand_158 (by decide) hf (fun c hf => ?_) (fun c hf => ?_)
      · refine g_goto (tgt := 198) S dX8_stand_161 (by decide) ?_
        refine g_iinc (v := (x3 + (-1))) (lv' := [(3, .int (x3 + (-1))), (0, .ref (a.2 0)), (1, .int x1)]) 2 S dX8_stand_198 rfl rfl (by decide) rfl ?_
        refine g_goto (tgt := 131) S dX8_stand_201 (by decide) ?_
        refine Go.sub [1, 2, 0] rfl ?_
        exact ih _ _ _ hf
      · refine g_aload_n 0 S dX8_stand_164 rfl ?_
        refine g_get (v := .ref (a.2 18)) S ob_0 rfl gi_X8 (by decide) lf_X8_59 rfl dX8_stand_165 ?_
        refine g_iload_n 2 S dX8_stand_168 rfl ?_
        refine g_dup2 S dX8_stand_169 rfl rfl ?_
        refine g_iald S ia_18 dX8_stand_170 hf (fun hf => ?_)
        refine g_aload_n 0 S dX8_stand_171 rfl ?_
        refine g_get (v := .ref (a.2 18)) S ob_0 rfl gi_X8 (by decide) lf_X8_59 rfl dX8_stand_172 ?_
        refine g_iload_n 2 S dX8_stand_175 rfl ?_
        refine g_iconst (v := 1) S dX8_stand_176 rfl ?_
        refine g_iadd S dX8_stand_177 ?_
        refine g_iald S ia_18 dX8_stand_178 hf (fun hf => ?_)
        refine g_iadd S dX8_stand_179 ?_
        refine g_iast S ia_18 dX8_stand_180 hf (fun hf => ?_)
        obtain ⟨M9, eM9, hf⟩ := lt_some hf
        refine Go.M eM9 ?_
        refine g_aload_n 0 S dX8_stand_181 rfl ?_
        refine g_get (v := .ref (a.2 19)) S ob_0 rfl gi_X8 (by decide) lf_X8_62 rfl dX8_stand_182 ?_
        refine g_iload_n 2 S dX8_stand_185 rfl ?_
        refine g_dup2 S dX8_stand_186 rfl rfl ?_
        refine g_iald S ia_19 dX8_stand_187 hf (fun hf => ?_)
        refine g_aload_n 0 S dX8_stand_188 rfl ?_
        refine g_get (v := .ref (a.2 19)) S ob_0 rfl gi_X8 (by decide) lf_X8_62 rfl dX8_stand_189 ?_
        refine g_iload_n 2 S dX8_stand_192 rfl ?_
        refine g_iconst (v := 1) S dX8_stand_193 rfl ?_
        refine g_iadd S dX8_stand_194 ?_
        refine g_iald S ia_19 dX8_stand_195 hf (fun hf => ?_)
        refine g_iadd S dX8_stand_196 ?_
        refine g_iast S ia_19 dX8_stand_197 hf (fun hf => ?_)
        obtain ⟨M10, eM10, hf⟩ := lt_some hf
        refine Go.M eM10 ?_
        refine g_iinc (v := (x3 + (-1))) (lv' := [(3, .int (x3 + (-1))), (0, .ref (a.2 0)), (1, .int x1)]) 2 S dX8_stand_198 rfl rfl (by decide) rfl ?_
        refine g_goto (tgt := 131) S dX8_stand_201 (by decide) ?_
        refine Go.sub [1, 2, 0] rfl ?_
        exact ih _ _ _ hf
def f_X8_stand_31 (z : Nat → Nat) : Nat → Mem → Int32 → Int32 → Int32 → Option Mem
  | 0, _, _, _, _ => none
  | fu + 1, M, x1, x2, x3 => if (M 0 1) ≤ x3 then ck (inb x1 10) (f_X8_stand_131 z 1000 M x1 (M 13 (Int32.toNatClampNeg x1))) else ck (inb x3 20) (if (M 7 (Int32.toNatClampNeg x3)) = x1 then if 0 ≤ x2 then ck (inb x3 20) (ck (inb (M 8 (Int32.toNatClampNeg x3)) 201) (bd1 (f_X8_pullBack z M x3 x2) (fun r11 => ck (inb (M 8 (Int32.toNatClampNeg x3)) 201) (lt (mu M 18 (Int32.toNatClampNeg (M 8 (Int32.toNatClampNeg x3))) ((M 18 (Int32.toNatClampNeg (M 8 (Int32.toNatClampNeg x3)))) + r11)) (fun M12 => ck (inb x3 20) (ck (inb (M12 8 (Int32.toNatClampNeg x3)) 201) (bd1 (f_X8_pullUp z M12 x3 x2) (fun r13 => ck (inb (M12 8 (Int32.toNatClampNeg x3)) 201) (lt (mu M12 19 (Int32.toNatClampNeg (M12 8 (Int32.toNatClampNeg x3))) ((M12 19 (Int32.toNatClampNeg (M12 8 (Int32.toNatClampNeg x3)))) + r13)) (fun M14 => f_X8_stand_31 z fu M14 x1 x2 (x3 + 1))))))))))) else ck (inb x3 20) (bd1 (f_X8_windBand z M (M 8 (Int32.toNatClampNeg x3))) (fun r15 => ck (inb r15 20) (ck (inb x3 20) (ck (inb (M 8 (Int32.toNatClampNeg x3)) 201) (bd1 (f_X8_pullBack z M x3 (M 11 (Int32.toNatClampNeg r15))) (fun r16 => ck (inb (M 8 (Int32.toNatClampNeg x3)) 201) (lt (mu M 18 (Int32.toNatClampNeg (M 8 (Int32.toNatClampNeg x3))) ((M 18 (Int32.toNatClampNeg (M 8 (Int32.toNatClampNeg x3)))) + r16)) (fun M17 => ck (inb x3 20) (ck (inb (M17 8 (Int32.toNatClampNeg x3)) 201) (bd1 (f_X8_pullUp z M17 x3 (M 11 (Int32.toNatClampNeg r15))) (fun r18 => ck (inb (M17 8 (Int32.toNatClampNeg x3)) 201) (lt (mu M17 19 (Int32.toNatClampNeg (M17 8 (Int32.toNatClampNeg x3))) ((M17 19 (Int32.toNatClampNeg (M17 8 (Int32.toNatClampNeg x3)))) + r18)) (fun M19 => f_X8_stand_31 z fu M19 x1 x2 (x3 + 1)))))))))))))) else f_X8_stand_31 z fu M x1 x2 (x3 + 1))
theorem t_X8_stand_31 {K : KK} {a : AA} (S : Sx K RX8 cX8_stand 5 (rmD 3))  {M' : Mem} (rt : RtV K a cX8_stand M') : ∀ (fu : Nat) (M : Mem) (x1 : Int32) (x2 : Int32) (x3 : Int32), f_X8_stand_31 a.1 fu M x1 x2 x3 = some M' → Go K 5 a M 31 [(0, .ref (a.2 0)), (1, .int x1), (2, .int x2), (3, .int x3)] [] := by
  intro fu
  induction fu with
  | zero => intro M x1 x2 x3 hf; exact absurd hf (by simp [f_X8_stand_31])
  | succ fu ih =>
    intro M x1 x2 x3 hf
    rw [f_X8_stand_31] at hf
    refine g_iload_n 3 S dX8_stand_31 rfl ?_
    refine g_aload_n 0 S dX8_stand_32 rfl ?_
    refine g_get (v := .int (M 0 1)) S ob_0 rfl gi_X8 (by decide) lf_X8_108 rfl dX8_stand_33 ?_
    refine g_icmp_ge (tgt := 124) S dX8_stand_36 (by decide) hf (fun c hf => ?_) (fun c hf => ?_)
    · refine g_aload_n 0 S dX8_stand_124 rfl ?_
      refine g_get (v := .ref (a.2 13)) S ob_0 rfl gi_X8 (by decide) lf_X8_44 rfl dX8_stand_125 ?_
      refine g_iload_n 1 S dX8_stand_128 rfl ?_
      refine g_iald S ia_13 dX8_stand_129 hf (fun hf => ?_)
      refine g_istore_n (lv' := [(3, .int (M 13 (Int32.toNatClampNeg x1))), (0, .ref (a.2 0)), (1, .int x1), (2, .int x2)]) S dX8_stand_130 (by decide) rfl ?_
      refine Go.sub [1, 2, 0] rfl ?_
      exact t_X8_stand_131  S rt 1000 _ _ _ hf
    · refine g_aload_n 0 S dX8_stand_39 rfl ?_
      refine g_get (v := .ref (a.2 7)) S ob_0 rfl gi_X8 (by decide) lf_X8_29 rfl dX8_stand_40 ?_
      refine g_iload_n 3 S dX8_stand_43 rfl ?_
      refine g_iald S ia_7 dX8_stand_44 hf (fun hf => ?_)
      refine g_iload_n 1 S dX8_stand_45 rfl ?_
      refine g_icmp_eq (tgt := 52) S dX8_stand_46 (by decide) hf (fun c hf => ?_) (fun c hf => ?_)
      · refine g_iload_n 2 S dX8_stand_52 rfl ?_
        refine g_if_ge (tgt := 73) S dX8_stand_53 (by decide) hf (fun c hf => ?_) (fun c hf => ?_)
        · refine g_iload_n 2 S dX8_stand_73 rfl ?_
          refine g_istore (lv' := [(4, .int x2), (0, .ref (a.2 0)), (1, .int x1), (2, .int x2), (3, .int x3)]) S dX8_stand_74 (by decide) rfl ?_
          refine g_aload_n 1 S dX8_stand_76 rfl ?_
          refine g_get (v := .ref (a.2 18)) S ob_0 rfl gi_X8 (by decide) lf_X8_59 rfl dX8_stand_77 ?_
          refine g_aload_n 1 S dX8_stand_80 rfl ?_
          refine g_get (v := .ref (a.2 8)) S ob_0 rfl gi_X8 (by decide) lf_X8_32 rfl dX8_stand_81 ?_
          refine g_iload_n 4 S dX8_stand_84 rfl ?_
          refine g_iald S ia_8 dX8_stand_85 hf (fun hf => ?_)
          refine g_dup2 S dX8_stand_86 rfl rfl ?_
          refine g_iald S ia_18 dX8_stand_87 hf (fun hf => ?_)
          refine g_aload_n 1 S dX8_stand_88 rfl ?_
          refine g_iload_n 4 S dX8_stand_89 rfl ?_
          refine g_iload 0 S dX8_stand_90 rfl ?_
          obtain ⟨r11, hr11, hf⟩ := bd1_some hf
          refine g_cVI (st := [.int (M 18 (Int32.toNatClampNeg (M 8 (Int32.toNatClampNeg x3)))), .int (M 8 (Int32.toNatClampNeg x3)), .ref (a.2 18)]) S ob_0 rfl ok_X8_pullBack lk_X8_150 (c_X8_pullBack hr11) rfl rfl ⟨by decide, by decide⟩ (rmD_z _) (Nat.le_of_ble_eq_true rfl) dX8_stand_92 ?_
          refine g_iadd S dX8_stand_95 ?_
          refine g_iast S ia_18 dX8_stand_96 hf (fun hf => ?_)
          obtain ⟨M12, eM12, hf⟩ := lt_some hf
          refine Go.M eM12 ?_
          refine g_aload_n 1 S dX8_stand_97 rfl ?_
          refine g_get (v := .ref (a.2 19)) S ob_0 rfl gi_X8 (by decide) lf_X8_62 rfl dX8_stand_98 ?_
          refine g_aload_n 1 S dX8_stand_101 rfl ?_
          refine g_get (v := .ref (a.2 8)) S ob_0 rfl gi_X8 (by decide) lf_X8_32 rfl dX8_stand_102 ?_
          refine g_iload_n 4 S dX8_stand_105 rfl ?_
          refine g_iald S ia_8 dX8_stand_106 hf (fun hf => ?_)
          refine g_dup2 S dX8_stand_107 rfl rfl ?_
          refine g_iald S ia_19 dX8_stand_108 hf (fun hf => ?_)
          refine g_aload_n 1 S dX8_stand_109 rfl ?_
          refine g_iload_n 4 S dX8_stand_110 rfl ?_
          refine g_iload 0 S dX8_stand_111 rfl ?_
          obtain ⟨r13, hr13, hf⟩ := bd1_some hf
          refine g_cVI (st := [.int (M12 19 (Int32.toNatClampNeg (M12 8 (Int32.toNatClampNeg x3)))), .int (M12 8 (Int32.toNatClampNeg x3)), .ref (a.2 19)]) S ob_0 rfl ok_X8_pullUp lk_X8_147 (c_X8_pullUp hr13) rfl rfl ⟨by decide, by decide⟩ (rmD_z _) (Nat.le_of_ble_eq_true rfl) dX8_stand_113 ?_
          refine g_iadd S dX8_stand_116 ?_
          refine g_iast S ia_19 dX8_stand_117 hf (fun hf => ?_)
          obtain ⟨M14, eM14, hf⟩ := lt_some hf
          refine Go.M eM14 ?_
          refine g_iinc (v := (x3 + 1)) (lv' := [(3, .int (x3 + 1)), (4, .int x2), (0, .ref (a.2 0)), (1, .int x1), (2, .int x2)]) 4 S dX8_stand_118 rfl rfl (by decide) rfl ?_
          refine g_goto (tgt := 31) S dX8_stand_121 (by decide) ?_
          refine Go.sub [2, 3, 4, 0] rfl ?_
          exact ih _ _ _ _ hf
        · refine g_aload_n 0 S dX8_stand_56 rfl ?_
          refine g_get (v := .ref (a.2 11)) S ob_0 rfl gi_X8 (by decide) lf_X8_41 rfl dX8_stand_57 ?_
          refine g_aload_n 0 S dX8_stand_60 rfl ?_
          refine g_get (v := .ref (a.2 8)) S ob_0 rfl gi_X8 (by decide) lf_X8_32 rfl dX8_stand_61 ?_
          refine g_iload_n 3 S dX8_stand_64 rfl ?_
          refine g_iald S ia_8 dX8_stand_65 hf (fun hf => ?_)
          obtain ⟨r15, hr15, hf⟩ := bd1_some hf
          refine g_cSI (st := [.ref (a.2 11)]) S ok_X8_windBand lk_X8_174 (c_X8_windBand hr15) rfl rfl ⟨by decide, by decide⟩ (rmD_z _) (Nat.le_of_ble_eq_true rfl) dX8_stand_66 ?_
          refine g_iald S ia_11 dX8_stand_69 hf (fun hf => ?_)
          refine g_goto (tgt := 74) S dX8_stand_70 (by decide) ?_
          refine g_istore (lv' := [(4, .int (M 11 (Int32.toNatClampNeg r15))), (0, .ref (a.2 0)), (1, .int x1), (2, .int x2), (3, .int x3)]) S dX8_stand_74 (by decide) rfl ?_
          refine g_aload_n 1 S dX8_stand_76 rfl ?_
          refine g_get (v := .ref (a.2 18)) S ob_0 rfl gi_X8 (by decide) lf_X8_59 rfl dX8_stand_77 ?_
          refine g_aload_n 1 S dX8_stand_80 rfl ?_
          refine g_get (v := .ref (a.2 8)) S ob_0 rfl gi_X8 (by decide) lf_X8_32 rfl dX8_stand_81 ?_
          refine g_iload_n 4 S dX8_stand_84 rfl ?_
          refine g_iald S ia_8 dX8_stand_85 hf (fun hf => ?_)
          refine g_dup2 S dX8_stand_86 rfl rfl ?_
          refine g_iald S ia_18 dX8_stand_87 hf (fun hf => ?_)
          refine g_aload_n 1 S dX8_stand_88 rfl ?_
          refine g_iload_n 4 S dX8_stand_89 rfl ?_
          refine g_iload 0 S dX8_stand_90 rfl ?_
          obtain ⟨r16, hr16, hf⟩ := bd1_some hf
          refine g_cVI (st := [.int (M 18 (Int32.toNatClampNeg (M 8 (Int32.toNatClampNeg x3)))), .int (M 8 (Int32.toNatClampNeg x3)), .ref (a.2 18)]) S ob_0 rfl ok_X8_pullBack lk_X8_150 (c_X8_pullBack hr16) rfl rfl ⟨by decide, by decide⟩ (rmD_z _) (Nat.le_of_ble_eq_true rfl) dX8_stand_92 ?_
          refine g_iadd S dX8_stand_95 ?_
          refine g_iast S ia_18 dX8_stand_96 hf (fun hf => ?_)
          obtain ⟨M17, eM17, hf⟩ := lt_some hf
          refine Go.M eM17 ?_
          refine g_aload_n 1 S dX8_stand_97 rfl ?_
          refine g_get (v := .ref (a.2 19)) S ob_0 rfl gi_X8 (by decide) lf_X8_62 rfl dX8_stand_98 ?_
          refine g_aload_n 1 S dX8_stand_101 rfl ?_
          refine g_get (v := .ref (a.2 8)) S ob_0 rfl gi_X8 (by decide) lf_X8_32 rfl dX8_stand_102 ?_
          refine g_iload_n 4 S dX8_stand_105 rfl ?_
          refine g_iald S ia_8 dX8_stand_106 hf (fun hf => ?_)
          refine g_dup2 S dX8_stand_107 rfl rfl ?_
          refine g_iald S ia_19 dX8_stand_108 hf (fun hf => ?_)
          refine g_aload_n 1 S dX8_stand_109 rfl ?_
          refine g_iload_n 4 S dX8_stand_110 rfl ?_
          refine g_iload 0 S dX8_stand_111 rfl ?_
          obtain ⟨r18, hr18, hf⟩ := bd1_some hf
          refine g_cVI (st := [.int (M17 19 (Int32.toNatClampNeg (M17 8 (Int32.toNatClampNeg x3)))), .int (M17 8 (Int32.toNatClampNeg x3)), .ref (a.2 19)]) S ob_0 rfl ok_X8_pullUp lk_X8_147 (c_X8_pullUp hr18) rfl rfl ⟨by decide, by decide⟩ (rmD_z _) (Nat.le_of_ble_eq_true rfl) dX8_stand_113 ?_
          refine g_iadd S dX8_stand_116 ?_
          refine g_iast S ia_19 dX8_stand_117 hf (fun hf => ?_)
          obtain ⟨M19, eM19, hf⟩ := lt_some hf
          refine Go.M eM19 ?_
          refine g_iinc (v := (x3 + 1)) (lv' := [(3, .int (x3 + 1)), (4, .int (M 11 (Int32.toNatClampNeg r15))), (0, .ref (a.2 0)), (1, .int x1), (2, .int x2)]) 4 S dX8_stand_118 rfl rfl (by decide) rfl ?_
          refine g_goto (tgt := 31) S dX8_stand_121 (by decide) ?_
          refine Go.sub [2, 3, 4, 0] rfl ?_
          exact ih _ _ _ _ hf
      · refine g_goto (tgt := 118) S dX8_stand_49 (by decide) ?_
        refine g_iinc (v := (x3 + 1)) (lv' := [(3, .int (x3 + 1)), (0, .ref (a.2 0)), (1, .int x1), (2, .int x2)]) 3 S dX8_stand_118 rfl rfl (by decide) rfl ?_
        refine g_goto (tgt := 31) S dX8_stand_121 (by decide) ?_
        refine Go.sub [1, 2, 3, 0] rfl ?_
        exact ih _ _ _ _ hf
def f_X8_stand_2 (z : Nat → Nat) : Nat → Mem → Int32 → Int32 → Int32 → Option Mem
  | 0, _, _, _, _ => none
  | fu + 1, M, x1, x2, x3 => if 200 < x3 then f_X8_stand_31 z 1000 M x1 x2 0 else ck (inb x3 201) (ck (inb x3 201) (lt (mu (mu M 18 (Int32.toNatClampNeg x3) 0) 19 (Int32.toNatClampNeg x3) 0) (fun M20 => f_X8_stand_2 z fu M20 x1 x2 (x3 + 1))))
theorem t_X8_stand_2 {K : KK} {a : AA} (S : Sx K RX8 cX8_stand 5 (rmD 3))  {M' : Mem} (rt : RtV K a cX8_stand M') : ∀ (fu : Nat) (M : Mem) (x1 : Int32) (x2 : Int32) (x3 : Int32), f_X8_stand_2 a.1 fu M x1 x2 x3 = some M' → Go K 5 a M 2 [(0, .ref (a.2 0)), (1, .int x1), (2, .int x2), (3, .int x3)] [] := by
  intro fu
  induction fu with
  | zero => intro M x1 x2 x3 hf; exact absurd hf (by simp [f_X8_stand_2])
  | succ fu ih =>
    intro M x1 x2 x3 hf
    rw [f_X8_stand_2] at hf
    refine g_iload_n 3 S dX8_stand_2 rfl ?_
    refine g_sipush (v := 200) S dX8_stand_3 rfl ?_
    refine g_icmp_gt (tgt := 29) S dX8_stand_6 (by decide) hf (fun c hf => ?_) (fun c hf => ?_)
    · refine g_iconst (v := 0) S dX8_stand_29 rfl ?_
      refine g_istore_n (lv' := [(3, .int 0), (0, .ref (a.2 0)), (1, .int x1), (2, .int x2)]) S dX8_stand_30 (by decide) rfl ?_
      refine Go.sub [1, 2, 3, 0] rfl ?_
      exact t_X8_stand_31  S rt 1000 _ _ _ _ hf
    · refine g_aload_n 0 S dX8_stand_9 rfl ?_
      refine g_get (v := .ref (a.2 18)) S ob_0 rfl gi_X8 (by decide) lf_X8_59 rfl dX8_stand_10 ?_
      refine g_iload_n 3 S dX8_stand_13 rfl ?_
      refine g_iconst (v := 0) S dX8_stand_14 rfl ?_
      refine g_iast S ia_18 dX8_stand_15 hf (fun hf => ?_)
      refine g_aload_n 0 S dX8_stand_16 rfl ?_
      refine g_get (v := .ref (a.2 19)) S ob_0 rfl gi_X8 (by decide) lf_X8_62 rfl dX8_stand_17 ?_
      refine g_iload_n 3 S dX8_stand_20 rfl ?_
      refine g_iconst (v := 0) S dX8_stand_21 rfl ?_
      refine g_iast S ia_19 dX8_stand_22 hf (fun hf => ?_)
      obtain ⟨M20, eM20, hf⟩ := lt_some hf
      refine Go.M eM20 ?_
      refine g_iinc (v := (x3 + 1)) (lv' := [(3, .int (x3 + 1)), (0, .ref (a.2 0)), (1, .int x1), (2, .int x2)]) 3 S dX8_stand_23 rfl rfl (by decide) rfl ?_
      refine g_goto (tgt := 2) S dX8_stand_26 (by decide) ?_
      refine Go.sub [1, 2, 3, 0] rfl ?_
      exact ih _ _ _ _ hf
def f_X8_stand (z : Nat → Nat) (M : Mem) (p1 : Int32) (p2 : Int32) : Option Mem := f_X8_stand_2 z 1000 M p1 p2 0
theorem c_X8_stand {l : Launch} {G : GG} {a : AA} {M : Mem} {p1 : Int32} {p2 : Int32}  {M' : Mem} (hf : f_X8_stand a.1 M p1 p2 = some M') : CtV l G a yX8_stand cX8_stand 5 (rmD 3) [.ref (a.2 0), .int p1, .int p2] M M' := by
  refine ct_V (by decide) rfl (own := RX8) (Nat.le_of_ble_eq_true rfl) (fun K hl hg S rt => ?_)
  subst hl; subst hg
  unfold f_X8_stand at hf
  show Go K 5 a M 0 [(0, .ref (a.2 0)), (1, .int p1), (2, .int p2)] []
  refine g_iconst (v := 0) S dX8_stand_0 rfl ?_
  refine g_istore_n (lv' := [(3, .int 0), (0, .ref (a.2 0)), (1, .int p1), (2, .int p2)]) S dX8_stand_1 (by decide) rfl ?_
  refine Go.sub [1, 2, 3, 0] rfl ?_
  exact t_X8_stand_2  S rt 1000 _ _ _ _ hf
-- BridleBookModel.strengthAt(II)I
theorem dX8_strengthAt_0 : decode cX8_strengthAt 0 = .ok (.aload_n 0, 1) := by decide +kernel
theorem dX8_strengthAt_1 : decode cX8_strengthAt 1 = .ok (.iload_n 1, 1) := by decide +kernel
theorem dX8_strengthAt_2 : decode cX8_strengthAt 2 = .ok (.iload_n 2, 1) := by decide +kernel
theorem dX8_strengthAt_3 : decode cX8_strengthAt 3 = .ok (.invokevirtual 167, 3) := by decide +kernel
theorem dX8_strengthAt_6 : decode cX8_strengthAt 6 = .ok (.ifCond .eq 16, 3) := by decide +kernel
theorem dX8_strengthAt_9 : decode cX8_strengthAt 9 = .ok (.aload_n 0, 1) := by decide +kernel
theorem dX8_strengthAt_10 : decode cX8_strengthAt 10 = .ok (.getfield 47, 3) := by decide +kernel
theorem dX8_strengthAt_13 : decode cX8_strengthAt 13 = .ok (.iload_n 1, 1) := by decide +kernel
theorem dX8_strengthAt_14 : decode cX8_strengthAt 14 = .ok (.iaload, 1) := by decide +kernel
theorem dX8_strengthAt_15 : decode cX8_strengthAt 15 = .ok (.iconst 3, 1) := by decide +kernel
theorem dX8_strengthAt_16 : decode cX8_strengthAt 16 = .ok (.imul, 1) := by decide +kernel
theorem dX8_strengthAt_17 : decode cX8_strengthAt 17 = .ok (.iconst 4, 1) := by decide +kernel
theorem dX8_strengthAt_18 : decode cX8_strengthAt 18 = .ok (.idiv, 1) := by decide +kernel
theorem dX8_strengthAt_19 : decode cX8_strengthAt 19 = .ok (.goto 9, 3) := by decide +kernel
theorem dX8_strengthAt_22 : decode cX8_strengthAt 22 = .ok (.aload_n 0, 1) := by decide +kernel
theorem dX8_strengthAt_23 : decode cX8_strengthAt 23 = .ok (.getfield 47, 3) := by decide +kernel
theorem dX8_strengthAt_26 : decode cX8_strengthAt 26 = .ok (.iload_n 1, 1) := by decide +kernel
theorem dX8_strengthAt_27 : decode cX8_strengthAt 27 = .ok (.iaload, 1) := by decide +kernel
theorem dX8_strengthAt_28 : decode cX8_strengthAt 28 = .ok (.ireturn, 1) := by decide +kernel
def f_X8_strengthAt (z : Nat → Nat) (M : Mem) (p1 : Int32) (p2 : Int32) : Option Int32 := bd1 (f_X8_isWeak z M p1 p2) (fun r1 => if r1 = true then ck (inb p1 10) (some (((M 14 (Int32.toNatClampNeg p1)) * 3) / 4)) else ck (inb p1 10) (some (M 14 (Int32.toNatClampNeg p1))))
theorem c_X8_strengthAt {l : Launch} {G : GG} {a : AA} {M : Mem} {p1 : Int32} {p2 : Int32} {r : Int32} (hf : f_X8_strengthAt a.1 M p1 p2 = some r) : CtI l G a yX8_strengthAt cX8_strengthAt 3 .int (rmD 1) [.ref (a.2 0), .int p1, .int p2] M r M := by
  refine ct_I (by decide) rfl rfl (own := RX8) (Nat.le_of_ble_eq_true rfl) (fun K hl hg S rt => ?_)
  subst hl; subst hg
  unfold f_X8_strengthAt at hf
  show Go K 3 a M 0 [(0, .ref (a.2 0)), (1, .int p1), (2, .int p2)] []
  refine g_aload_n 0 S dX8_strengthAt_0 rfl ?_
  refine g_iload_n 1 S dX8_strengthAt_1 rfl ?_
  refine g_iload_n 2 S dX8_strengthAt_2 rfl ?_
  obtain ⟨r1, hr1, hf⟩ := bd1_some hf
  refine g_cVI (st := []) S ob_0 rfl ok_X8_isWeak lk_X8_167 (c_X8_isWeak hr1) rfl rfl ⟨by decide, by decide⟩ (rmD_z _) (Nat.le_of_ble_eq_true rfl) dX8_strengthAt_3 ?_
  refine g_if_eqB (tgt := 22) S dX8_strengthAt_6 (by decide) hf (fun c hf => ?_) (fun c hf => ?_)
  · refine g_aload_n 0 S dX8_strengthAt_9 rfl ?_
    refine g_get (v := .ref (a.2 14)) S ob_0 rfl gi_X8 (by decide) lf_X8_47 rfl dX8_strengthAt_10 ?_
    refine g_iload_n 1 S dX8_strengthAt_13 rfl ?_
    refine g_iald S ia_14 dX8_strengthAt_14 hf (fun hf => ?_)
    refine g_iconst (v := 3) S dX8_strengthAt_15 rfl ?_
    refine g_imul S dX8_strengthAt_16 ?_
    refine g_iconst (v := 4) S dX8_strengthAt_17 rfl ?_
    refine g_idiv S dX8_strengthAt_18 (by decide) ?_
    refine g_goto (tgt := 28) S dX8_strengthAt_19 (by decide) ?_
    exact g_iretP rt hf dX8_strengthAt_28
  · refine g_aload_n 0 S dX8_strengthAt_22 rfl ?_
    refine g_get (v := .ref (a.2 14)) S ob_0 rfl gi_X8 (by decide) lf_X8_47 rfl dX8_strengthAt_23 ?_
    refine g_iload_n 1 S dX8_strengthAt_26 rfl ?_
    refine g_iald S ia_14 dX8_strengthAt_27 hf (fun hf => ?_)
    exact g_iretP rt hf dX8_strengthAt_28
