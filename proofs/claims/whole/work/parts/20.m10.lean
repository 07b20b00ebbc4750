-- BridleBookModel.partsAt(I)I
theorem dX8_partsAt_0 : decode cX8_partsAt 0 = .ok (.aload_n 0, 1) := by decide +kernel
theorem dX8_partsAt_1 : decode cX8_partsAt 1 = .ok (.iload_n 1, 1) := by decide +kernel
theorem dX8_partsAt_2 : decode cX8_partsAt 2 = .ok (.iconst (-1), 1) := by decide +kernel
theorem dX8_partsAt_3 : decode cX8_partsAt 3 = .ok (.invokevirtual 183, 3) := by decide +kernel
theorem dX8_partsAt_6 : decode cX8_partsAt 6 = .ok (.bipush (-2), 2) := by decide +kernel
theorem dX8_partsAt_8 : decode cX8_partsAt 8 = .ok (.istore_n 2, 1) := by decide +kernel
theorem dX8_partsAt_9 : decode cX8_partsAt 9 = .ok (.iconst 0, 1) := by decide +kernel
theorem dX8_partsAt_10 : decode cX8_partsAt 10 = .ok (.istore_n 3, 1) := by decide +kernel
theorem dX8_partsAt_11 : decode cX8_partsAt 11 = .ok (.iconst 1, 1) := by decide +kernel
theorem dX8_partsAt_12 : decode cX8_partsAt 12 = .ok (.istore 4, 2) := by decide +kernel
theorem dX8_partsAt_14 : decode cX8_partsAt 14 = .ok (.iload 4, 2) := by decide +kernel
theorem dX8_partsAt_16 : decode cX8_partsAt 16 = .ok (.aload_n 0, 1) := by decide +kernel
theorem dX8_partsAt_17 : decode cX8_partsAt 17 = .ok (.getfield 44, 3) := by decide +kernel
theorem dX8_partsAt_20 : decode cX8_partsAt 20 = .ok (.iload_n 1, 1) := by decide +kernel
theorem dX8_partsAt_21 : decode cX8_partsAt 21 = .ok (.iaload, 1) := by decide +kernel
theorem dX8_partsAt_22 : decode cX8_partsAt 22 = .ok (.if_icmp .gt 41, 3) := by decide +kernel
theorem dX8_partsAt_25 : decode cX8_partsAt 25 = .ok (.aload_n 0, 1) := by decide +kernel
theorem dX8_partsAt_26 : decode cX8_partsAt 26 = .ok (.getfield 65, 3) := by decide +kernel
theorem dX8_partsAt_29 : decode cX8_partsAt 29 = .ok (.iload 4, 2) := by decide +kernel
theorem dX8_partsAt_31 : decode cX8_partsAt 31 = .ok (.iaload, 1) := by decide +kernel
theorem dX8_partsAt_32 : decode cX8_partsAt 32 = .ok (.aload_n 0, 1) := by decide +kernel
theorem dX8_partsAt_33 : decode cX8_partsAt 33 = .ok (.iload_n 1, 1) := by decide +kernel
theorem dX8_partsAt_34 : decode cX8_partsAt 34 = .ok (.iload 4, 2) := by decide +kernel
theorem dX8_partsAt_36 : decode cX8_partsAt 36 = .ok (.invokevirtual 187, 3) := by decide +kernel
theorem dX8_partsAt_39 : decode cX8_partsAt 39 = .ok (.isub, 1) := by decide +kernel
theorem dX8_partsAt_40 : decode cX8_partsAt 40 = .ok (.istore 5, 2) := by decide +kernel
theorem dX8_partsAt_42 : decode cX8_partsAt 42 = .ok (.iload 5, 2) := by decide +kernel
theorem dX8_partsAt_44 : decode cX8_partsAt 44 = .ok (.iload_n 3, 1) := by decide +kernel
theorem dX8_partsAt_45 : decode cX8_partsAt 45 = .ok (.if_icmp .gt 6, 3) := by decide +kernel
theorem dX8_partsAt_48 : decode cX8_partsAt 48 = .ok (.goto 9, 3) := by decide +kernel
theorem dX8_partsAt_51 : decode cX8_partsAt 51 = .ok (.iload 5, 2) := by decide +kernel
theorem dX8_partsAt_53 : decode cX8_partsAt 53 = .ok (.istore_n 3, 1) := by decide +kernel
theorem dX8_partsAt_54 : decode cX8_partsAt 54 = .ok (.iload 4, 2) := by decide +kernel
theorem dX8_partsAt_56 : decode cX8_partsAt 56 = .ok (.istore_n 2, 1) := by decide +kernel
theorem dX8_partsAt_57 : decode cX8_partsAt 57 = .ok (.iinc 4 1, 3) := by decide +kernel
theorem dX8_partsAt_60 : decode cX8_partsAt 60 = .ok (.goto (-46), 3) := by decide +kernel
theorem dX8_partsAt_63 : decode cX8_partsAt 63 = .ok (.iload_n 2, 1) := by decide +kernel
theorem dX8_partsAt_64 : decode cX8_partsAt 64 = .ok (.ireturn, 1) := by decide +kernel
def f_X8_partsAt_14 (z : Nat → Nat) : Nat → Mem → Int32 → Int32 → Int32 → Int32 → Option (Int32 × Mem)
  | 0, _, _, _, _, _ => none
  | fu + 1, M, x1, x2, x3, x4 => ck (inb x1 10) (if (M 13 (Int32.toNatClampNeg x1)) < x4 then some (x2, M) else ck (inb x4 201) (bd1 (f_X8_strengthAt z M x1 x4) (fun r2 => if x3 < ((M 20 (Int32.toNatClampNeg x4)) - r2) then f_X8_partsAt_14 z fu M x1 x4 ((M 20 (Int32.toNatClampNeg x4)) - r2) (x4 + 1) else f_X8_partsAt_14 z fu M x1 x2 x3 (x4 + 1))))
theorem t_X8_partsAt_14 {K : KK} {a : AA} (S : Sx K RX8 cX8_partsAt 6 (rmD 4)) {r : Int32} {M' : Mem} (rt : RtI K a cX8_partsAt r M') : ∀ (fu : Nat) (M : Mem) (x1 : Int32) (x2 : Int32) (x3 : Int32) (x4 : Int32), f_X8_partsAt_14 a.1 fu M x1 x2 x3 x4 = some (r, M') → Go K 6 a M 14 [(0, .ref (a.2 0)), (1, .int x1), (2, .int x2), (3, .int x3), (4, .int x4)] [] := by
  intro fu
  induction fu with
  | zero => intro M x1 x2 x3 x4 hf; exact absurd hf (by simp [f_X8_partsAt_14])
  | succ fu ih =>
    intro M x1 x2 x3 x4 hf
    rw [f_X8_partsAt_14] at hf
    refine g_iload 4 S dX8_partsAt_14 rfl ?_
    refine g_aload_n 0 S dX8_partsAt_16 rfl ?_
    refine g_get (v := .ref (a.2 13)) S ob_0 rfl gi_X8 (by decide) lf_X8_44 rfl dX8_partsAt_17 ?_
    refine g_iload_n 1 S dX8_partsAt_20 rfl ?_
    refine g_iald S ia_13 dX8_partsAt_21 hf (fun hf => ?_)
    refine g_icmp_gt (tgt := 63) S dX8_partsAt_22 (by decide) hf (fun c hf => ?_) (fun c hf => ?_)
    · refine g_iload_n 2 S dX8_partsAt_63 rfl ?_
      exact g_iretM rt hf dX8_partsAt_64
    · refine g_aload_n 0 S dX8_partsAt_25 rfl ?_
      refine g_get (v := .ref (a.2 20)) S ob_0 rfl gi_X8 (by decide) lf_X8_65 rfl dX8_partsAt_26 ?_
      refine g_iload 4 S dX8_partsAt_29 rfl ?_
      refine g_iald S ia_20 dX8_partsAt_31 hf (fun hf => ?_)
      refine g_aload_n 0 S dX8_partsAt_32 rfl ?_
      refine g_iload_n 1 S dX8_partsAt_33 rfl ?_
      refine g_iload 4 S dX8_partsAt_34 rfl ?_
      obtain ⟨r2, hr2, hf⟩ := bd1_some hf
      refine g_cVI (st := [.int (M 20 (Int32.toNatClampNeg x4))]) S ob_0 rfl ok_X8_strengthAt lk_X8_187 (c_X8_strengthAt hr2) rfl rfl ⟨by decide, by decide⟩ (rmD_z _) (Nat.le_of_ble_eq_true rfl) dX8_partsAt_36 ?_
      refine g_isub S dX8_partsAt_39 ?_
      refine g_istore (lv' := [(5, .int ((M 20 (Int32.toNatClampNeg x4)) - r2)), (0, .ref (a.2 0)), (1, .int x1), (2, .int x2), (3, .int x3), (4, .int x4)]) S dX8_partsAt_40 (by decide) rfl ?_
      refine g_iload 0 S dX8_partsAt_42 rfl ?_
      refine g_iload_n 4 S dX8_partsAt_44 rfl ?_
      refine g_icmp_gt (tgt := 51) S dX8_partsAt_45 (by decide) hf (fun c hf => ?_) (fun c hf => ?_)
      · refine g_iload 0 S dX8_partsAt_51 rfl ?_
        refine g_istore_n (lv' := [(3, .int ((M 20 (Int32.toNatClampNeg x4)) - r2)), (5, .int ((M 20 (Int32.toNatClampNeg x4)) - r2)), (0, .ref (a.2 0)), (1, .int x1), (2, .int x2), (4, .int x4)]) S dX8_partsAt_53 (by decide) rfl ?_
        refine g_iload 5 S dX8_partsAt_54 rfl ?_
        refine g_istore_n (lv' := [(2, .int x4), (3, .int ((M 20 (Int32.toNatClampNeg x4)) - r2)), (5, .int ((M 20 (Int32.toNatClampNeg x4)) - r2)), (0, .ref (a.2 0)), (1, .int x1), (4, .int x4)]) S dX8_partsAt_56 (by decide) rfl ?_
        refine g_iinc (v := (x4 + 1)) (lv' := [(4, .int (x4 + 1)), (2, .int x4), (3, .int ((M 20 (Int32.toNatClampNeg x4)) - r2)), (5, .int ((M 20 (Int32.toNatClampNeg x4)) - r2)), (0, .ref (a.2 0)), (1, .int x1)]) 5 S dX8_partsAt_57 rfl rfl (by decide) rfl ?_
        refine g_goto (tgt := 14) S dX8_partsAt_60 (by decide) ?_
        refine Go.sub [4, 5, 1, 2, 0] rfl ?_
        exact ih _ _ _ _ _ hf
      · refine g_goto (tgt := 57) S dX8_partsAt_48 (by decide) ?_
        refine g_iinc (v := (x4 + 1)) (lv' := [(4, .int (x4 + 1)), (5, .int ((M 20 (Int32.toNatClampNeg x4)) - r2)), (0, .ref (a.2 0)), (1, .int x1), (2, .int x2), (3, .int x3)]) 5 S dX8_partsAt_57 rfl rfl (by decide) rfl ?_
        refine g_goto (tgt := 14) S dX8_partsAt_60 (by decide) ?_
        refine Go.sub [2, 3, 4, 5, 0] rfl ?_
        exact ih _ _ _ _ _ hf
def f_X8_partsAt (z : Nat → Nat) (M : Mem) (p1 : Int32) : Option (Int32 × Mem) := bd1 (f_X8_stand z M p1 (-1)) (fun M1 => f_X8_partsAt_14 z 1000 M1 p1 (-2) 0 1)
theorem c_X8_partsAt {l : Launch} {G : GG} {a : AA} {M : Mem} {p1 : Int32} {r : Int32} {M' : Mem} (hf : f_X8_partsAt a.1 M p1 = some (r, M')) : CtI l G a yX8_partsAt cX8_partsAt 6 .int (rmD 4) [.ref (a.2 0), .int p1] M r M' := by
  refine ct_I (by decide) rfl rfl (own := RX8) (Nat.le_of_ble_eq_true rfl) (fun K hl hg S rt => ?_)
  subst hl; subst hg
  unfold f_X8_partsAt at hf
  show Go K 6 a M 0 [(0, .ref (a.2 0)), (1, .int p1)] []
  refine g_aload_n 0 S dX8_partsAt_0 rfl ?_
  refine g_iload_n 1 S dX8_partsAt_1 rfl ?_
  refine g_iconst (v := (-1)) S dX8_partsAt_2 rfl ?_
  obtain ⟨M1, hM1, hf⟩ := bd1_some hf
  refine g_cVV (st := []) S ob_0 rfl ok_X8_stand lk_X8_183 (c_X8_stand hM1) rfl rfl ⟨by decide, by decide⟩ (rmD_z _) (Nat.le_of_ble_eq_true rfl) dX8_partsAt_3 ?_
  refine g_bipush (v := (-2)) S dX8_partsAt_6 rfl ?_
  refine g_istore_n (lv' := [(2, .int (-2)), (0, .ref (a.2 0)), (1, .int p1)]) S dX8_partsAt_8 (by decide) rfl ?_
  refine g_iconst (v := 0) S dX8_partsAt_9 rfl ?_
  refine g_istore_n (lv' := [(3, .int 0), (2, .int (-2)), (0, .ref (a.2 0)), (1, .int p1)]) S dX8_partsAt_10 (by decide) rfl ?_
  refine g_iconst (v := 1) S dX8_partsAt_11 rfl ?_
  refine g_istore (lv' := [(4, .int 1), (3, .int 0), (2, .int (-2)), (0, .ref (a.2 0)), (1, .int p1)]) S dX8_partsAt_12 (by decide) rfl ?_
  refine Go.sub [3, 4, 2, 1, 0] rfl ?_
  exact t_X8_partsAt_14  S rt 1000 _ _ _ _ _ hf
-- BridleBookModel.lifts(II)I
theorem dX8_lifts_0 : decode cX8_lifts 0 = .ok (.aload_n 0, 1) := by decide +kernel
theorem dX8_lifts_1 : decode cX8_lifts 1 = .ok (.getfield 44, 3) := by decide +kernel
theorem dX8_lifts_4 : decode cX8_lifts 4 = .ok (.iload_n 1, 1) := by decide +kernel
theorem dX8_lifts_5 : decode cX8_lifts 5 = .ok (.iaload, 1) := by decide +kernel
theorem dX8_lifts_6 : decode cX8_lifts 6 = .ok (.ifCond .ne 5, 3) := by decide +kernel
theorem dX8_lifts_9 : decode cX8_lifts 9 = .ok (.iconst 0, 1) := by decide +kernel
theorem dX8_lifts_10 : decode cX8_lifts 10 = .ok (.ireturn, 1) := by decide +kernel
theorem dX8_lifts_11 : decode cX8_lifts 11 = .ok (.aload_n 0, 1) := by decide +kernel
theorem dX8_lifts_12 : decode cX8_lifts 12 = .ok (.iload_n 1, 1) := by decide +kernel
theorem dX8_lifts_13 : decode cX8_lifts 13 = .ok (.iload_n 2, 1) := by decide +kernel
theorem dX8_lifts_14 : decode cX8_lifts 14 = .ok (.invokevirtual 183, 3) := by decide +kernel
theorem dX8_lifts_17 : decode cX8_lifts 17 = .ok (.aload_n 0, 1) := by decide +kernel
theorem dX8_lifts_18 : decode cX8_lifts 18 = .ok (.getfield 62, 3) := by decide +kernel
theorem dX8_lifts_21 : decode cX8_lifts 21 = .ok (.iconst 1, 1) := by decide +kernel
theorem dX8_lifts_22 : decode cX8_lifts 22 = .ok (.iaload, 1) := by decide +kernel
theorem dX8_lifts_23 : decode cX8_lifts 23 = .ok (.ireturn, 1) := by decide +kernel
def f_X8_lifts (z : Nat → Nat) (M : Mem) (p1 : Int32) (p2 : Int32) : Option (Int32 × Mem) := ck (inb p1 10) (if (M 13 (Int32.toNatClampNeg p1)) = 0 then some (0, M) else bd1 (f_X8_stand z M p1 p2) (fun M1 => ck (inb 1 201) (some ((M1 19 (Int32.toNatClampNeg 1)), M1))))
theorem c_X8_lifts {l : Launch} {G : GG} {a : AA} {M : Mem} {p1 : Int32} {p2 : Int32} {r : Int32} {M' : Mem} (hf : f_X8_lifts a.1 M p1 p2 = some (r, M')) : CtI l G a yX8_lifts cX8_lifts 3 .int (rmD 4) [.ref (a.2 0), .int p1, .int p2] M r M' := by
  refine ct_I (by decide) rfl rfl (own := RX8) (Nat.le_of_ble_eq_true rfl) (fun K hl hg S rt => ?_)
  subst hl; subst hg
  unfold f_X8_lifts at hf
  show Go K 3 a M 0 [(0, .ref (a.2 0)), (1, .int p1), (2, .int p2)] []
  refine g_aload_n 0 S dX8_lifts_0 rfl ?_
  refine g_get (v := .ref (a.2 13)) S ob_0 rfl gi_X8 (by decide) lf_X8_44 rfl dX8_lifts_1 ?_
  refine g_iload_n 1 S dX8_lifts_4 rfl ?_
  refine g_iald S ia_13 dX8_lifts_5 hf (fun hf => ?_)
  refine g_if_ne (tgt := 11) S dX8_lifts_6 (by decide) hf (fun c hf => ?_) (fun c hf => ?_)
  · refine g_iconst (v := 0) S dX8_lifts_9 rfl ?_
    exact g_iretM rt hf dX8_lifts_10
  · refine g_aload_n 0 S dX8_lifts_11 rfl ?_
    refine g_iload_n 1 S dX8_lifts_12 rfl ?_
    refine g_iload_n 2 S dX8_lifts_13 rfl ?_
    obtain ⟨M1, hM1, hf⟩ := bd1_some hf
    refine g_cVV (st := []) S ob_0 rfl ok_X8_stand lk_X8_183 (c_X8_stand hM1) rfl rfl ⟨by decide, by decide⟩ (rmD_z _) (Nat.le_of_ble_eq_true rfl) dX8_lifts_14 ?_
    refine g_aload_n 0 S dX8_lifts_17 rfl ?_
    refine g_get (v := .ref (a.2 19)) S ob_0 rfl gi_X8 (by decide) lf_X8_62 rfl dX8_lifts_18 ?_
    refine g_iconst (v := 1) S dX8_lifts_21 rfl ?_
    refine g_iald S ia_19 dX8_lifts_22 hf (fun hf => ?_)
    exact g_iretM rt hf dX8_lifts_23
-- BridleBookModel.ofLine(II)I
theorem dX8_ofLine_0 : decode cX8_ofLine 0 = .ok (.aload_n 0, 1) := by decide +kernel
theorem dX8_ofLine_1 : decode cX8_ofLine 1 = .ok (.iload_n 1, 1) := by decide +kernel
theorem dX8_ofLine_2 : decode cX8_ofLine 2 = .ok (.invokevirtual 157, 3) := by decide +kernel
theorem dX8_ofLine_5 : decode cX8_ofLine 5 = .ok (.ifCond .ne 6, 3) := by decide +kernel
theorem dX8_ofLine_8 : decode cX8_ofLine 8 = .ok (.ldc 119, 2) := by decide +kernel
theorem dX8_ofLine_10 : decode cX8_ofLine 10 = .ok (.ireturn, 1) := by decide +kernel
theorem dX8_ofLine_11 : decode cX8_ofLine 11 = .ok (.iload_n 2, 1) := by decide +kernel
theorem dX8_ofLine_12 : decode cX8_ofLine 12 = .ok (.tableswitch 77 0 4 #[36, 43, 49, 56, 63], 36) := by decide +kernel
theorem dX8_ofLine_48 : decode cX8_ofLine 48 = .ok (.aload_n 0, 1) := by decide +kernel
theorem dX8_ofLine_49 : decode cX8_ofLine 49 = .ok (.getfield 44, 3) := by decide +kernel
theorem dX8_ofLine_52 : decode cX8_ofLine 52 = .ok (.iload_n 1, 1) := by decide +kernel
theorem dX8_ofLine_53 : decode cX8_ofLine 53 = .ok (.iaload, 1) := by decide +kernel
theorem dX8_ofLine_54 : decode cX8_ofLine 54 = .ok (.ireturn, 1) := by decide +kernel
theorem dX8_ofLine_55 : decode cX8_ofLine 55 = .ok (.aload_n 0, 1) := by decide +kernel
theorem dX8_ofLine_56 : decode cX8_ofLine 56 = .ok (.iload_n 1, 1) := by decide +kernel
theorem dX8_ofLine_57 : decode cX8_ofLine 57 = .ok (.invokevirtual 164, 3) := by decide +kernel
theorem dX8_ofLine_60 : decode cX8_ofLine 60 = .ok (.ireturn, 1) := by decide +kernel
theorem dX8_ofLine_61 : decode cX8_ofLine 61 = .ok (.aload_n 0, 1) := by decide +kernel
theorem dX8_ofLine_62 : decode cX8_ofLine 62 = .ok (.getfield 53, 3) := by decide +kernel
theorem dX8_ofLine_65 : decode cX8_ofLine 65 = .ok (.iload_n 1, 1) := by decide +kernel
theorem dX8_ofLine_66 : decode cX8_ofLine 66 = .ok (.iaload, 1) := by decide +kernel
theorem dX8_ofLine_67 : decode cX8_ofLine 67 = .ok (.ireturn, 1) := by decide +kernel
theorem dX8_ofLine_68 : decode cX8_ofLine 68 = .ok (.aload_n 0, 1) := by decide +kernel
theorem dX8_ofLine_69 : decode cX8_ofLine 69 = .ok (.iload_n 1, 1) := by decide +kernel
theorem dX8_ofLine_70 : decode cX8_ofLine 70 = .ok (.iconst (-1), 1) := by decide +kernel
theorem dX8_ofLine_71 : decode cX8_ofLine 71 = .ok (.invokevirtual 190, 3) := by decide +kernel
theorem dX8_ofLine_74 : decode cX8_ofLine 74 = .ok (.ireturn, 1) := by decide +kernel
theorem dX8_ofLine_75 : decode cX8_ofLine 75 = .ok (.aload_n 0, 1) := by decide +kernel
theorem dX8_ofLine_76 : decode cX8_ofLine 76 = .ok (.iload_n 1, 1) := by decide +kernel
theorem dX8_ofLine_77 : decode cX8_ofLine 77 = .ok (.invokevirtual 193, 3) := by decide +kernel
theorem dX8_ofLine_80 : decode cX8_ofLine 80 = .ok (.ifCond .ge 7, 3) := by decide +kernel
theorem dX8_ofLine_83 : decode cX8_ofLine 83 = .ok (.iconst 0, 1) := by decide +kernel
theorem dX8_ofLine_84 : decode cX8_ofLine 84 = .ok (.goto 4, 3) := by decide +kernel
theorem dX8_ofLine_87 : decode cX8_ofLine 87 = .ok (.iconst 1, 1) := by decide +kernel
theorem dX8_ofLine_88 : decode cX8_ofLine 88 = .ok (.ireturn, 1) := by decide +kernel
theorem dX8_ofLine_89 : decode cX8_ofLine 89 = .ok (.ldc 119, 2) := by decide +kernel
theorem dX8_ofLine_91 : decode cX8_ofLine 91 = .ok (.ireturn, 1) := by decide +kernel
def f_X8_ofLine (z : Nat → Nat) (M : Mem) (p1 : Int32) (p2 : Int32) : Option (Int32 × Mem) := bd1 (f_X8_isLine z M p1) (fun r1 => if r1 = true then if p2 = 0 then ck (inb p1 10) (some ((M 13 (Int32.toNatClampNeg p1)), M)) else if p2 = 1 then bd1 (f_X8_kitesOn z M p1) (fun r2 => some (r2, M)) else if p2 = 2 then ck (inb p1 10) (some ((M 16 (Int32.toNatClampNeg p1)), M)) else if p2 = 3 then bd2 (f_X8_lifts z M p1 (-1)) (fun r3 M4 => some (r3, M4)) else if p2 = 4 then bd2 (f_X8_partsAt z M p1) (fun r5 M6 => if 0 ≤ r5 then some (1, M6) else some (0, M6)) else (some ((-2000000000), M)) else some ((-2000000000), M))
theorem c_X8_ofLine {l : Launch} {G : GG} {a : AA} {M : Mem} {p1 : Int32} {p2 : Int32} {r : Int32} {M' : Mem} (hf : f_X8_ofLine a.1 M p1 p2 = some (r, M')) : CtI l G a yX8_ofLine cX8_ofLine 3 .int (rmD 5) [.ref (a.2 0), .int p1, .int p2] M r M' := by
  refine ct_I (by decide) rfl rfl (own := RX8) (Nat.le_of_ble_eq_true rfl) (fun K hl hg S rt => ?_)
  subst hl; subst hg
  unfold f_X8_ofLine at hf
  show Go K 3 a M 0 [(0, .ref (a.2 0)), (1, .int p1), (2, .int p2)] []
  refine g_aload_n 0 S dX8_ofLine_0 rfl ?_
  refine g_iload_n 1 S dX8_ofLine_1 rfl ?_
  obtain ⟨r1, hr1, hf⟩ := bd1_some hf
  refine g_cVI (st := []) S ob_0 rfl ok_X8_isLine lk_X8_157 (c_X8_isLine hr1) rfl rfl ⟨by decide, by decide⟩ (rmD_z _) (Nat.le_of_ble_eq_true rfl) dX8_ofLine_2 ?_
  refine g_if_neB (tgt := 11) S dX8_ofLine_5 (by decide) hf (fun c hf => ?_) (fun c hf => ?_)
  · refine g_iload_n 2 S dX8_ofLine_11 rfl ?_
    refine sp_if hf (fun c0 hf => ?_) (fun c0 hf => ?_)
    · refine g_tabIn (tgt := 48) 0 S dX8_ofLine_12 c0 (by decide) (by decide) rfl (by decide) ?_
      refine g_aload_n 0 S dX8_ofLine_48 rfl ?_
      refine g_get (v := .ref (a.2 13)) S ob_0 rfl gi_X8 (by decide) lf_X8_44 rfl dX8_ofLine_49 ?_
      refine g_iload_n 1 S dX8_ofLine_52 rfl ?_
      refine g_iald S ia_13 dX8_ofLine_53 hf (fun hf => ?_)
      exact g_iretM rt hf dX8_ofLine_54
    refine sp_if hf (fun c1 hf => ?_) (fun c1 hf => ?_)
    · refine g_tabIn (tgt := 55) 1 S dX8_ofLine_12 c1 (by decide) (by decide) rfl (by decide) ?_
      refine g_aload_n 0 S dX8_ofLine_55 rfl ?_
      refine g_iload_n 1 S dX8_ofLine_56 rfl ?_
      obtain ⟨r2, hr2, hf⟩ := bd1_some hf
      refine g_cVI (st := []) S ob_0 rfl ok_X8_kitesOn lk_X8_164 (c_X8_kitesOn hr2) rfl rfl ⟨by decide, by decide⟩ (rmD_z _) (Nat.le_of_ble_eq_true rfl) dX8_ofLine_57 ?_
      exact g_iretM rt hf dX8_ofLine_60
    refine sp_if hf (fun c2 hf => ?_) (fun c2 hf => ?_)
    · refine g_tabIn (tgt := 61) 2 S dX8_ofLine_12 c2 (by decide) (by decide) rfl (by decide) ?_
      refine g_aload_n 0 S dX8_ofLine_61 rfl ?_
      refine g_get (v := .ref (a.2 16)) S ob_0 rfl gi_X8 (by decide) lf_X8_53 rfl dX8_ofLine_62 ?_
      refine g_iload_n 1 S dX8_ofLine_65 rfl ?_
      refine g_iald S ia_16 dX8_ofLine_66 hf (fun hf => ?_)
      exact g_iretM rt hf dX8_ofLine_67
    refine sp_if hf (fun c3 hf => ?_) (fun c3 hf => ?_)
    · refine g_tabIn (tgt := 68) 3 S dX8_ofLine_12 c3 (by decide) (by decide) rfl (by decide) ?_
      refine g_aload_n 0 S dX8_ofLine_68 rfl ?_
      refine g_iload_n 1 S dX8_ofLine_69 rfl ?_
      refine g_iconst (v := (-1)) S dX8_ofLine_70 rfl ?_
      obtain ⟨r3, M4, hr3, hf⟩ := bd2_some hf
      refine g_cVI (st := []) S ob_0 rfl ok_X8_lifts lk_X8_190 (c_X8_lifts hr3) rfl rfl ⟨by decide, by decide⟩ (rmD_z _) (Nat.le_of_ble_eq_true rfl) dX8_ofLine_71 ?_
      exact g_iretM rt hf dX8_ofLine_74
    refine sp_if hf (fun c4 hf => ?_) (fun c4 hf => ?_)
    · refine g_tabIn (tgt := 75) 4 S dX8_ofLine_12 c4 (by decide) (by decide) rfl (by decide) ?_
      refine g_aload_n 0 S dX8_ofLine_75 rfl ?_
      refine g_iload_n 1 S dX8_ofLine_76 rfl ?_
      obtain ⟨r5, M6, hr5, hf⟩ := bd2_some hf
      refine g_cVI (st := []) S ob_0 rfl ok_X8_partsAt lk_X8_193 (c_X8_partsAt hr5) rfl rfl ⟨by decide, by decide⟩ (rmD_z _) (Nat.le_of_ble_eq_true rfl) dX8_ofLine_77 ?_
      refine g_if_ge (tgt := 87) S dX8_ofLine_80 (by decide) hf (fun c hf => ?_) (fun c hf => ?_)
      · refine g_iconst (v := 1) S dX8_ofLine_87 rfl ?_
        exact g_iretM rt hf dX8_ofLine_88
      · refine g_iconst (v := 0) S dX8_ofLine_83 rfl ?_
        refine g_goto (tgt := 88) S dX8_ofLine_84 (by decide) ?_
        exact g_iretM rt hf dX8_ofLine_88
    refine g_tabOut (tgt := 89) S dX8_ofLine_12 (by have := sw_ne c0; simp only [show ((0 : Int32).toInt) = 0 from by decide] at this; have := sw_ne c1; simp only [show ((1 : Int32).toInt) = 1 from by decide] at this; have := sw_ne c2; simp only [show ((2 : Int32).toInt) = 2 from by decide] at this; have := sw_ne c3; simp only [show ((3 : Int32).toInt) = 3 from by decide] at this; have := sw_ne c4; simp only [show ((4 : Int32).toInt) = 4 from by decide] at this; omega) (by decide) ?_
    refine g_ldc S lc_X8_119 dX8_ofLine_89 ?_
    exact g_iretM rt hf dX8_ofLine_91
  · refine g_ldc S lc_X8_119 dX8_ofLine_8 ?_
    exact g_iretM rt hf dX8_ofLine_10
-- BridleBookModel.step(III)I
theorem dX8_step_0 : decode cX8_step 0 = .ok (.aload_n 0, 1) := by decide +kernel
theorem dX8_step_1 : decode cX8_step 1 = .ok (.iload_n 1, 1) := by decide +kernel
theorem dX8_step_2 : decode cX8_step 2 = .ok (.invokevirtual 157, 3) := by decide +kernel
theorem dX8_step_5 : decode cX8_step 5 = .ok (.ifCond .eq 12, 3) := by decide +kernel
theorem dX8_step_8 : decode cX8_step 8 = .ok (.aload_n 0, 1) := by decide +kernel
theorem dX8_step_9 : decode cX8_step 9 = .ok (.iload_n 1, 1) := by decide +kernel
theorem dX8_step_10 : decode cX8_step 10 = .ok (.iload_n 2, 1) := by decide +kernel
theorem dX8_step_11 : decode cX8_step 11 = .ok (.invokevirtual 160, 3) := by decide +kernel
theorem dX8_step_14 : decode cX8_step 14 = .ok (.ifCond .ne 6, 3) := by decide +kernel
theorem dX8_step_17 : decode cX8_step 17 = .ok (.ldc 119, 2) := by decide +kernel
theorem dX8_step_19 : decode cX8_step 19 = .ok (.ireturn, 1) := by decide +kernel
theorem dX8_step_20 : decode cX8_step 20 = .ok (.aload_n 0, 1) := by decide +kernel
theorem dX8_step_21 : decode cX8_step 21 = .ok (.iload_n 1, 1) := by decide +kernel
theorem dX8_step_22 : decode cX8_step 22 = .ok (.iconst (-1), 1) := by decide +kernel
theorem dX8_step_23 : decode cX8_step 23 = .ok (.invokevirtual 183, 3) := by decide +kernel
theorem dX8_step_26 : decode cX8_step 26 = .ok (.iload_n 3, 1) := by decide +kernel
theorem dX8_step_27 : decode cX8_step 27 = .ok (.tableswitch 79 0 5 #[37, 44, 51, 58, 65, 72], 37) := by decide +kernel
theorem dX8_step_64 : decode cX8_step 64 = .ok (.aload_n 0, 1) := by decide +kernel
theorem dX8_step_65 : decode cX8_step 65 = .ok (.getfield 59, 3) := by decide +kernel
theorem dX8_step_68 : decode cX8_step 68 = .ok (.iload_n 2, 1) := by decide +kernel
theorem dX8_step_69 : decode cX8_step 69 = .ok (.iaload, 1) := by decide +kernel
theorem dX8_step_70 : decode cX8_step 70 = .ok (.ireturn, 1) := by decide +kernel
theorem dX8_step_71 : decode cX8_step 71 = .ok (.aload_n 0, 1) := by decide +kernel
theorem dX8_step_72 : decode cX8_step 72 = .ok (.getfield 62, 3) := by decide +kernel
theorem dX8_step_75 : decode cX8_step 75 = .ok (.iload_n 2, 1) := by decide +kernel
theorem dX8_step_76 : decode cX8_step 76 = .ok (.iaload, 1) := by decide +kernel
theorem dX8_step_77 : decode cX8_step 77 = .ok (.ireturn, 1) := by decide +kernel
theorem dX8_step_78 : decode cX8_step 78 = .ok (.aload_n 0, 1) := by decide +kernel
theorem dX8_step_79 : decode cX8_step 79 = .ok (.getfield 65, 3) := by decide +kernel
theorem dX8_step_82 : decode cX8_step 82 = .ok (.iload_n 2, 1) := by decide +kernel
theorem dX8_step_83 : decode cX8_step 83 = .ok (.iaload, 1) := by decide +kernel
theorem dX8_step_84 : decode cX8_step 84 = .ok (.ireturn, 1) := by decide +kernel
theorem dX8_step_85 : decode cX8_step 85 = .ok (.aload_n 0, 1) := by decide +kernel
theorem dX8_step_86 : decode cX8_step 86 = .ok (.getfield 68, 3) := by decide +kernel
theorem dX8_step_89 : decode cX8_step 89 = .ok (.iload_n 2, 1) := by decide +kernel
theorem dX8_step_90 : decode cX8_step 90 = .ok (.iaload, 1) := by decide +kernel
theorem dX8_step_91 : decode cX8_step 91 = .ok (.ireturn, 1) := by decide +kernel
theorem dX8_step_92 : decode cX8_step 92 = .ok (.aload_n 0, 1) := by decide +kernel
theorem dX8_step_93 : decode cX8_step 93 = .ok (.getfield 71, 3) := by decide +kernel
theorem dX8_step_96 : decode cX8_step 96 = .ok (.iload_n 2, 1) := by decide +kernel
theorem dX8_step_97 : decode cX8_step 97 = .ok (.iaload, 1) := by decide +kernel
theorem dX8_step_98 : decode cX8_step 98 = .ok (.ireturn, 1) := by decide +kernel
theorem dX8_step_99 : decode cX8_step 99 = .ok (.aload_n 0, 1) := by decide +kernel
theorem dX8_step_100 : decode cX8_step 100 = .ok (.iload_n 1, 1) := by decide +kernel
theorem dX8_step_101 : decode cX8_step 101 = .ok (.iload_n 2, 1) := by decide +kernel
theorem dX8_step_102 : decode cX8_step 102 = .ok (.invokevirtual 187, 3) := by decide +kernel
theorem dX8_step_105 : decode cX8_step 105 = .ok (.ireturn, 1) := by decide +kernel
theorem dX8_step_106 : decode cX8_step 106 = .ok (.ldc 119, 2) := by decide +kernel
theorem dX8_step_108 : decode cX8_step 108 = .ok (.ireturn, 1) := by decide +kernel
def f_X8_step (z : Nat → Nat) (M : Mem) (p1 : Int32) (p2 : Int32) (p3 : Int32) : Option (Int32 × Mem) := bd1 (f_X8_isLine z M p1) (fun r1 => if r1 = true then bd1 (f_X8_isStep z M p1 p2) (fun r2 => if r2 = true then bd1 (f_X8_stand z M p1 (-1)) (fun M3 => if p3 = 0 then ck (inb p2 201) (some ((M3 18 (Int32.toNatClampNeg p2)), M3)) else if p3 = 1 then ck (inb p2 201) (some ((M3 19 (Int32.toNatClampNeg p2)), M3)) else if p3 = 2 then ck (inb p2 201) (some ((M3 20 (Int32.toNatClampNeg p2)), M3)) else if p3 = 3 then ck (inb p2 201) (some ((M3 21 (Int32.toNatClampNeg p2)), M3)) else if p3 = 4 then ck (inb p2 201) (some ((M3 22 (Int32.toNatClampNeg p2)), M3)) else if p3 = 5 then bd1 (f_X8_strengthAt z M3 p1 p2) (fun r4 => some (r4, M3)) else (some ((-2000000000), M3))) else some ((-2000000000), M)) else some ((-2000000000), M))
theorem c_X8_step {l : Launch} {G : GG} {a : AA} {M : Mem} {p1 : Int32} {p2 : Int32} {p3 : Int32} {r : Int32} {M' : Mem} (hf : f_X8_step a.1 M p1 p2 p3 = some (r, M')) : CtI l G a yX8_step cX8_step 4 .int (rmD 4) [.ref (a.2 0), .int p1, .int p2, .int p3] M r M' := by
  refine ct_I (by decide) rfl rfl (own := RX8) (Nat.le_of_ble_eq_true rfl) (fun K hl hg S rt => ?_)
  subst hl; subst hg
  unfold f_X8_step at hf
  show Go K 4 a M 0 [(0, .ref (a.2 0)), (1, .int p1), (2, .int p2), (3, .int p3)] []
  refine g_aload_n 0 S dX8_step_0 rfl ?_
  refine g_iload_n 1 S dX8_step_1 rfl ?_
  obtain ⟨r1, hr1, hf⟩ := bd1_some hf
  refine g_cVI (st := []) S ob_0 rfl ok_X8_isLine lk_X8_157 (c_X8_isLine hr1) rfl rfl ⟨by decide, by decide⟩ (rmD_z _) (Nat.le_of_ble_eq_true rfl) dX8_step_2 ?_
  refine g_if_eqB (tgt := 17) S dX8_step_5 (by decide) hf (fun c hf => ?_) (fun c hf => ?_)
  · refine g_aload_n 0 S dX8_step_8 rfl ?_
    refine g_iload_n 1 S dX8_step_9 rfl ?_
    refine g_iload_n 2 S dX8_step_10 rfl ?_
    obtain ⟨r2, hr2, hf⟩ := bd1_some hf
    refine g_cVI (st := []) S ob_0 rfl ok_X8_isStep lk_X8_160 (c_X8_isStep hr2) rfl rfl ⟨by decide, by decide⟩ (rmD_z _) (Nat.le_of_ble_eq_true rfl) dX8_step_11 ?_
    refine g_if_neB (tgt := 20) S dX8_step_14 (by decide) hf (fun c hf => ?_) (fun c hf => ?_)
    · refine g_aload_n 0 S dX8_step_20 rfl ?_
      refine g_iload_n 1 S dX8_step_21 rfl ?_
      refine g_iconst (v := (-1)) S dX8_step_22 rfl ?_
      obtain ⟨M3, hM3, hf⟩ := bd1_some hf
      refine g_cVV (st := []) S ob_0 rfl ok_X8_stand lk_X8_183 (c_X8_stand hM3) rfl rfl ⟨by decide, by decide⟩ (rmD_z _) (Nat.le_of_ble_eq_true rfl) dX8_step_23 ?_
      refine g_iload_n 3 S dX8_step_26 rfl ?_
      refine sp_if hf (fun c0 hf => ?_) (fun c0 hf => ?_)
      · refine g_tabIn (tgt := 64) 0 S dX8_step_27 c0 (by decide) (by decide) rfl (by decide) ?_
        refine g_aload_n 0 S dX8_step_64 rfl ?_
        refine g_get (v := .ref (a.2 18)) S ob_0 rfl gi_X8 (by decide) lf_X8_59 rfl dX8_step_65 ?_
        refine g_iload_n 2 S dX8_step_68 rfl ?_
        refine g_iald S ia_18 dX8_step_69 hf (fun hf => ?_)
        exact g_iretM rt hf dX8_step_70
      refine sp_if hf (fun c1 hf => ?_) (fun c1 hf => ?_)
      · refine g_tabIn (tgt := 71) 1 S dX8_step_27 c1 (by decide) (by decide) rfl (by decide) ?_
        refine g_aload_n 0 S dX8_step_71 rfl ?_
        refine g_get (v := .ref (a.2 19)) S ob_0 rfl gi_X8 (by decide) lf_X8_62 rfl dX8_step_72 ?_
        refine g_iload_n 2 S dX8_step_75 rfl ?_
        refine g_iald S ia_19 dX8_step_76 hf (fun hf => ?_)
        exact g_iretM rt hf dX8_step_77
      refine sp_if hf (fun c2 hf => ?_) (fun c2 hf => ?_)
      · refine g_tabIn (tgt := 78) 2 S dX8_step_27 c2 (by decide) (by decide) rfl (by decide) ?_
        refine g_aload_n 0 S dX8_step_78 rfl ?_
        refine g_get (v := .ref (a.2 20)) S ob_0 rfl gi_X8 (by decide) lf_X8_65 rfl dX8_step_79 ?_
        refine g_iload_n 2 S dX8_step_82 rfl ?_
        refine g_iald S ia_20 dX8_step_83 hf (fun hf => ?_)
        exact g_iretM rt hf dX8_step_84
      refine sp_if hf (fun c3 hf => ?_) (fun c3 hf => ?_)
      · refine g_tabIn (tgt := 85) 3 S dX8_step_27 c3 (by decide) (by decide) rfl (by decide) ?_
        refine g_aload_n 0 S dX8_step_85 rfl ?_
        refine g_get (v := .ref (a.2 21)) S ob_0 rfl gi_X8 (by decide) lf_X8_68 rfl dX8_step_86 ?_
        refine g_iload_n 2 S dX8_step_89 rfl ?_
        refine g_iald S ia_21 dX8_step_90 hf (fun hf => ?_)
        exact g_iretM rt hf dX8_step_91
      refine sp_if hf (fun c4 hf => ?_) (fun c4 hf => ?_)
      · refine g_tabIn (tgt := 92) 4 S dX8_step_27 c4 (by decide) (by decide) rfl (by decide) ?_
        refine g_aload_n 0 S dX8_step_92 rfl ?_
        refine g_get (v := .ref (a.2 22)) S ob_0 rfl gi_X8 (by decide) lf_X8_71 rfl dX8_step_93 ?_
        refine g_iload_n 2 S dX8_step_96 rfl ?_
        refine g_iald S ia_22 dX8_step_97 hf (fun hf => ?_)
        exact g_iretM rt hf dX8_step_98
      refine sp_if hf (fun c5 hf => ?_) (fun c5 hf => ?_)
      · refine g_tabIn (tgt := 99) 5 S dX8_step_27 c5 (by decide) (by decide) rfl (by decide) ?_
        refine g_aload_n 0 S dX8_step_99 rfl ?_
        refine g_iload_n 1 S dX8_step_100 rfl ?_
        refine g_iload_n 2 S dX8_step_101 rfl ?_
        obtain ⟨r4, hr4, hf⟩ := bd1_some hf
        refine g_cVI (st := []) S ob_0 rfl ok_X8_strengthAt lk_X8_187 (c_X8_strengthAt hr4) rfl rfl ⟨by decide, by decide⟩ (rmD_z _) (Nat.le_of_ble_eq_true rfl) dX8_step_102 ?_
        exact g_iretM rt hf dX8_step_105
      refine g_tabOut (tgt := 106) S dX8_step_27 (by have := sw_ne c0; simp only [show ((0 : Int32).toInt) = 0 from by decide] at this; have := sw_ne c1; simp only [show ((1 : Int32).toInt) = 1 from by decide] at this; have := sw_ne c2; simp only [show ((2 : Int32).toInt) = 2 from by decide] at this; have := sw_ne c3; simp only [show ((3 : Int32).toInt) = 3 from by decide] at this; have := sw_ne c4; simp only [show ((4 : Int32).toInt) = 4 from by decide] at this; have := sw_ne c5; simp only [show ((5 : Int32).toInt) = 5 from by decide] at this; omega) (by decide) ?_
      refine g_ldc S lc_X8_119 dX8_step_106 ?_
      exact g_iretM rt hf dX8_step_108
    · refine g_ldc S lc_X8_119 dX8_step_17 ?_
      exact g_iretM rt hf dX8_step_19
  · refine g_ldc S lc_X8_119 dX8_step_17 ?_
    exact g_iretM rt hf dX8_step_19
-- BridleBookModel.end(II)V
theorem dX8_end_0 : decode cX8_end 0 = .ok (.aload_n 0, 1) := by decide +kernel
theorem dX8_end_1 : decode cX8_end 1 = .ok (.getfield 44, 3) := by decide +kernel
theorem dX8_end_4 : decode cX8_end 4 = .ok (.iload_n 1, 1) := by decide +kernel
theorem dX8_end_5 : decode cX8_end 5 = .ok (.iload_n 2, 1) := by decide +kernel
theorem dX8_end_6 : decode cX8_end 6 = .ok (.iconst 1, 1) := by decide +kernel
theorem dX8_end_7 : decode cX8_end 7 = .ok (.isub, 1) := by decide +kernel
theorem dX8_end_8 : decode cX8_end 8 = .ok (.iastore, 1) := by decide +kernel
theorem dX8_end_9 : decode cX8_end 9 = .ok (.iconst 0, 1) := by decide +kernel
theorem dX8_end_10 : decode cX8_end 10 = .ok (.istore_n 3, 1) := by decide +kernel
theorem dX8_end_11 : decode cX8_end 11 = .ok (.iload_n 3, 1) := by decide +kernel
theorem dX8_end_12 : decode cX8_end 12 = .ok (.aload_n 0, 1) := by decide +kernel
theorem dX8_end_13 : decode cX8_end 13 = .ok (.getfield 108, 3) := by decide +kernel
theorem dX8_end_16 : decode cX8_end 16 = .ok (.if_icmp .ge 36, 3) := by decide +kernel
theorem dX8_end_19 : decode cX8_end 19 = .ok (.aload_n 0, 1) := by decide +kernel
theorem dX8_end_20 : decode cX8_end 20 = .ok (.getfield 29, 3) := by decide +kernel
theorem dX8_end_23 : decode cX8_end 23 = .ok (.iload_n 3, 1) := by decide +kernel
theorem dX8_end_24 : decode cX8_end 24 = .ok (.iaload, 1) := by decide +kernel
theorem dX8_end_25 : decode cX8_end 25 = .ok (.iload_n 1, 1) := by decide +kernel
theorem dX8_end_26 : decode cX8_end 26 = .ok (.if_icmp .ne 20, 3) := by decide +kernel
theorem dX8_end_29 : decode cX8_end 29 = .ok (.aload_n 0, 1) := by decide +kernel
theorem dX8_end_30 : decode cX8_end 30 = .ok (.getfield 32, 3) := by decide +kernel
theorem dX8_end_33 : decode cX8_end 33 = .ok (.iload_n 3, 1) := by decide +kernel
theorem dX8_end_34 : decode cX8_end 34 = .ok (.iaload, 1) := by decide +kernel
theorem dX8_end_35 : decode cX8_end 35 = .ok (.iload_n 2, 1) := by decide +kernel
theorem dX8_end_36 : decode cX8_end 36 = .ok (.if_icmp .lt 10, 3) := by decide +kernel
theorem dX8_end_39 : decode cX8_end 39 = .ok (.aload_n 0, 1) := by decide +kernel
theorem dX8_end_40 : decode cX8_end 40 = .ok (.getfield 29, 3) := by decide +kernel
theorem dX8_end_43 : decode cX8_end 43 = .ok (.iload_n 3, 1) := by decide +kernel
theorem dX8_end_44 : decode cX8_end 44 = .ok (.iconst (-1), 1) := by decide +kernel
theorem dX8_end_45 : decode cX8_end 45 = .ok (.iastore, 1) := by decide +kernel
theorem dX8_end_46 : decode cX8_end 46 = .ok (.iinc 3 1, 3) := by decide +kernel
theorem dX8_end_49 : decode cX8_end 49 = .ok (.goto (-38), 3) := by decide +kernel
theorem dX8_end_52 : decode cX8_end 52 = .ok (.iconst 0, 1) := by decide +kernel
theorem dX8_end_53 : decode cX8_end 53 = .ok (.istore_n 3, 1) := by decide +kernel
theorem dX8_end_54 : decode cX8_end 54 = .ok (.iconst 0, 1) := by decide +kernel
theorem dX8_end_55 : decode cX8_end 55 = .ok (.istore 4, 2) := by decide +kernel
theorem dX8_end_57 : decode cX8_end 57 = .ok (.iload 4, 2) := by decide +kernel
theorem dX8_end_59 : decode cX8_end 59 = .ok (.aload_n 0, 1) := by decide +kernel
theorem dX8_end_60 : decode cX8_end 60 = .ok (.getfield 53, 3) := by decide +kernel
theorem dX8_end_63 : decode cX8_end 63 = .ok (.iload_n 1, 1) := by decide +kernel
theorem dX8_end_64 : decode cX8_end 64 = .ok (.iaload, 1) := by decide +kernel
theorem dX8_end_65 : decode cX8_end 65 = .ok (.if_icmp .ge 54, 3) := by decide +kernel
theorem dX8_end_68 : decode cX8_end 68 = .ok (.aload_n 0, 1) := by decide +kernel
theorem dX8_end_69 : decode cX8_end 69 = .ok (.getfield 56, 3) := by decide +kernel
theorem dX8_end_72 : decode cX8_end 72 = .ok (.bipush 10, 2) := by decide +kernel
theorem dX8_end_74 : decode cX8_end 74 = .ok (.iload_n 1, 1) := by decide +kernel
theorem dX8_end_75 : decode cX8_end 75 = .ok (.imul, 1) := by decide +kernel
theorem dX8_end_76 : decode cX8_end 76 = .ok (.iload 4, 2) := by decide +kernel
theorem dX8_end_78 : decode cX8_end 78 = .ok (.iadd, 1) := by decide +kernel
theorem dX8_end_79 : decode cX8_end 79 = .ok (.iaload, 1) := by decide +kernel
theorem dX8_end_80 : decode cX8_end 80 = .ok (.iload_n 2, 1) := by decide +kernel
theorem dX8_end_81 : decode cX8_end 81 = .ok (.if_icmp .lt 6, 3) := by decide +kernel
theorem dX8_end_84 : decode cX8_end 84 = .ok (.goto 29, 3) := by decide +kernel
theorem dX8_end_87 : decode cX8_end 87 = .ok (.aload_n 0, 1) := by decide +kernel
theorem dX8_end_88 : decode cX8_end 88 = .ok (.getfield 56, 3) := by decide +kernel
theorem dX8_end_91 : decode cX8_end 91 = .ok (.bipush 10, 2) := by decide +kernel
theorem dX8_end_93 : decode cX8_end 93 = .ok (.iload_n 1, 1) := by decide +kernel
theorem dX8_end_94 : decode cX8_end 94 = .ok (.imul, 1) := by decide +kernel
theorem dX8_end_95 : decode cX8_end 95 = .ok (.iload_n 3, 1) := by decide +kernel
theorem dX8_end_96 : decode cX8_end 96 = .ok (.iadd, 1) := by decide +kernel
theorem dX8_end_97 : decode cX8_end 97 = .ok (.aload_n 0, 1) := by decide +kernel
theorem dX8_end_98 : decode cX8_end 98 = .ok (.getfield 56, 3) := by decide +kernel
theorem dX8_end_101 : decode cX8_end 101 = .ok (.bipush 10, 2) := by decide +kernel
theorem dX8_end_103 : decode cX8_end 103 = .ok (.iload_n 1, 1) := by decide +kernel
theorem dX8_end_104 : decode cX8_end 104 = .ok (.imul, 1) := by decide +kernel
theorem dX8_end_105 : decode cX8_end 105 = .ok (.iload 4, 2) := by decide +kernel
theorem dX8_end_107 : decode cX8_end 107 = .ok (.iadd, 1) := by decide +kernel
theorem dX8_end_108 : decode cX8_end 108 = .ok (.iaload, 1) := by decide +kernel
theorem dX8_end_109 : decode cX8_end 109 = .ok (.iastore, 1) := by decide +kernel
theorem dX8_end_110 : decode cX8_end 110 = .ok (.iinc 3 1, 3) := by decide +kernel
theorem dX8_end_113 : decode cX8_end 113 = .ok (.iinc 4 1, 3) := by decide +kernel
theorem dX8_end_116 : decode cX8_end 116 = .ok (.goto (-59), 3) := by decide +kernel
theorem dX8_end_119 : decode cX8_end 119 = .ok (.aload_n 0, 1) := by decide +kernel
theorem dX8_end_120 : decode cX8_end 120 = .ok (.getfield 53, 3) := by decide +kernel
theorem dX8_end_123 : decode cX8_end 123 = .ok (.iload_n 1, 1) := by decide +kernel
theorem dX8_end_124 : decode cX8_end 124 = .ok (.iload_n 3, 1) := by decide +kernel
theorem dX8_end_125 : decode cX8_end 125 = .ok (.iastore, 1) := by decide +kernel
theorem dX8_end_126 : decode cX8_end 126 = .ok (.return_, 1) := by decide +kernel
def f_X8_end_57 (z : Nat → Nat) : Nat → Mem → Int32 → Int32 → Int32 → Int32 → Option Mem
  | 0, _, _, _, _, _ => none
  | fu + 1, M, x1, x2, x3, x4 => ck (inb x1 10) (if (M 16 (Int32.toNatClampNeg x1)) ≤ x4 then ck (inb x1 10) (some (mu M 16 (Int32.toNatClampNeg x1) x3)) else ck (inb ((10 * x1) + x4) 100) (if (M 17 (Int32.toNatClampNeg ((10 * x1) + x4))) < x2 then ck (inb ((10 * x1) + x4) 100) (ck (inb ((10 * x1) + x3) 100) (lt (mu M 17 (Int32.toNatClampNeg ((10 * x1) + x3)) (M 17 (Int32.toNatClampNeg ((10 * x1) + x4)))) (fun M1 => f_X8_end_57 z fu M1 x1 x2 (x3 + 1) (x4 + 1)))) else f_X8_end_57 z fu M x1 x2 x3 (x4 + 1)))
theorem t_X8_end_57 {K : KK} {a : AA} (S : Sx K RX8 cX8_end 5 (rmD 0))  {M' : Mem} (rt : RtV K a cX8_end M') : ∀ (fu : Nat) (M : Mem) (x1 : Int32) (x2 : Int32) (x3 : Int32) (x4 : Int32), f_X8_end_57 a.1 fu M x1 x2 x3 x4 = some M' → Go K 5 a M 57 [(0, .ref (a.2 0)), (1, .int x1), (2, .int x2), (3, .int x3), (4, .int x4)] [] := by
  intro fu
  induction fu with
  | zero => intro M x1 x2 x3 x4 hf; exact absurd hf (by simp [f_X8_end_57])
  | succ fu ih =>
    intro M x1 x2 x3 x4 hf
    rw [f_X8_end_57] at hf
    refine g_iload 4 S dX8_end_57 rfl ?_
    refine g_aload_n 0 S dX8_end_59 rfl ?_
    refine g_get (v := .ref (a.2 16)) S ob_0 rfl gi_X8 (by decide) lf_X8_53 rfl dX8_end_60 ?_
    refine g_iload_n 1 S dX8_end_63 rfl ?_
    refine g_iald S ia_16 dX8_end_64 hf (fun hf => ?_)
    refine g_icmp_ge (tgt := 119) S dX8_end_65 (by decide) hf (fun c hf => ?_) (fun c hf => ?_)
    · refine g_aload_n 0 S dX8_end_119 rfl ?_
      refine g_get (v := .ref (a.2 16)) S ob_0 rfl gi_X8 (by decide) lf_X8_53 rfl dX8_end_120 ?_
      refine g_iload_n 1 S dX8_end_123 rfl ?_
      refine g_iload_n 3 S dX8_end_124 rfl ?_
      refine g_iast S ia_16 dX8_end_125 hf (fun hf => ?_)
      exact g_vretM rt hf dX8_end_126
    · refine g_aload_n 0 S dX8_end_68 rfl ?_
      refine g_get (v := .ref (a.2 17)) S ob_0 rfl gi_X8 (by decide) lf_X8_56 rfl dX8_end_69 ?_
      refine g_bipush (v := 10) S dX8_end_72 rfl ?_
      refine g_iload_n 1 S dX8_end_74 rfl ?_
      refine g_imul S dX8_end_75 ?_
      refine g_iload 4 S dX8_end_76 rfl ?_
      refine g_iadd S dX8_end_78 ?_
      refine g_iald S ia_17 dX8_end_79 hf (fun hf => ?_)
      refine g_iload_n 2 S dX8_end_80 rfl ?_
      refine g_icmp_lt (tgt := 87) S dX8_end_81 (by decide) hf (fun c hf => ?_) (fun c hf => ?_)
      · refine g_aload_n 0 S dX8_end_87 rfl ?_
        refine g_get (v := .ref (a.2 17)) S ob_0 rfl gi_X8 (by decide) lf_X8_56 rfl dX8_end_88 ?_
        refine g_bipush (v := 10) S dX8_end_91 rfl ?_
        refine g_iload_n 1 S dX8_end_93 rfl ?_
        refine g_imul S dX8_end_94 ?_
        refine g_iload_n 3 S dX8_end_95 rfl ?_
        refine g_iadd S dX8_end_96 ?_
        refine g_aload_n 0 S dX8_end_97 rfl ?_
        refine g_get (v := .ref (a.2 17)) S ob_0 rfl gi_X8 (by decide) lf_X8_56 rfl dX8_end_98 ?_
        refine g_bipush (v := 10) S dX8_end_101 rfl ?_
        refine g_iload_n 1 S dX8_end_103 rfl ?_
        refine g_imul S dX8_end_104 ?_
        refine g_iload 4 S dX8_end_105 rfl ?_
        refine g_iadd S dX8_end_107 ?_
        refine g_iald S ia_17 dX8_end_108 hf (fun hf => ?_)
        refine g_iast S ia_17 dX8_end_109 hf (fun hf => ?_)
        obtain ⟨M1, eM1, hf⟩ := lt_some hf
        refine Go.M eM1 ?_
        refine g_iinc (v := (x3 + 1)) (lv' := [(3, .int (x3 + 1)), (0, .ref (a.2 0)), (1, .int x1), (2, .int x2), (4, .int x4)]) 3 S dX8_end_110 rfl rfl (by decide) rfl ?_
        refine g_iinc (v := (x4 + 1)) (lv' := [(4, .int (x4 + 1)), (3, .int (x3 + 1)), (0, .ref (a.2 0)), (1, .int x1), (2, .int x2)]) 4 S dX8_end_113 rfl rfl (by decide) rfl ?_
        refine g_goto (tgt := 57) S dX8_end_116 (by decide) ?_
        refine Go.sub [2, 3, 4, 1, 0] rfl ?_
        exact ih _ _ _ _ _ hf
      · refine g_goto (tgt := 113) S dX8_end_84 (by decide) ?_
        refine g_iinc (v := (x4 + 1)) (lv' := [(4, .int (x4 + 1)), (0, .ref (a.2 0)), (1, .int x1), (2, .int x2), (3, .int x3)]) 4 S dX8_end_113 rfl rfl (by decide) rfl ?_
        refine g_goto (tgt := 57) S dX8_end_116 (by decide) ?_
        refine Go.sub [1, 2, 3, 4, 0] rfl ?_
        exact ih _ _ _ _ _ hf
def f_X8_end_11 (z : Nat → Nat) : Nat → Mem → Int32 → Int32 → Int32 → Option Mem
  | 0, _, _, _, _ => none
  | fu + 1, M, x1, x2, x3 => if (M 0 1) ≤ x3 then f_X8_end_57 z 1000 M x1 x2 0 0 else ck (inb x3 20) (if (M 7 (Int32.toNatClampNeg x3)) = x1 then ck (inb x3 20) (if (M 8 (Int32.toNatClampNeg x3)) < x2 then f_X8_end_11 z fu M x1 x2 (x3 + 1) else ck (inb x3 20) (f_X8_end_11 z fu (mu M 7 (Int32.toNatClampNeg x3) (-1)) x1 x2 (x3 + 1))) else f_X8_end_11 z fu M x1 x2 (x3 + 1))
theorem t_X8_end_11 {K : KK} {a : AA} (S : Sx K RX8 cX8_end 5 (rmD 0))  {M' : Mem} (rt : RtV K a cX8_end M') : ∀ (fu : Nat) (M : Mem) (x1 : Int32) (x2 : Int32) (x3 : Int32), f_X8_end_11 a.1 fu M x1 x2 x3 = some M' → Go K 5 a M 11 [(0, .ref (a.2 0)), (1, .int x1), (2, .int x2), (3, .int x3)] [] := by
  intro fu
  induction fu with
  | zero => intro M x1 x2 x3 hf; exact absurd hf (by simp [f_X8_end_11])
  | succ fu ih =>
    intro M x1 x2 x3 hf
    rw [f_X8_end_11] at hf
    refine g_iload_n 3 S dX8_end_11 rfl ?_
    refine g_aload_n 0 S dX8_end_12 rfl ?_
    refine g_get (v := .int (M 0 1)) S ob_0 rfl gi_X8 (by decide) lf_X8_108 rfl dX8_end_13 ?_
    refine g_icmp_ge (tgt := 52) S dX8_end_16 (by decide) hf (fun c hf => ?_) (fun c hf => ?_)
    · refine g_iconst (v := 0) S dX8_end_52 rfl ?_
      refine g_istore_n (lv' := [(3, .int 0), (0, .ref (a.2 0)), (1, .int x1), (2, .int x2)]) S dX8_end_53 (by decide) rfl ?_
      refine g_iconst (v := 0) S dX8_end_54 rfl ?_
      refine g_istore (lv' := [(4, .int 0), (3, .int 0), (0, .ref (a.2 0)), (1, .int x1), (2, .int x2)]) S dX8_end_55 (by decide) rfl ?_
      refine Go.sub [2, 3, 4, 1, 0] rfl ?_
      exact t_X8_end_57  S rt 1000 _ _ _ _ _ hf
    · refine g_aload_n 0 S dX8_end_19 rfl ?_
      refine g_get (v := .ref (a.2 7)) S ob_0 rfl gi_X8 (by decide) lf_X8_29 rfl dX8_end_20 ?_
      refine g_iload_n 3 S dX8_end_23 rfl ?_
      refine g_iald S ia_7 dX8_end_24 hf (fun hf => ?_)
      refine g_iload_n 1 S dX8_end_25 rfl ?_
      refine g_icmp_ne (tgt := 46) S dX8_end_26 (by decide) hf (fun c hf => ?_) (fun c hf => ?_)
      · refine g_aload_n 0 S dX8_end_29 rfl ?_
        refine g_get (v := .ref (a.2 8)) S ob_0 rfl gi_X8 (by decide) lf_X8_32 rfl dX8_end_30 ?_
        refine g_iload_n 3 S dX8_end_33 rfl ?_
        refine g_iald S ia_8 dX8_end_34 hf (fun hf => ?_)
        refine g_iload_n 2 S dX8_end_35 rfl ?_
        refine g_icmp_lt (tgt := 46) S dX8_end_36 (by decide) hf (fun c hf => ?_) (fun c hf => ?_)
        · refine g_iinc (v := (x3 + 1)) (lv' := [(3, .int (x3 + 1)), (0, .ref (a.2 0)), (1, .int x1), (2, .int x2)]) 3 S dX8_end_46 rfl rfl (by decide) rfl ?_
          refine g_goto (tgt := 11) S dX8_end_49 (by decide) ?_
          refine Go.sub [1, 2, 3, 0] rfl ?_
          exact ih _ _ _ _ hf
        · refine g_aload_n 0 S dX8_end_39 rfl ?_
          refine g_get (v := .ref (a.2 7)) S ob_0 rfl gi_X8 (by decide) lf_X8_29 rfl dX8_end_40 ?_
          refine g_iload_n 3 S dX8_end_43 rfl ?_
          refine g_iconst (v := (-1)) S dX8_end_44 rfl ?_
          refine g_iast S ia_7 dX8_end_45 hf (fun hf => ?_)
          refine g_iinc (v := (x3 + 1)) (lv' := [(3, .int (x3 + 1)), (0, .ref (a.2 0)), (1, .int x1), (2, .int x2)]) 3 S dX8_end_46 rfl rfl (by decide) rfl ?_
          refine g_goto (tgt := 11) S dX8_end_49 (by decide) ?_
          refine Go.sub [1, 2, 3, 0] rfl ?_
          exact ih _ _ _ _ hf
      · refine g_iinc (v := (x3 + 1)) (lv' := [(3, .int (x3 + 1)), (0, .ref (a.2 0)), (1, .int x1), (2, .int x2)]) 3 S dX8_end_46 rfl rfl (by decide) rfl ?_
        refine g_goto (tgt := 11) S dX8_end_49 (by decide) ?_
        refine Go.sub [1, 2, 3, 0] rfl ?_
        exact ih _ _ _ _ hf
def f_X8_end (z : Nat → Nat) (M : Mem) (p1 : Int32) (p2 : Int32) : Option Mem := ck (inb p1 10) (f_X8_end_11 z 1000 (mu M 13 (Int32.toNatClampNeg p1) (p2 - 1)) p1 p2 0)
theorem c_X8_end {l : Launch} {G : GG} {a : AA} {M : Mem} {p1 : Int32} {p2 : Int32}  {M' : Mem} (hf : f_X8_end a.1 M p1 p2 = some M') : CtV l G a yX8_end cX8_end 5 (rmD 0) [.ref (a.2 0), .int p1, .int p2] M M' := by
  refine ct_V (by decide) rfl (own := RX8) (Nat.le_of_ble_eq_true rfl) (fun K hl hg S rt => ?_)
  subst hl; subst hg
  unfold f_X8_end at hf
  show Go K 5 a M 0 [(0, .ref (a.2 0)), (1, .int p1), (2, .int p2)] []
  refine g_aload_n 0 S dX8_end_0 rfl ?_
  refine g_get (v := .ref (a.2 13)) S ob_0 rfl gi_X8 (by decide) lf_X8_44 rfl dX8_end_1 ?_
  refine g_iload_n 1 S dX8_end_4 rfl ?_
  refine g_iload_n 2 S dX8_end_5 rfl ?_
  refine g_iconst (v := 1) S dX8_end_6 rfl ?_
  refine g_isub S dX8_end_7 ?_
  refine g_iast S ia_13 dX8_end_8 hf (fun hf => ?_)
  refine g_iconst (v := 0) S dX8_end_9 rfl ?_
  refine g_istore_n (lv' := [(3, .int 0), (0, .ref (a.2 0)), (1, .int p1), (2, .int p2)]) S dX8_end_10 (by decide) rfl ?_
  refine Go.sub [1, 2, 3, 0] rfl ?_
  exact t_X8_end_11  S rt 1000 _ _ _ _ hf
-- BridleBookModel.part(I)I
theorem dX8_part_0 : decode cX8_part 0 = .ok (.aload_n 0, 1) := by decide +kernel
theorem dX8_part_1 : decode cX8_part 1 = .ok (.iload_n 1, 1) := by decide +kernel
theorem dX8_part_2 : decode cX8_part 2 = .ok (.invokevirtual 157, 3) := by decide +kernel
theorem dX8_part_5 : decode cX8_part 5 = .ok (.ifCond .ne 5, 3) := by decide +kernel
theorem dX8_part_8 : decode cX8_part 8 = .ok (.iconst (-1), 1) := by decide +kernel
theorem dX8_part_9 : decode cX8_part 9 = .ok (.ireturn, 1) := by decide +kernel
theorem dX8_part_10 : decode cX8_part 10 = .ok (.aload_n 0, 1) := by decide +kernel
theorem dX8_part_11 : decode cX8_part 11 = .ok (.iload_n 1, 1) := by decide +kernel
theorem dX8_part_12 : decode cX8_part 12 = .ok (.invokevirtual 193, 3) := by decide +kernel
theorem dX8_part_15 : decode cX8_part 15 = .ok (.istore_n 2, 1) := by decide +kernel
theorem dX8_part_16 : decode cX8_part 16 = .ok (.iload_n 2, 1) := by decide +kernel
theorem dX8_part_17 : decode cX8_part 17 = .ok (.ifCond .lt 9, 3) := by decide +kernel
theorem dX8_part_20 : decode cX8_part 20 = .ok (.aload_n 0, 1) := by decide +kernel
theorem dX8_part_21 : decode cX8_part 21 = .ok (.iload_n 1, 1) := by decide +kernel
theorem dX8_part_22 : decode cX8_part 22 = .ok (.iload_n 2, 1) := by decide +kernel
theorem dX8_part_23 : decode cX8_part 23 = .ok (.invokevirtual 196, 3) := by decide +kernel
theorem dX8_part_26 : decode cX8_part 26 = .ok (.iload_n 2, 1) := by decide +kernel
theorem dX8_part_27 : decode cX8_part 27 = .ok (.ireturn, 1) := by decide +kernel
def f_X8_part (z : Nat → Nat) (M : Mem) (p1 : Int32) : Option (Int32 × Mem) := bd1 (f_X8_isLine z M p1) (fun r1 => if r1 = true then bd2 (f_X8_partsAt z M p1) (fun r2 M3 => if r2 < 0 then some (r2, M3) else bd1 (f_X8_end z M3 p1 r2) (fun M4 => some (r2, M4))) else some ((-1), M))
theorem c_X8_part {l : Launch} {G : GG} {a : AA} {M : Mem} {p1 : Int32} {r : Int32} {M' : Mem} (hf : f_X8_part a.1 M p1 = some (r, M')) : CtI l G a yX8_part cX8_part 3 .int (rmD 5) [.ref (a.2 0), .int p1] M r M' := by
  refine ct_I (by decide) rfl rfl (own := RX8) (Nat.le_of_ble_eq_true rfl) (fun K hl hg S rt => ?_)
  subst hl; subst hg
  unfold f_X8_part at hf
  show Go K 3 a M 0 [(0, .ref (a.2 0)), (1, .int p1)] []
  refine g_aload_n 0 S dX8_part_0 rfl ?_
  refine g_iload_n 1 S dX8_part_1 rfl ?_
  obtain ⟨r1, hr1, hf⟩ := bd1_some hf
  refine g_cVI (st := []) S ob_0 rfl ok_X8_isLine lk_X8_157 (c_X8_isLine hr1) rfl rfl ⟨by decide, by decide⟩ (rmD_z _) (Nat.le_of_ble_eq_true rfl) dX8_part_2 ?_
  refine g_if_neB (tgt := 10) S dX8_part_5 (by decide) hf (fun c hf => ?_) (fun c hf => ?_)
  · refine g_aload_n 0 S dX8_part_10 rfl ?_
    refine g_iload_n 1 S dX8_part_11 rfl ?_
    obtain ⟨r2, M3, hr2, hf⟩ := bd2_some hf
    refine g_cVI (st := []) S ob_0 rfl ok_X8_partsAt lk_X8_193 (c_X8_partsAt hr2) rfl rfl ⟨by decide, by decide⟩ (rmD_z _) (Nat.le_of_ble_eq_true rfl) dX8_part_12 ?_
    refine g_istore_n (lv' := [(2, .int r2), (0, .ref (a.2 0)), (1, .int p1)]) S dX8_part_15 (by decide) rfl ?_
    refine g_iload_n 0 S dX8_part_16 rfl ?_
    refine g_if_lt (tgt := 26) S dX8_part_17 (by decide) hf (fun c hf => ?_) (fun c hf => ?_)
    · refine g_iload_n 0 S dX8_part_26 rfl ?_
      exact g_iretM rt hf dX8_part_27
    · refine g_aload_n 1 S dX8_part_20 rfl ?_
      refine g_iload_n 2 S dX8_part_21 rfl ?_
      refine g_iload_n 0 S dX8_part_22 rfl ?_
      obtain ⟨M4, hM4, hf⟩ := bd1_some hf
      refine g_cVV (st := []) S ob_0 rfl ok_X8_end lk_X8_196 (c_X8_end hM4) rfl rfl ⟨by decide, by decide⟩ (rmD_z _) (Nat.le_of_ble_eq_true rfl) dX8_part_23 ?_
      refine g_iload_n 0 S dX8_part_26 rfl ?_
      exact g_iretM rt hf dX8_part_27
  · refine g_iconst (v := (-1)) S dX8_part_8 rfl ?_
    exact g_iretM rt hf dX8_part_9
-- BridleBookModel.least(II)I
theorem dX8_least_0 : decode cX8_least 0 = .ok (.aload_n 0, 1) := by decide +kernel
theorem dX8_least_1 : decode cX8_least 1 = .ok (.iload_n 1, 1) := by decide +kernel
theorem dX8_least_2 : decode cX8_least 2 = .ok (.invokevirtual 157, 3) := by decide +kernel
theorem dX8_least_5 : decode cX8_least 5 = .ok (.ifCond .eq 13, 3) := by decide +kernel
theorem dX8_least_8 : decode cX8_least 8 = .ok (.iload_n 2, 1) := by decide +kernel
theorem dX8_least_9 : decode cX8_least 9 = .ok (.iconst 0, 1) := by decide +kernel
theorem dX8_least_10 : decode cX8_least 10 = .ok (.ldc 156, 2) := by decide +kernel
theorem dX8_least_12 : decode cX8_least 12 = .ok (.invokestatic 111, 3) := by decide +kernel
theorem dX8_least_15 : decode cX8_least 15 = .ok (.ifCond .ne 5, 3) := by decide +kernel
theorem dX8_least_18 : decode cX8_least 18 = .ok (.iconst (-1), 1) := by decide +kernel
theorem dX8_least_19 : decode cX8_least 19 = .ok (.ireturn, 1) := by decide +kernel
theorem dX8_least_20 : decode cX8_least 20 = .ok (.iconst 0, 1) := by decide +kernel
theorem dX8_least_21 : decode cX8_least 21 = .ok (.istore_n 3, 1) := by decide +kernel
theorem dX8_least_22 : decode cX8_least 22 = .ok (.iload_n 3, 1) := by decide +kernel
theorem dX8_least_23 : decode cX8_least 23 = .ok (.bipush 100, 2) := by decide +kernel
theorem dX8_least_25 : decode cX8_least 25 = .ok (.if_icmp .ge 21, 3) := by decide +kernel
theorem dX8_least_28 : decode cX8_least 28 = .ok (.aload_n 0, 1) := by decide +kernel
theorem dX8_least_29 : decode cX8_least 29 = .ok (.iload_n 1, 1) := by decide +kernel
theorem dX8_least_30 : decode cX8_least 30 = .ok (.iload_n 3, 1) := by decide +kernel
theorem dX8_least_31 : decode cX8_least 31 = .ok (.invokevirtual 190, 3) := by decide +kernel
theorem dX8_least_34 : decode cX8_least 34 = .ok (.iload_n 2, 1) := by decide +kernel
theorem dX8_least_35 : decode cX8_least 35 = .ok (.if_icmp .lt 5, 3) := by decide +kernel
theorem dX8_least_38 : decode cX8_least 38 = .ok (.iload_n 3, 1) := by decide +kernel
theorem dX8_least_39 : decode cX8_least 39 = .ok (.ireturn, 1) := by decide +kernel
theorem dX8_least_40 : decode cX8_least 40 = .ok (.iinc 3 1, 3) := by decide +kernel
theorem dX8_least_43 : decode cX8_least 43 = .ok (.goto (-21), 3) := by decide +kernel
theorem dX8_least_46 : decode cX8_least 46 = .ok (.bipush (-2), 2) := by decide +kernel
theorem dX8_least_48 : decode cX8_least 48 = .ok (.ireturn, 1) := by decide +kernel
def f_X8_least_22 (z : Nat → Nat) : Nat → Mem → Int32 → Int32 → Int32 → Option (Int32 × Mem)
  | 0, _, _, _, _ => none
  | fu + 1, M, x1, x2, x3 => if 100 ≤ x3 then some ((-2), M) else bd2 (f_X8_lifts z M x1 x3) (fun r3 M4 => if r3 < x2 then f_X8_least_22 z fu M4 x1 x2 (x3 + 1) else some (x3, M4))
theorem t_X8_least_22 {K : KK} {a : AA} (S : Sx K RX8 cX8_least 4 (rmD 5)) {r : Int32} {M' : Mem} (rt : RtI K a cX8_least r M') : ∀ (fu : Nat) (M : Mem) (x1 : Int32) (x2 : Int32) (x3 : Int32), f_X8_least_22 a.1 fu M x1 x2 x3 = some (r, M') → Go K 4 a M 22 [(0, .ref (a.2 0)), (1, .int x1), (2, .int x2), (3, .int x3)] [] := by
  intro fu
  induction fu with
  | zero => intro M x1 x2 x3 hf; exact absurd hf (by simp [f_X8_least_22])
  | succ fu ih =>
    intro M x1 x2 x3 hf
    rw [f_X8_least_22] at hf
    refine g_iload_n 3 S dX8_least_22 rfl ?_
    refine g_bipush (v := 100) S dX8_least_23 rfl ?_
    refine g_icmp_ge (tgt := 46) S dX8_least_25 (by decide) hf (fun c hf => ?_) (fun c hf => ?_)
    · refine g_bipush (v := (-2)) S dX8_least_46 rfl ?_
      exact g_iretM rt hf dX8_least_48
    · refine g_aload_n 0 S dX8_least_28 rfl ?_
      refine g_iload_n 1 S dX8_least_29 rfl ?_
      refine g_iload_n 3 S dX8_least_30 rfl ?_
      obtain ⟨r3, M4, hr3, hf⟩ := bd2_some hf
      refine g_cVI (st := []) S ob_0 rfl ok_X8_lifts lk_X8_190 (c_X8_lifts hr3) rfl rfl ⟨by decide, by decide⟩ (rmD_z _) (Nat.le_of_ble_eq_true rfl) dX8_least_31 ?_
      refine g_iload_n 2 S dX8_least_34 rfl ?_
      refine g_icmp_lt (tgt := 40) S dX8_least_35 (by decide) hf (fun c hf => ?_) (fun c hf => ?_)
      · refine g_iinc (v := (x3 + 1)) (lv' := [(3, .int (x3 + 1)), (0, .ref (a.2 0)), (1, .int x1), (2, .int x2)]) 3 S dX8_least_40 rfl rfl (by decide) rfl ?_
        refine g_goto (tgt := 22) S dX8_least_43 (by decide) ?_
        refine Go.sub [1, 2, 3, 0] rfl ?_
        exact ih _ _ _ _ hf
      · refine g_iload_n 3 S dX8_least_38 rfl ?_
        exact g_iretM rt hf dX8_least_39
def f_X8_least (z : Nat → Nat) (M : Mem) (p1 : Int32) (p2 : Int32) : Option (Int32 × Mem) := bd1 (f_X8_isLine z M p1) (fun r1 => if r1 = true then bd1 (f_X8_in z M p2 0 99999) (fun r2 => if r2 = true then f_X8_least_22 z 1000 M p1 p2 0 else some ((-1), M)) else some ((-1), M))
theorem c_X8_least {l : Launch} {G : GG} {a : AA} {M : Mem} {p1 : Int32} {p2 : Int32} {r : Int32} {M' : Mem} (hf : f_X8_least a.1 M p1 p2 = some (r, M')) : CtI l G a yX8_least cX8_least 4 .int (rmD 5) [.ref (a.2 0), .int p1, .int p2] M r M' := by
  refine ct_I (by decide) rfl rfl (own := RX8) (Nat.le_of_ble_eq_true rfl) (fun K hl hg S rt => ?_)
  subst hl; subst hg
  unfold f_X8_least at hf
  show Go K 4 a M 0 [(0, .ref (a.2 0)), (1, .int p1), (2, .int p2)] []
  refine g_aload_n 0 S dX8_least_0 rfl ?_
  refine g_iload_n 1 S dX8_least_1 rfl ?_
  obtain ⟨r1, hr1, hf⟩ := bd1_some hf
  refine g_cVI (st := []) S ob_0 rfl ok_X8_isLine lk_X8_157 (c_X8_isLine hr1) rfl rfl ⟨by decide, by decide⟩ (rmD_z _) (Nat.le_of_ble_eq_true rfl) dX8_least_2 ?_
  refine g_if_eqB (tgt := 18) S dX8_least_5 (by decide) hf (fun c hf => ?_) (fun c hf => ?_)
  · refine g_iload_n 2 S dX8_least_8 rfl ?_
    refine g_iconst (v := 0) S dX8_least_9 rfl ?_
    refine g_ldc S lc_X8_156 dX8_least_10 ?_
    obtain ⟨r2, hr2, hf⟩ := bd1_some hf
    refine g_cSI (st := []) S ok_X8_in lk_X8_111 (c_X8_in hr2) rfl rfl ⟨by decide, by decide⟩ (rmD_z _) (Nat.le_of_ble_eq_true rfl) dX8_least_12 ?_
    refine g_if_neB (tgt := 20) S dX8_least_15 (by decide) hf (fun c hf => ?_) (fun c hf => ?_)
    · refine g_iconst (v := 0) S dX8_least_20 rfl ?_
      refine g_istore_n (lv' := [(3, .int 0), (0, .ref (a.2 0)), (1, .int p1), (2, .int p2)]) S dX8_least_21 (by decide) rfl ?_
      refine Go.sub [1, 2, 3, 0] rfl ?_
      exact t_X8_least_22  S rt 1000 _ _ _ _ hf
    · refine g_iconst (v := (-1)) S dX8_least_18 rfl ?_
      exact g_iretM rt hf dX8_least_19
  · refine g_iconst (v := (-1)) S dX8_least_18 rfl ?_
    exact g_iretM rt hf dX8_least_19
-- BridleBookModel.isFlyer(I)Z
theorem dX8_isFlyer_0 : decode cX8_isFlyer 0 = .ok (.iload_n 1, 1) := by decide +kernel
theorem dX8_isFlyer_1 : decode cX8_isFlyer 1 = .ok (.iconst 0, 1) := by decide +kernel
theorem dX8_isFlyer_2 : decode cX8_isFlyer 2 = .ok (.aload_n 0, 1) := by decide +kernel
theorem dX8_isFlyer_3 : decode cX8_isFlyer 3 = .ok (.getfield 199, 3) := by decide +kernel
theorem dX8_isFlyer_6 : decode cX8_isFlyer 6 = .ok (.iconst 1, 1) := by decide +kernel
theorem dX8_isFlyer_7 : decode cX8_isFlyer 7 = .ok (.isub, 1) := by decide +kernel
theorem dX8_isFlyer_8 : decode cX8_isFlyer 8 = .ok (.invokestatic 111, 3) := by decide +kernel
theorem dX8_isFlyer_11 : decode cX8_isFlyer 11 = .ok (.ireturn, 1) := by decide +kernel
def f_X8_isFlyer (z : Nat → Nat) (M : Mem) (p1 : Int32) : Option Bool := bd1 (f_X8_in z M p1 0 ((M 0 23) - 1)) (fun r1 => some r1)
theorem c_X8_isFlyer {l : Launch} {G : GG} {a : AA} {M : Mem} {p1 : Int32} {r : Bool} (hf : f_X8_isFlyer a.1 M p1 = some r) : CtI l G a yX8_isFlyer cX8_isFlyer 2 .boolean (rmD 1) [.ref (a.2 0), .int p1] M (b2i r) M := by
  refine ct_I (by decide) rfl (b2i_n _) (own := RX8) (Nat.le_of_ble_eq_true rfl) (fun K hl hg S rt => ?_)
  subst hl; subst hg
  unfold f_X8_isFlyer at hf
  show Go K 2 a M 0 [(0, .ref (a.2 0)), (1, .int p1)] []
  refine g_iload_n 1 S dX8_isFlyer_0 rfl ?_
  refine g_iconst (v := 0) S dX8_isFlyer_1 rfl ?_
  refine g_aload_n 0 S dX8_isFlyer_2 rfl ?_
  refine g_get (v := .int (M 0 23)) S ob_0 rfl gi_X8 (by decide) lf_X8_199 rfl dX8_isFlyer_3 ?_
  refine g_iconst (v := 1) S dX8_isFlyer_6 rfl ?_
  refine g_isub S dX8_isFlyer_7 ?_
  obtain ⟨r1, hr1, hf⟩ := bd1_some hf
  refine g_cSI (st := []) S ok_X8_in lk_X8_111 (c_X8_in hr1) rfl rfl ⟨by decide, by decide⟩ (rmD_z _) (Nat.le_of_ble_eq_true rfl) dX8_isFlyer_8 ?_
  exact g_zretP rt hf dX8_isFlyer_11 rfl
-- BridleBookModel.isPlace(I)Z
theorem dX8_isPlace_0 : decode cX8_isPlace 0 = .ok (.iload_n 0, 1) := by decide +kernel
theorem dX8_isPlace_1 : decode cX8_isPlace 1 = .ok (.iconst 0, 1) := by decide +kernel
theorem dX8_isPlace_2 : decode cX8_isPlace 2 = .ok (.ldc 202, 2) := by decide +kernel
theorem dX8_isPlace_4 : decode cX8_isPlace 4 = .ok (.invokestatic 111, 3) := by decide +kernel
theorem dX8_isPlace_7 : decode cX8_isPlace 7 = .ok (.ireturn, 1) := by decide +kernel
def f_X8_isPlace (z : Nat → Nat) (M : Mem) (p1 : Int32) : Option Bool := bd1 (f_X8_in z M p1 0 39999) (fun r1 => some r1)
theorem c_X8_isPlace {l : Launch} {G : GG} {a : AA} {M : Mem} {p1 : Int32} {r : Bool} (hf : f_X8_isPlace a.1 M p1 = some r) : CtI l G a yX8_isPlace cX8_isPlace 1 .boolean (rmD 1) [.int p1] M (b2i r) M := by
  refine ct_I (by decide) rfl (b2i_n _) (own := RX8) (Nat.le_of_ble_eq_true rfl) (fun K hl hg S rt => ?_)
  subst hl; subst hg
  unfold f_X8_isPlace at hf
  show Go K 1 a M 0 [(0, .int p1)] []
  refine g_iload_n 0 S dX8_isPlace_0 rfl ?_
  refine g_iconst (v := 0) S dX8_isPlace_1 rfl ?_
  refine g_ldc S lc_X8_202 dX8_isPlace_2 ?_
  obtain ⟨r1, hr1, hf⟩ := bd1_some hf
  refine g_cSI (st := []) S ok_X8_in lk_X8_111 (c_X8_in hr1) rfl rfl ⟨by decide, by decide⟩ (rmD_z _) (Nat.le_of_ble_eq_true rfl) dX8_isPlace_4 ?_
  exact g_zretP rt hf dX8_isPlace_7 rfl
-- BridleBookModel.flyer(II)I
theorem dX8_flyer_0 : decode cX8_flyer 0 = .ok (.iload_n 1, 1) := by decide +kernel
theorem dX8_flyer_1 : decode cX8_flyer 1 = .ok (.invokestatic 203, 3) := by decide +kernel
theorem dX8_flyer_4 : decode cX8_flyer 4 = .ok (.ifCond .eq 11, 3) := by decide +kernel
theorem dX8_flyer_7 : decode cX8_flyer 7 = .ok (.aload_n 0, 1) := by decide +kernel
theorem dX8_flyer_8 : decode cX8_flyer 8 = .ok (.iload_n 2, 1) := by decide +kernel
theorem dX8_flyer_9 : decode cX8_flyer 9 = .ok (.invokevirtual 157, 3) := by decide +kernel
theorem dX8_flyer_12 : decode cX8_flyer 12 = .ok (.ifCond .ne 5, 3) := by decide +kernel
theorem dX8_flyer_15 : decode cX8_flyer 15 = .ok (.iconst (-1), 1) := by decide +kernel
theorem dX8_flyer_16 : decode cX8_flyer 16 = .ok (.ireturn, 1) := by decide +kernel
theorem dX8_flyer_17 : decode cX8_flyer 17 = .ok (.aload_n 0, 1) := by decide +kernel
theorem dX8_flyer_18 : decode cX8_flyer 18 = .ok (.getfield 87, 3) := by decide +kernel
theorem dX8_flyer_21 : decode cX8_flyer 21 = .ok (.iload_n 2, 1) := by decide +kernel
theorem dX8_flyer_22 : decode cX8_flyer 22 = .ok (.iaload, 1) := by decide +kernel
theorem dX8_flyer_23 : decode cX8_flyer 23 = .ok (.ifCond .lt 6, 3) := by decide +kernel
theorem dX8_flyer_26 : decode cX8_flyer 26 = .ok (.bipush (-2), 2) := by decide +kernel
theorem dX8_flyer_28 : decode cX8_flyer 28 = .ok (.ireturn, 1) := by decide +kernel
theorem dX8_flyer_29 : decode cX8_flyer 29 = .ok (.aload_n 0, 1) := by decide +kernel
theorem dX8_flyer_30 : decode cX8_flyer 30 = .ok (.getfield 199, 3) := by decide +kernel
theorem dX8_flyer_33 : decode cX8_flyer 33 = .ok (.bipush 10, 2) := by decide +kernel
theorem dX8_flyer_35 : decode cX8_flyer 35 = .ok (.if_icmp .ne 6, 3) := by decide +kernel
theorem dX8_flyer_38 : decode cX8_flyer 38 = .ok (.bipush (-3), 2) := by decide +kernel
theorem dX8_flyer_40 : decode cX8_flyer 40 = .ok (.ireturn, 1) := by decide +kernel
theorem dX8_flyer_41 : decode cX8_flyer 41 = .ok (.aload_n 0, 1) := by decide +kernel
theorem dX8_flyer_42 : decode cX8_flyer 42 = .ok (.getfield 74, 3) := by decide +kernel
theorem dX8_flyer_45 : decode cX8_flyer 45 = .ok (.aload_n 0, 1) := by decide +kernel
theorem dX8_flyer_46 : decode cX8_flyer 46 = .ok (.getfield 199, 3) := by decide +kernel
theorem dX8_flyer_49 : decode cX8_flyer 49 = .ok (.iload_n 1, 1) := by decide +kernel
theorem dX8_flyer_50 : decode cX8_flyer 50 = .ok (.sipush 200, 3) := by decide +kernel
theorem dX8_flyer_53 : decode cX8_flyer 53 = .ok (.idiv, 1) := by decide +kernel
theorem dX8_flyer_54 : decode cX8_flyer 54 = .ok (.iastore, 1) := by decide +kernel
theorem dX8_flyer_55 : decode cX8_flyer 55 = .ok (.aload_n 0, 1) := by decide +kernel
theorem dX8_flyer_56 : decode cX8_flyer 56 = .ok (.getfield 77, 3) := by decide +kernel
theorem dX8_flyer_59 : decode cX8_flyer 59 = .ok (.aload_n 0, 1) := by decide +kernel
theorem dX8_flyer_60 : decode cX8_flyer 60 = .ok (.getfield 199, 3) := by decide +kernel
theorem dX8_flyer_63 : decode cX8_flyer 63 = .ok (.iload_n 1, 1) := by decide +kernel
theorem dX8_flyer_64 : decode cX8_flyer 64 = .ok (.sipush 200, 3) := by decide +kernel
theorem dX8_flyer_67 : decode cX8_flyer 67 = .ok (.irem, 1) := by decide +kernel
theorem dX8_flyer_68 : decode cX8_flyer 68 = .ok (.iastore, 1) := by decide +kernel
theorem dX8_flyer_69 : decode cX8_flyer 69 = .ok (.aload_n 0, 1) := by decide +kernel
theorem dX8_flyer_70 : decode cX8_flyer 70 = .ok (.getfield 80, 3) := by decide +kernel
theorem dX8_flyer_73 : decode cX8_flyer 73 = .ok (.aload_n 0, 1) := by decide +kernel
theorem dX8_flyer_74 : decode cX8_flyer 74 = .ok (.getfield 199, 3) := by decide +kernel
theorem dX8_flyer_77 : decode cX8_flyer 77 = .ok (.iload_n 2, 1) := by decide +kernel
theorem dX8_flyer_78 : decode cX8_flyer 78 = .ok (.iastore, 1) := by decide +kernel
theorem dX8_flyer_79 : decode cX8_flyer 79 = .ok (.aload_n 0, 1) := by decide +kernel
theorem dX8_flyer_80 : decode cX8_flyer 80 = .ok (.getfield 87, 3) := by decide +kernel
theorem dX8_flyer_83 : decode cX8_flyer 83 = .ok (.iload_n 2, 1) := by decide +kernel
theorem dX8_flyer_84 : decode cX8_flyer 84 = .ok (.aload_n 0, 1) := by decide +kernel
theorem dX8_flyer_85 : decode cX8_flyer 85 = .ok (.getfield 199, 3) := by decide +kernel
theorem dX8_flyer_88 : decode cX8_flyer 88 = .ok (.iastore, 1) := by decide +kernel
theorem dX8_flyer_89 : decode cX8_flyer 89 = .ok (.aload_n 0, 1) := by decide +kernel
theorem dX8_flyer_90 : decode cX8_flyer 90 = .ok (.dup, 1) := by decide +kernel
theorem dX8_flyer_91 : decode cX8_flyer 91 = .ok (.getfield 199, 3) := by decide +kernel
theorem dX8_flyer_94 : decode cX8_flyer 94 = .ok (.iconst 1, 1) := by decide +kernel
theorem dX8_flyer_95 : decode cX8_flyer 95 = .ok (.iadd, 1) := by decide +kernel
theorem dX8_flyer_96 : decode cX8_flyer 96 = .ok (.putfield 199, 3) := by decide +kernel
theorem dX8_flyer_99 : decode cX8_flyer 99 = .ok (.aload_n 0, 1) := by decide +kernel
theorem dX8_flyer_100 : decode cX8_flyer 100 = .ok (.getfield 199, 3) := by decide +kernel
theorem dX8_flyer_103 : decode cX8_flyer 103 = .ok (.iconst 1, 1) := by decide +kernel
theorem dX8_flyer_104 : decode cX8_flyer 104 = .ok (.isub, 1) := by decide +kernel
theorem dX8_flyer_105 : decode cX8_flyer 105 = .ok (.ireturn, 1) := by decide +kernel
def f_X8_flyer (z : Nat → Nat) (M : Mem) (p1 : Int32) (p2 : Int32) : Option (Int32 × Mem) := bd1 (f_X8_isPlace z M p1) (fun r1 => if r1 = true then bd1 (f_X8_isLine z M p2) (fun r2 => if r2 = true then ck (inb p2 10) (if (M 28 (Int32.toNatClampNeg p2)) < 0 then if (M 0 23) = 10 then some ((-3), M) else ck (inb (M 0 23) 10) (ck (inb ((mu M 24 (Int32.toNatClampNeg (M 0 23)) (p1 / 200)) 0 23) 10) (lt (mu (mu M 24 (Int32.toNatClampNeg (M 0 23)) (p1 / 200)) 25 (Int32.toNatClampNeg ((mu M 24 (Int32.toNatClampNeg (M 0 23)) (p1 / 200)) 0 23)) (irem p1 200)) (fun M3 => ck (inb (M3 0 23) 10) (ck (inb p2 10) (lt (mu (mu M3 26 (Int32.toNatClampNeg (M3 0 23)) p2) 28 (Int32.toNatClampNeg p2) ((mu M3 26 (Int32.toNatClampNeg (M3 0 23)) p2) 0 23)) (fun M4 => some ((((mu M4 0 23 ((M4 0 23) + 1)) 0 23) - 1), (mu M4 0 23 ((M4 0 23) + 1))))))))) else some ((-2), M)) else some ((-1), M)) else some ((-1), M))
theorem c_X8_flyer {l : Launch} {G : GG} {a : AA} {M : Mem} {p1 : Int32} {p2 : Int32} {r : Int32} {M' : Mem} (hf : f_X8_flyer a.1 M p1 p2 = some (r, M')) : CtI l G a yX8_flyer cX8_flyer 3 .int (rmD 2) [.ref (a.2 0), .int p1, .int p2] M r M' := by
  refine ct_I (by decide) rfl rfl (own := RX8) (Nat.le_of_ble_eq_true rfl) (fun K hl hg S rt => ?_)
  subst hl; subst hg
  unfold f_X8_flyer at hf
  show Go K 3 a M 0 [(0, .ref (a.2 0)), (1, .int p1), (2, .int p2)] []
  refine g_iload_n 1 S dX8_flyer_0 rfl ?_
  obtain ⟨r1, hr1, hf⟩ := bd1_some hf
  refine g_cSI (st := []) S ok_X8_isPlace lk_X8_203 (c_X8_isPlace hr1) rfl rfl ⟨by decide, by decide⟩ (rmD_z _) (Nat.le_of_ble_eq_true rfl) dX8_flyer_1 ?_
  refine g_if_eqB (tgt := 15) S dX8_flyer_4 (by decide) hf (fun c hf => ?_) (fun c hf => ?_)
  · refine g_aload_n 0 S dX8_flyer_7 rfl ?_
    refine g_iload_n 2 S dX8_flyer_8 rfl ?_
    obtain ⟨r2, hr2, hf⟩ := bd1_some hf
    refine g_cVI (st := []) S ob_0 rfl ok_X8_isLine lk_X8_157 (c_X8_isLine hr2) rfl rfl ⟨by decide, by decide⟩ (rmD_z _) (Nat.le_of_ble_eq_true rfl) dX8_flyer_9 ?_
    refine g_if_neB (tgt := 17) S dX8_flyer_12 (by decide) hf (fun c hf => ?_) (fun c hf => ?_)
    · refine g_aload_n 0 S dX8_flyer_17 rfl ?_
      refine g_get (v := .ref (a.2 28)) S ob_0 rfl gi_X8 (by decide) lf_X8_87 rfl dX8_flyer_18 ?_
      refine g_iload_n 2 S dX8_flyer_21 rfl ?_
      refine g_iald S ia_28 dX8_flyer_22 hf (fun hf => ?_)
      refine g_if_lt (tgt := 29) S dX8_flyer_23 (by decide) hf (fun c hf => ?_) (fun c hf => ?_)
      · refine g_aload_n 0 S dX8_flyer_29 rfl ?_
        refine g_get (v := .int (M 0 23)) S ob_0 rfl gi_X8 (by decide) lf_X8_199 rfl dX8_flyer_30 ?_
        refine g_bipush (v := 10) S dX8_flyer_33 rfl ?_
        refine g_icmp_ne (tgt := 41) S dX8_flyer_35 (by decide) hf (fun c hf => ?_) (fun c hf => ?_)
        · refine g_bipush (v := (-3)) S dX8_flyer_38 rfl ?_
          exact g_iretM rt hf dX8_flyer_40
        · refine g_aload_n 0 S dX8_flyer_41 rfl ?_
          refine g_get (v := .ref (a.2 24)) S ob_0 rfl gi_X8 (by decide) lf_X8_74 rfl dX8_flyer_42 ?_
          refine g_aload_n 0 S dX8_flyer_45 rfl ?_
          refine g_get (v := .int (M 0 23)) S ob_0 rfl gi_X8 (by decide) lf_X8_199 rfl dX8_flyer_46 ?_
          refine g_iload_n 1 S dX8_flyer_49 rfl ?_
          refine g_sipush (v := 200) S dX8_flyer_50 rfl ?_
          refine g_idiv S dX8_flyer_53 (by decide) ?_
          refine g_iast S ia_24 dX8_flyer_54 hf (fun hf => ?_)
          refine g_aload_n 0 S dX8_flyer_55 rfl ?_
          refine g_get (v := .ref (a.2 25)) S ob_0 rfl gi_X8 (by decide) lf_X8_77 rfl dX8_flyer_56 ?_
          refine g_aload_n 0 S dX8_flyer_59 rfl ?_
          refine g_get (v := .int ((mu M 24 (Int32.toNatClampNeg (M 0 23)) (p1 / 200)) 0 23)) S ob_0 rfl gi_X8 (by decide) lf_X8_199 rfl dX8_flyer_60 ?_
          refine g_iload_n 1 S dX8_flyer_63 rfl ?_
          refine g_sipush (v := 200) S dX8_flyer_64 rfl ?_
          refine g_irem S dX8_flyer_67 (by decide) ?_
          refine g_iast S ia_25 dX8_flyer_68 hf (fun hf => ?_)
          obtain ⟨M3, eM3, hf⟩ := lt_some hf
          refine Go.M eM3 ?_
          refine g_aload_n 0 S dX8_flyer_69 rfl ?_
          refine g_get (v := .ref (a.2 26)) S ob_0 rfl gi_X8 (by decide) lf_X8_80 rfl dX8_flyer_70 ?_
          refine g_aload_n 0 S dX8_flyer_73 rfl ?_
          refine g_get (v := .int (M3 0 23)) S ob_0 rfl gi_X8 (by decide) lf_X8_199 rfl dX8_flyer_74 ?_
          refine g_iload_n 2 S dX8_flyer_77 rfl ?_
          refine g_iast S ia_26 dX8_flyer_78 hf (fun hf => ?_)
          refine g_aload_n 0 S dX8_flyer_79 rfl ?_
          refine g_get (v := .ref (a.2 28)) S ob_0 rfl gi_X8 (by decide) lf_X8_87 rfl dX8_flyer_80 ?_
          refine g_iload_n 2 S dX8_flyer_83 rfl ?_
          refine g_aload_n 0 S dX8_flyer_84 rfl ?_
          refine g_get (v := .int ((mu M3 26 (Int32.toNatClampNeg (M3 0 23)) p2) 0 23)) S ob_0 rfl gi_X8 (by decide) lf_X8_199 rfl dX8_flyer_85 ?_
          refine g_iast S ia_28 dX8_flyer_88 hf (fun hf => ?_)
          obtain ⟨M4, eM4, hf⟩ := lt_some hf
          refine Go.M eM4 ?_
          refine g_aload_n 0 S dX8_flyer_89 rfl ?_
          refine g_dup S dX8_flyer_90 rfl ?_
          refine g_get (v := .int (M4 0 23)) S ob_0 rfl gi_X8 (by decide) lf_X8_199 rfl dX8_flyer_91 ?_
          refine g_iconst (v := 1) S dX8_flyer_94 rfl ?_
          refine g_iadd S dX8_flyer_95 ?_
          refine g_put (ty := .int) S ob_0 rfl gi_X8 tyX8_ok nmX8 (by decide) lf_X8_199 rfl (by decide +kernel) rfl rfl (Nat.le_of_ble_eq_true rfl) rfl dX8_flyer_96 ?_
          refine g_aload_n 0 S dX8_flyer_99 rfl ?_
          refine g_get (v := .int ((mu M4 0 23 ((M4 0 23) + 1)) 0 23)) S ob_0 rfl gi_X8 (by decide) lf_X8_199 rfl dX8_flyer_100 ?_
          refine g_iconst (v := 1) S dX8_flyer_103 rfl ?_
          refine g_isub S dX8_flyer_104 ?_
          exact g_iretM rt hf dX8_flyer_105
      · refine g_bipush (v := (-2)) S dX8_flyer_26 rfl ?_
        exact g_iretM rt hf dX8_flyer_28
    · refine g_iconst (v := (-1)) S dX8_flyer_15 rfl ?_
      exact g_iretM rt hf dX8_flyer_16
  · refine g_iconst (v := (-1)) S dX8_flyer_15 rfl ?_
    exact g_iretM rt hf dX8_flyer_16
-- BridleBookModel.blow(II)I
theorem dX8_blow_0 : decode cX8_blow 0 = .ok (.iload_n 1, 1) := by decide +kernel
theorem dX8_blow_1 : decode cX8_blow 1 = .ok (.iconst 0, 1) := by decide +kernel
theorem dX8_blow_2 : decode cX8_blow 2 = .ok (.iconst 3, 1) := by decide +kernel
theorem dX8_blow_3 : decode cX8_blow 3 = .ok (.invokestatic 111, 3) := by decide +kernel
theorem dX8_blow_6 : decode cX8_blow 6 = .ok (.ifCond .eq 14, 3) := by decide +kernel
theorem dX8_blow_9 : decode cX8_blow 9 = .ok (.iload_n 2, 1) := by decide +kernel
theorem dX8_blow_10 : decode cX8_blow 10 = .ok (.iconst 0, 1) := by decide +kernel
theorem dX8_blow_11 : decode cX8_blow 11 = .ok (.sipush 200, 3) := by decide +kernel
theorem dX8_blow_14 : decode cX8_blow 14 = .ok (.invokestatic 111, 3) := by decide +kernel
theorem dX8_blow_17 : decode cX8_blow 17 = .ok (.ifCond .ne 5, 3) := by decide +kernel
theorem dX8_blow_20 : decode cX8_blow 20 = .ok (.iconst (-1), 1) := by decide +kernel
theorem dX8_blow_21 : decode cX8_blow 21 = .ok (.ireturn, 1) := by decide +kernel
theorem dX8_blow_22 : decode cX8_blow 22 = .ok (.bipush 10, 2) := by decide +kernel
theorem dX8_blow_24 : decode cX8_blow 24 = .ok (.aload_n 0, 1) := by decide +kernel
theorem dX8_blow_25 : decode cX8_blow 25 = .ok (.getfield 93, 3) := by decide +kernel
theorem dX8_blow_28 : decode cX8_blow 28 = .ok (.imul, 1) := by decide +kernel
theorem dX8_blow_29 : decode cX8_blow 29 = .ok (.aload_n 0, 1) := by decide +kernel
theorem dX8_blow_30 : decode cX8_blow 30 = .ok (.getfield 206, 3) := by decide +kernel
theorem dX8_blow_33 : decode cX8_blow 33 = .ok (.iadd, 1) := by decide +kernel
theorem dX8_blow_34 : decode cX8_blow 34 = .ok (.istore_n 3, 1) := by decide +kernel
theorem dX8_blow_35 : decode cX8_blow 35 = .ok (.aload_n 0, 1) := by decide +kernel
theorem dX8_blow_36 : decode cX8_blow 36 = .ok (.iload_n 1, 1) := by decide +kernel
theorem dX8_blow_37 : decode cX8_blow 37 = .ok (.putfield 206, 3) := by decide +kernel
theorem dX8_blow_40 : decode cX8_blow 40 = .ok (.aload_n 0, 1) := by decide +kernel
theorem dX8_blow_41 : decode cX8_blow 41 = .ok (.iload_n 2, 1) := by decide +kernel
theorem dX8_blow_42 : decode cX8_blow 42 = .ok (.putfield 93, 3) := by decide +kernel
theorem dX8_blow_45 : decode cX8_blow 45 = .ok (.iload_n 3, 1) := by decide +kernel
theorem dX8_blow_46 : decode cX8_blow 46 = .ok (.ireturn, 1) := by decide +kernel
def f_X8_blow (z : Nat → Nat) (M : Mem) (p1 : Int32) (p2 : Int32) : Option (Int32 × Mem) := bd1 (f_X8_in z M p1 0 3) (fun r1 => if r1 = true then bd1 (f_X8_in z M p2 0 200) (fun r2 => if r2 = true then some (((10 * (M 0 31)) + (M 0 30)), (mu (mu M 0 30 p1) 0 31 p2)) else some ((-1), M)) else some ((-1), M))
theorem c_X8_blow {l : Launch} {G : GG} {a : AA} {M : Mem} {p1 : Int32} {p2 : Int32} {r : Int32} {M' : Mem} (hf : f_X8_blow a.1 M p1 p2 = some (r, M')) : CtI l G a yX8_blow cX8_blow 4 .int (rmD 1) [.ref (a.2 0), .int p1, .int p2] M r M' := by
  refine ct_I (by decide) rfl rfl (own := RX8) (Nat.le_of_ble_eq_true rfl) (fun K hl hg S rt => ?_)
  subst hl; subst hg
  unfold f_X8_blow at hf
  show Go K 4 a M 0 [(0, .ref (a.2 0)), (1, .int p1), (2, .int p2)] []
  refine g_iload_n 1 S dX8_blow_0 rfl ?_
  refine g_iconst (v := 0) S dX8_blow_1 rfl ?_
  refine g_iconst (v := 3) S dX8_blow_2 rfl ?_
  obtain ⟨r1, hr1, hf⟩ := bd1_some hf
  refine g_cSI (st := []) S ok_X8_in lk_X8_111 (c_X8_in hr1) rfl rfl ⟨by decide, by decide⟩ (rmD_z _) (Nat.le_of_ble_eq_true rfl) dX8_blow_3 ?_
  refine g_if_eqB (tgt := 20) S dX8_blow_6 (by decide) hf (fun c hf => ?_) (fun c hf => ?_)
  · refine g_iload_n 2 S dX8_blow_9 rfl ?_
    refine g_iconst (v := 0) S dX8_blow_10 rfl ?_
    refine g_sipush (v := 200) S dX8_blow_11 rfl ?_
    obtain ⟨r2, hr2, hf⟩ := bd1_some hf
    refine g_cSI (st := []) S ok_X8_in lk_X8_111 (c_X8_in hr2) rfl rfl ⟨by decide, by decide⟩ (rmD_z _) (Nat.le_of_ble_eq_true rfl) dX8_blow_14 ?_
    refine g_if_neB (tgt := 22) S dX8_blow_17 (by decide) hf (fun c hf => ?_) (fun c hf => ?_)
    · refine g_bipush (v := 10) S dX8_blow_22 rfl ?_
      refine g_aload_n 0 S dX8_blow_24 rfl ?_
      refine g_get (v := .int (M 0 31)) S ob_0 rfl gi_X8 (by decide) lf_X8_93 rfl dX8_blow_25 ?_
      refine g_imul S dX8_blow_28 ?_
      refine g_aload_n 0 S dX8_blow_29 rfl ?_
      refine g_get (v := .int (M 0 30)) S ob_0 rfl gi_X8 (by decide) lf_X8_206 rfl dX8_blow_30 ?_
      refine g_iadd S dX8_blow_33 ?_
      refine g_istore_n (lv' := [(3, .int ((10 * (M 0 31)) + (M 0 30))), (0, .ref (a.2 0)), (1, .int p1), (2, .int p2)]) S dX8_blow_34 (by decide) rfl ?_
      refine g_aload_n 1 S dX8_blow_35 rfl ?_
      refine g_iload_n 2 S dX8_blow_36 rfl ?_
      refine g_put (ty := .int) S ob_0 rfl gi_X8 tyX8_ok nmX8 (by decide) lf_X8_206 rfl (by decide +kernel) rfl rfl (Nat.le_of_ble_eq_true rfl) rfl dX8_blow_37 ?_
      refine g_aload_n 1 S dX8_blow_40 rfl ?_
      refine g_iload_n 3 S dX8_blow_41 rfl ?_
      refine g_put (ty := .int) S ob_0 rfl gi_X8 tyX8_ok nmX8 (by decide) lf_X8_93 rfl (by decide +kernel) rfl rfl (Nat.le_of_ble_eq_true rfl) rfl dX8_blow_42 ?_
      refine g_iload_n 0 S dX8_blow_45 rfl ?_
      exact g_iretM rt hf dX8_blow_46
    · refine g_iconst (v := (-1)) S dX8_blow_20 rfl ?_
      exact g_iretM rt hf dX8_blow_21
  · refine g_iconst (v := (-1)) S dX8_blow_20 rfl ?_
    exact g_iretM rt hf dX8_blow_21
