-- BridleBook.partingStep(ILBridleBook$Line;)I
theorem dX7_partingStep_0 : decode cX7_partingStep 0 = .ok (.aload_n 0, 1) := by decide +kernel
theorem dX7_partingStep_1 : decode cX7_partingStep 1 = .ok (.iload_n 1, 1) := by decide +kernel
theorem dX7_partingStep_2 : decode cX7_partingStep 2 = .ok (.aload_n 2, 1) := by decide +kernel
theorem dX7_partingStep_3 : decode cX7_partingStep 3 = .ok (.invokevirtual 187, 3) := by decide +kernel
theorem dX7_partingStep_6 : decode cX7_partingStep 6 = .ok (.iconst 0, 1) := by decide +kernel
theorem dX7_partingStep_7 : decode cX7_partingStep 7 = .ok (.istore_n 3, 1) := by decide +kernel
theorem dX7_partingStep_8 : decode cX7_partingStep 8 = .ok (.iconst 0, 1) := by decide +kernel
theorem dX7_partingStep_9 : decode cX7_partingStep 9 = .ok (.istore 4, 2) := by decide +kernel
theorem dX7_partingStep_11 : decode cX7_partingStep 11 = .ok (.iconst 1, 1) := by decide +kernel
theorem dX7_partingStep_12 : decode cX7_partingStep 12 = .ok (.istore 5, 2) := by decide +kernel
theorem dX7_partingStep_14 : decode cX7_partingStep 14 = .ok (.iload 5, 2) := by decide +kernel
theorem dX7_partingStep_16 : decode cX7_partingStep 16 = .ok (.aload_n 2, 1) := by decide +kernel
theorem dX7_partingStep_17 : decode cX7_partingStep 17 = .ok (.getfield 154, 3) := by decide +kernel
theorem dX7_partingStep_20 : decode cX7_partingStep 20 = .ok (.if_icmp .gt 41, 3) := by decide +kernel
theorem dX7_partingStep_23 : decode cX7_partingStep 23 = .ok (.aload_n 0, 1) := by decide +kernel
theorem dX7_partingStep_24 : decode cX7_partingStep 24 = .ok (.getfield 42, 3) := by decide +kernel
theorem dX7_partingStep_27 : decode cX7_partingStep 27 = .ok (.iload 5, 2) := by decide +kernel
theorem dX7_partingStep_29 : decode cX7_partingStep 29 = .ok (.invokevirtual 196, 3) := by decide +kernel
theorem dX7_partingStep_32 : decode cX7_partingStep 32 = .ok (.aload_n 2, 1) := by decide +kernel
theorem dX7_partingStep_33 : decode cX7_partingStep 33 = .ok (.iload 5, 2) := by decide +kernel
theorem dX7_partingStep_35 : decode cX7_partingStep 35 = .ok (.invokevirtual 184, 3) := by decide +kernel
theorem dX7_partingStep_38 : decode cX7_partingStep 38 = .ok (.isub, 1) := by decide +kernel
theorem dX7_partingStep_39 : decode cX7_partingStep 39 = .ok (.istore 6, 2) := by decide +kernel
theorem dX7_partingStep_41 : decode cX7_partingStep 41 = .ok (.iload 6, 2) := by decide +kernel
theorem dX7_partingStep_43 : decode cX7_partingStep 43 = .ok (.iload 4, 2) := by decide +kernel
theorem dX7_partingStep_45 : decode cX7_partingStep 45 = .ok (.if_icmp .le 10, 3) := by decide +kernel
theorem dX7_partingStep_48 : decode cX7_partingStep 48 = .ok (.iload 6, 2) := by decide +kernel
theorem dX7_partingStep_50 : decode cX7_partingStep 50 = .ok (.istore 4, 2) := by decide +kernel
theorem dX7_partingStep_52 : decode cX7_partingStep 52 = .ok (.iload 5, 2) := by decide +kernel
theorem dX7_partingStep_54 : decode cX7_partingStep 54 = .ok (.istore_n 3, 1) := by decide +kernel
theorem dX7_partingStep_55 : decode cX7_partingStep 55 = .ok (.iinc 5 1, 3) := by decide +kernel
theorem dX7_partingStep_58 : decode cX7_partingStep 58 = .ok (.goto (-44), 3) := by decide +kernel
theorem dX7_partingStep_61 : decode cX7_partingStep 61 = .ok (.iload_n 3, 1) := by decide +kernel
theorem dX7_partingStep_62 : decode cX7_partingStep 62 = .ok (.ireturn, 1) := by decide +kernel
def f_X7_partingStep_14 (z : Nat → Nat) (n2 : Nat) : Nat → Mem → Int32 → Int32 → Int32 → Option (Int32 × Mem)
  | 0, _, _, _, _ => none
  | fu + 1, M, x3, x4, x5 => if (M n2 0) < x5 then some (x3, M) else bd1 (f_X5_tensionAt z M x5) (fun r2 => bd1 (f_X3_strengthAt z n2 M x5) (fun r3 => if (r2 - r3) ≤ x4 then f_X7_partingStep_14 z n2 fu M x3 x4 (x5 + 1) else f_X7_partingStep_14 z n2 fu M x5 (r2 - r3) (x5 + 1)))
theorem t_X7_partingStep_14 {K : KK} {a : AA} {n2 : Nat} (hn2 : vL a.1 n2) (S : Sx K RX7 cX7_partingStep 7 (rmD 6)) {r : Int32} {M' : Mem} (rt : RtI K a cX7_partingStep r M') : ∀ (fu : Nat) (M : Mem) (x3 : Int32) (x4 : Int32) (x5 : Int32), f_X7_partingStep_14 a.1 n2 fu M x3 x4 x5 = some (r, M') → Go K 7 a M 14 [(0, .ref (a.2 50)), (2, .ref (a.2 n2)), (3, .int x3), (4, .int x4), (5, .int x5)] [] := by
  intro fu
  induction fu with
  | zero => intro M x3 x4 x5 hf; exact absurd hf (by simp [f_X7_partingStep_14])
  | succ fu ih =>
    intro M x3 x4 x5 hf
    rw [f_X7_partingStep_14] at hf
    refine g_iload 4 S dX7_partingStep_14 rfl ?_
    refine g_aload_n 1 S dX7_partingStep_16 rfl ?_
    refine g_get (v := .int (M n2 0)) S (ob_L hn2) rfl gi_X3 (by decide) lf_X7_154 rfl dX7_partingStep_17 ?_
    refine g_icmp_gt (tgt := 61) S dX7_partingStep_20 (by decide) hf (fun c hf => ?_) (fun c hf => ?_)
    · refine g_iload_n 2 S dX7_partingStep_61 rfl ?_
      exact g_iretM rt hf dX7_partingStep_62
    · refine g_aload_n 0 S dX7_partingStep_23 rfl ?_
      refine g_get (v := .ref (a.2 57)) S ob_50 rfl gi_X7 (by decide) lf_X7_42 rfl dX7_partingStep_24 ?_
      refine g_iload 4 S dX7_partingStep_27 rfl ?_
      obtain ⟨r2, hr2, hf⟩ := bd1_some hf
      refine g_cVI (st := []) S ob_57 rfl ok_X5_tensionAt lk_X7_196 (c_X5_tensionAt hr2) rfl rfl ⟨by decide, by decide⟩ (rmD_z _) (Nat.le_of_ble_eq_true rfl) dX7_partingStep_29 ?_
      refine g_aload_n 1 S dX7_partingStep_32 rfl ?_
      refine g_iload 4 S dX7_partingStep_33 rfl ?_
      obtain ⟨r3, hr3, hf⟩ := bd1_some hf
      refine g_cVI (st := [.int r2]) S (ob_L hn2) rfl ok_X3_strengthAt lk_X7_184 (c_X3_strengthAt hn2 hr3) rfl rfl ⟨by decide, by decide⟩ (rmD_z _) (Nat.le_of_ble_eq_true rfl) dX7_partingStep_35 ?_
      refine g_isub S dX7_partingStep_38 ?_
      refine g_istore (lv' := [(6, .int (r2 - r3)), (0, .ref (a.2 50)), (2, .ref (a.2 n2)), (3, .int x3), (4, .int x4), (5, .int x5)]) S dX7_partingStep_39 (by decide) rfl ?_
      refine g_iload 0 S dX7_partingStep_41 rfl ?_
      refine g_iload 4 S dX7_partingStep_43 rfl ?_
      refine g_icmp_le (tgt := 55) S dX7_partingStep_45 (by decide) hf (fun c hf => ?_) (fun c hf => ?_)
      · refine g_iinc (v := (x5 + 1)) (lv' := [(5, .int (x5 + 1)), (6, .int (r2 - r3)), (0, .ref (a.2 50)), (2, .ref (a.2 n2)), (3, .int x3), (4, .int x4)]) 5 S dX7_partingStep_55 rfl rfl (by decide) rfl ?_
        refine g_goto (tgt := 14) S dX7_partingStep_58 (by decide) ?_
        refine Go.sub [2, 3, 4, 5, 0] rfl ?_
        exact ih _ _ _ _ hf
      · refine g_iload 0 S dX7_partingStep_48 rfl ?_
        refine g_istore (lv' := [(4, .int (r2 - r3)), (6, .int (r2 - r3)), (0, .ref (a.2 50)), (2, .ref (a.2 n2)), (3, .int x3), (5, .int x5)]) S dX7_partingStep_50 (by decide) rfl ?_
        refine g_iload 5 S dX7_partingStep_52 rfl ?_
        refine g_istore_n (lv' := [(3, .int x5), (4, .int (r2 - r3)), (6, .int (r2 - r3)), (0, .ref (a.2 50)), (2, .ref (a.2 n2)), (5, .int x5)]) S dX7_partingStep_54 (by decide) rfl ?_
        refine g_iinc (v := (x5 + 1)) (lv' := [(5, .int (x5 + 1)), (3, .int x5), (4, .int (r2 - r3)), (6, .int (r2 - r3)), (0, .ref (a.2 50)), (2, .ref (a.2 n2))]) 5 S dX7_partingStep_55 rfl rfl (by decide) rfl ?_
        refine g_goto (tgt := 14) S dX7_partingStep_58 (by decide) ?_
        refine Go.sub [4, 5, 1, 2, 0] rfl ?_
        exact ih _ _ _ _ hf
def f_X7_partingStep (z : Nat → Nat) (n2 : Nat) (M : Mem) (p1 : Int32) : Option (Int32 × Mem) := bd1 (f_X7_loadTrain z n2 M p1) (fun M1 => f_X7_partingStep_14 z n2 1000 M1 0 0 1)
theorem c_X7_partingStep {l : Launch} {G : GG} {a : AA} {n2 : Nat} (hn2 : vL a.1 n2) {M : Mem} {p1 : Int32} {r : Int32} {M' : Mem} (hf : f_X7_partingStep a.1 n2 M p1 = some (r, M')) : CtI l G a yX7_partingStep cX7_partingStep 7 .int (rmD 6) [.ref (a.2 50), .int p1, .ref (a.2 n2)] M r M' := by
  refine ct_I (by decide) rfl rfl (own := RX7) (Nat.le_of_ble_eq_true rfl) (fun K hl hg S rt => ?_)
  subst hl; subst hg
  unfold f_X7_partingStep at hf
  show Go K 7 a M 0 [(0, .ref (a.2 50)), (1, .int p1), (2, .ref (a.2 n2))] []
  refine g_aload_n 0 S dX7_partingStep_0 rfl ?_
  refine g_iload_n 1 S dX7_partingStep_1 rfl ?_
  refine g_aload_n 2 S dX7_partingStep_2 rfl ?_
  obtain ⟨M1, hM1, hf⟩ := bd1_some hf
  refine g_cVV (st := []) S ob_50 rfl ok_X7_loadTrain lk_X7_187 (c_X7_loadTrain hn2 hM1) rfl rfl ⟨by decide, by decide⟩ (rmD_z _) (Nat.le_of_ble_eq_true rfl) dX7_partingStep_3 ?_
  refine g_iconst (v := 0) S dX7_partingStep_6 rfl ?_
  refine g_istore_n (lv' := [(3, .int 0), (0, .ref (a.2 50)), (1, .int p1), (2, .ref (a.2 n2))]) S dX7_partingStep_7 (by decide) rfl ?_
  refine g_iconst (v := 0) S dX7_partingStep_8 rfl ?_
  refine g_istore (lv' := [(4, .int 0), (3, .int 0), (0, .ref (a.2 50)), (1, .int p1), (2, .ref (a.2 n2))]) S dX7_partingStep_9 (by decide) rfl ?_
  refine g_iconst (v := 1) S dX7_partingStep_11 rfl ?_
  refine g_istore (lv' := [(5, .int 1), (4, .int 0), (3, .int 0), (0, .ref (a.2 50)), (1, .int p1), (2, .ref (a.2 n2))]) S dX7_partingStep_12 (by decide) rfl ?_
  refine Go.sub [3, 5, 2, 1, 0] rfl ?_
  exact t_X7_partingStep_14 hn2 S rt 1000 _ _ _ _ hf
-- BridleBook.ofLine(II)I
theorem dX7_ofLine_0 : decode cX7_ofLine 0 = .ok (.aload_n 0, 1) := by decide +kernel
theorem dX7_ofLine_1 : decode cX7_ofLine 1 = .ok (.iload_n 1, 1) := by decide +kernel
theorem dX7_ofLine_2 : decode cX7_ofLine 2 = .ok (.invokevirtual 150, 3) := by decide +kernel
theorem dX7_ofLine_5 : decode cX7_ofLine 5 = .ok (.astore_n 3, 1) := by decide +kernel
theorem dX7_ofLine_6 : decode cX7_ofLine 6 = .ok (.aload_n 3, 1) := by decide +kernel
theorem dX7_ofLine_7 : decode cX7_ofLine 7 = .ok (.ifnonnull 6, 3) := by decide +kernel
theorem dX7_ofLine_10 : decode cX7_ofLine 10 = .ok (.ldc 111, 2) := by decide +kernel
theorem dX7_ofLine_12 : decode cX7_ofLine 12 = .ok (.ireturn, 1) := by decide +kernel
theorem dX7_ofLine_13 : decode cX7_ofLine 13 = .ok (.iload_n 2, 1) := by decide +kernel
theorem dX7_ofLine_14 : decode cX7_ofLine 14 = .ok (.tableswitch 73 0 4 #[34, 39, 45, 50, 58], 34) := by decide +kernel
theorem dX7_ofLine_48 : decode cX7_ofLine 48 = .ok (.aload_n 3, 1) := by decide +kernel
theorem dX7_ofLine_49 : decode cX7_ofLine 49 = .ok (.getfield 154, 3) := by decide +kernel
theorem dX7_ofLine_52 : decode cX7_ofLine 52 = .ok (.ireturn, 1) := by decide +kernel
theorem dX7_ofLine_53 : decode cX7_ofLine 53 = .ok (.aload_n 0, 1) := by decide +kernel
theorem dX7_ofLine_54 : decode cX7_ofLine 54 = .ok (.iload_n 1, 1) := by decide +kernel
theorem dX7_ofLine_55 : decode cX7_ofLine 55 = .ok (.invokevirtual 163, 3) := by decide +kernel
theorem dX7_ofLine_58 : decode cX7_ofLine 58 = .ok (.ireturn, 1) := by decide +kernel
theorem dX7_ofLine_59 : decode cX7_ofLine 59 = .ok (.aload_n 3, 1) := by decide +kernel
theorem dX7_ofLine_60 : decode cX7_ofLine 60 = .ok (.getfield 173, 3) := by decide +kernel
theorem dX7_ofLine_63 : decode cX7_ofLine 63 = .ok (.ireturn, 1) := by decide +kernel
theorem dX7_ofLine_64 : decode cX7_ofLine 64 = .ok (.aload_n 0, 1) := by decide +kernel
theorem dX7_ofLine_65 : decode cX7_ofLine 65 = .ok (.iload_n 1, 1) := by decide +kernel
theorem dX7_ofLine_66 : decode cX7_ofLine 66 = .ok (.aload_n 3, 1) := by decide +kernel
theorem dX7_ofLine_67 : decode cX7_ofLine 67 = .ok (.iconst (-1), 1) := by decide +kernel
theorem dX7_ofLine_68 : decode cX7_ofLine 68 = .ok (.invokevirtual 176, 3) := by decide +kernel
theorem dX7_ofLine_71 : decode cX7_ofLine 71 = .ok (.ireturn, 1) := by decide +kernel
theorem dX7_ofLine_72 : decode cX7_ofLine 72 = .ok (.aload_n 0, 1) := by decide +kernel
theorem dX7_ofLine_73 : decode cX7_ofLine 73 = .ok (.iload_n 1, 1) := by decide +kernel
theorem dX7_ofLine_74 : decode cX7_ofLine 74 = .ok (.aload_n 3, 1) := by decide +kernel
theorem dX7_ofLine_75 : decode cX7_ofLine 75 = .ok (.invokevirtual 180, 3) := by decide +kernel
theorem dX7_ofLine_78 : decode cX7_ofLine 78 = .ok (.ifCond .ne 7, 3) := by decide +kernel
theorem dX7_ofLine_81 : decode cX7_ofLine 81 = .ok (.iconst 0, 1) := by decide +kernel
theorem dX7_ofLine_82 : decode cX7_ofLine 82 = .ok (.goto 4, 3) := by decide +kernel
theorem dX7_ofLine_85 : decode cX7_ofLine 85 = .ok (.iconst 1, 1) := by decide +kernel
theorem dX7_ofLine_86 : decode cX7_ofLine 86 = .ok (.ireturn, 1) := by decide +kernel
theorem dX7_ofLine_87 : decode cX7_ofLine 87 = .ok (.ldc 111, 2) := by decide +kernel
theorem dX7_ofLine_89 : decode cX7_ofLine 89 = .ok (.ireturn, 1) := by decide +kernel
def f_X7_ofLine (z : Nat → Nat) (M : Mem) (p1 : Int32) (p2 : Int32) : Option (Int32 × Mem) := bd1 (f_X7_lineAt z M p1) (fun r1 => mq r1 (some ((-2000000000), M)) (fun n2 => if p2 = 0 then some ((M n2 0), M) else if p2 = 1 then bd1 (f_X7_kitesOn z M p1) (fun r3 => some (r3, M)) else if p2 = 2 then some ((M n2 4), M) else if p2 = 3 then bd1 (f_X7_liftsOf z n2 M p1 (-1)) (fun r4 => some (r4, M)) else if p2 = 4 then bd2 (f_X7_partingStep z n2 M p1) (fun r5 M6 => if r5 = 0 then some (0, M6) else some (1, M6)) else (some ((-2000000000), M))))
theorem c_X7_ofLine {l : Launch} {G : GG} {a : AA} {M : Mem} {p1 : Int32} {p2 : Int32} {r : Int32} {M' : Mem} (hf : f_X7_ofLine a.1 M p1 p2 = some (r, M')) : CtI l G a yX7_ofLine cX7_ofLine 4 .int (rmD 7) [.ref (a.2 50), .int p1, .int p2] M r M' := by
  refine ct_I (by decide) rfl rfl (own := RX7) (Nat.le_of_ble_eq_true rfl) (fun K hl hg S rt => ?_)
  subst hl; subst hg
  unfold f_X7_ofLine at hf
  show Go K 4 a M 0 [(0, .ref (a.2 50)), (1, .int p1), (2, .int p2)] []
  refine g_aload_n 0 S dX7_ofLine_0 rfl ?_
  refine g_iload_n 1 S dX7_ofLine_1 rfl ?_
  obtain ⟨r1, hr1, hf⟩ := bd1_some hf
  refine g_cVQ (st := []) S ob_50 rfl ok_X7_lineAt lk_X7_150 (c_X7_lineAt hr1) rfl rfl ⟨by decide, by decide⟩ (rmD_z _) (Nat.le_of_ble_eq_true rfl) dX7_ofLine_2 ?_
  rcases r1 with _ | n2
  · refine Go.st (st' := [.null]) rfl ?_
    refine g_astore_nN (lv' := [(3, .null), (0, .ref (a.2 50)), (1, .int p1), (2, .int p2)]) S dX7_ofLine_5 (by decide) rfl ?_
    refine g_aload_nN 0 S dX7_ofLine_6 rfl ?_
    refine g_ifnonnullN S dX7_ofLine_7 ?_
    refine g_ldc S lc_X7_111 dX7_ofLine_10 ?_
    exact g_iretM rt hf dX7_ofLine_12
  · have hn2 := vd_X7_lineAt hr1
    refine Go.st (st' := [.ref (a.2 n2)]) rfl ?_
    refine g_astore_n (lv' := [(3, .ref (a.2 n2)), (0, .ref (a.2 50)), (1, .int p1), (2, .int p2)]) S dX7_ofLine_5 (by decide) rfl ?_
    refine g_aload_n 0 S dX7_ofLine_6 rfl ?_
    refine g_ifnonnull (tgt := 13) S dX7_ofLine_7 (by decide) ?_
    refine g_iload_n 3 S dX7_ofLine_13 rfl ?_
    refine sp_if hf (fun c0 hf => ?_) (fun c0 hf => ?_)
    · refine g_tabIn (tgt := 48) 0 S dX7_ofLine_14 c0 (by decide) (by decide) rfl (by decide) ?_
      refine g_aload_n 0 S dX7_ofLine_48 rfl ?_
      refine g_get (v := .int (M n2 0)) S (ob_L hn2) rfl gi_X3 (by decide) lf_X7_154 rfl dX7_ofLine_49 ?_
      exact g_iretM rt hf dX7_ofLine_52
    refine sp_if hf (fun c1 hf => ?_) (fun c1 hf => ?_)
    · refine g_tabIn (tgt := 53) 1 S dX7_ofLine_14 c1 (by decide) (by decide) rfl (by decide) ?_
      refine g_aload_n 1 S dX7_ofLine_53 rfl ?_
      refine g_iload_n 2 S dX7_ofLine_54 rfl ?_
      obtain ⟨r3, hr3, hf⟩ := bd1_some hf
      refine g_cVI (st := []) S ob_50 rfl ok_X7_kitesOn lk_X7_163 (c_X7_kitesOn hr3) rfl rfl ⟨by decide, by decide⟩ (rmD_z _) (Nat.le_of_ble_eq_true rfl) dX7_ofLine_55 ?_
      exact g_iretM rt hf dX7_ofLine_58
    refine sp_if hf (fun c2 hf => ?_) (fun c2 hf => ?_)
    · refine g_tabIn (tgt := 59) 2 S dX7_ofLine_14 c2 (by decide) (by decide) rfl (by decide) ?_
      refine g_aload_n 0 S dX7_ofLine_59 rfl ?_
      refine g_get (v := .int (M n2 4)) S (ob_L hn2) rfl gi_X3 (by decide) lf_X7_173 rfl dX7_ofLine_60 ?_
      exact g_iretM rt hf dX7_ofLine_63
    refine sp_if hf (fun c3 hf => ?_) (fun c3 hf => ?_)
    · refine g_tabIn (tgt := 64) 3 S dX7_ofLine_14 c3 (by decide) (by decide) rfl (by decide) ?_
      refine g_aload_n 1 S dX7_ofLine_64 rfl ?_
      refine g_iload_n 2 S dX7_ofLine_65 rfl ?_
      refine g_aload_n 0 S dX7_ofLine_66 rfl ?_
      refine g_iconst (v := (-1)) S dX7_ofLine_67 rfl ?_
      obtain ⟨r4, hr4, hf⟩ := bd1_some hf
      refine g_cVI (st := []) S ob_50 rfl ok_X7_liftsOf lk_X7_176 (c_X7_liftsOf hn2 hr4) rfl rfl ⟨by decide, by decide⟩ (rmD_z _) (Nat.le_of_ble_eq_true rfl) dX7_ofLine_68 ?_
      exact g_iretM rt hf dX7_ofLine_71
    refine sp_if hf (fun c4 hf => ?_) (fun c4 hf => ?_)
    · refine g_tabIn (tgt := 72) 4 S dX7_ofLine_14 c4 (by decide) (by decide) rfl (by decide) ?_
      refine g_aload_n 1 S dX7_ofLine_72 rfl ?_
      refine g_iload_n 2 S dX7_ofLine_73 rfl ?_
      refine g_aload_n 0 S dX7_ofLine_74 rfl ?_
      obtain ⟨r5, M6, hr5, hf⟩ := bd2_some hf
      refine g_cVI (st := []) S ob_50 rfl ok_X7_partingStep lk_X7_180 (c_X7_partingStep hn2 hr5) rfl rfl ⟨by decide, by decide⟩ (rmD_z _) (Nat.le_of_ble_eq_true rfl) dX7_ofLine_75 ?_
      refine g_if_ne (tgt := 85) S dX7_ofLine_78 (by decide) hf (fun c hf => ?_) (fun c hf => ?_)
      · refine g_iconst (v := 0) S dX7_ofLine_81 rfl ?_
        refine g_goto (tgt := 86) S dX7_ofLine_82 (by decide) ?_
        exact g_iretM rt hf dX7_ofLine_86
      · refine g_iconst (v := 1) S dX7_ofLine_85 rfl ?_
        exact g_iretM rt hf dX7_ofLine_86
    refine g_tabOut (tgt := 87) S dX7_ofLine_14 (by have := sw_ne c0; simp only [show ((0 : Int32).toInt) = 0 from by decide] at this; have := sw_ne c1; simp only [show ((1 : Int32).toInt) = 1 from by decide] at this; have := sw_ne c2; simp only [show ((2 : Int32).toInt) = 2 from by decide] at this; have := sw_ne c3; simp only [show ((3 : Int32).toInt) = 3 from by decide] at this; have := sw_ne c4; simp only [show ((4 : Int32).toInt) = 4 from by decide] at this; omega) (by decide) ?_
    refine g_ldc S lc_X7_111 dX7_ofLine_87 ?_
    exact g_iretM rt hf dX7_ofLine_89
-- BridleBook.step(III)I
theorem dX7_step_0 : decode cX7_step 0 = .ok (.aload_n 0, 1) := by decide +kernel
theorem dX7_step_1 : decode cX7_step 1 = .ok (.iload_n 1, 1) := by decide +kernel
theorem dX7_step_2 : decode cX7_step 2 = .ok (.invokevirtual 150, 3) := by decide +kernel
theorem dX7_step_5 : decode cX7_step 5 = .ok (.astore 4, 2) := by decide +kernel
theorem dX7_step_7 : decode cX7_step 7 = .ok (.aload 4, 2) := by decide +kernel
theorem dX7_step_9 : decode cX7_step 9 = .ok (.ifnull 25, 3) := by decide +kernel
theorem dX7_step_12 : decode cX7_step 12 = .ok (.iload_n 2, 1) := by decide +kernel
theorem dX7_step_13 : decode cX7_step 13 = .ok (.iconst 1, 1) := by decide +kernel
theorem dX7_step_14 : decode cX7_step 14 = .ok (.aload 4, 2) := by decide +kernel
theorem dX7_step_16 : decode cX7_step 16 = .ok (.getfield 154, 3) := by decide +kernel
theorem dX7_step_19 : decode cX7_step 19 = .ok (.invokestatic 99, 3) := by decide +kernel
theorem dX7_step_22 : decode cX7_step 22 = .ok (.ifCond .eq 12, 3) := by decide +kernel
theorem dX7_step_25 : decode cX7_step 25 = .ok (.iload_n 3, 1) := by decide +kernel
theorem dX7_step_26 : decode cX7_step 26 = .ok (.iconst 0, 1) := by decide +kernel
theorem dX7_step_27 : decode cX7_step 27 = .ok (.iconst 5, 1) := by decide +kernel
theorem dX7_step_28 : decode cX7_step 28 = .ok (.invokestatic 99, 3) := by decide +kernel
theorem dX7_step_31 : decode cX7_step 31 = .ok (.ifCond .ne 6, 3) := by decide +kernel
theorem dX7_step_34 : decode cX7_step 34 = .ok (.ldc 111, 2) := by decide +kernel
theorem dX7_step_36 : decode cX7_step 36 = .ok (.ireturn, 1) := by decide +kernel
theorem dX7_step_37 : decode cX7_step 37 = .ok (.iload_n 3, 1) := by decide +kernel
theorem dX7_step_38 : decode cX7_step 38 = .ok (.iconst 5, 1) := by decide +kernel
theorem dX7_step_39 : decode cX7_step 39 = .ok (.if_icmp .ne 10, 3) := by decide +kernel
theorem dX7_step_42 : decode cX7_step 42 = .ok (.aload 4, 2) := by decide +kernel
theorem dX7_step_44 : decode cX7_step 44 = .ok (.iload_n 2, 1) := by decide +kernel
theorem dX7_step_45 : decode cX7_step 45 = .ok (.invokevirtual 184, 3) := by decide +kernel
theorem dX7_step_48 : decode cX7_step 48 = .ok (.ireturn, 1) := by decide +kernel
theorem dX7_step_49 : decode cX7_step 49 = .ok (.aload_n 0, 1) := by decide +kernel
theorem dX7_step_50 : decode cX7_step 50 = .ok (.iload_n 1, 1) := by decide +kernel
theorem dX7_step_51 : decode cX7_step 51 = .ok (.aload 4, 2) := by decide +kernel
theorem dX7_step_53 : decode cX7_step 53 = .ok (.invokevirtual 187, 3) := by decide +kernel
theorem dX7_step_56 : decode cX7_step 56 = .ok (.iload_n 3, 1) := by decide +kernel
theorem dX7_step_57 : decode cX7_step 57 = .ok (.tableswitch 67 0 3 #[31, 40, 49, 58], 31) := by decide +kernel
theorem dX7_step_88 : decode cX7_step 88 = .ok (.aload_n 0, 1) := by decide +kernel
theorem dX7_step_89 : decode cX7_step 89 = .ok (.getfield 42, 3) := by decide +kernel
theorem dX7_step_92 : decode cX7_step 92 = .ok (.iload_n 2, 1) := by decide +kernel
theorem dX7_step_93 : decode cX7_step 93 = .ok (.invokevirtual 191, 3) := by decide +kernel
theorem dX7_step_96 : decode cX7_step 96 = .ok (.ireturn, 1) := by decide +kernel
theorem dX7_step_97 : decode cX7_step 97 = .ok (.aload_n 0, 1) := by decide +kernel
theorem dX7_step_98 : decode cX7_step 98 = .ok (.getfield 42, 3) := by decide +kernel
theorem dX7_step_101 : decode cX7_step 101 = .ok (.iload_n 2, 1) := by decide +kernel
theorem dX7_step_102 : decode cX7_step 102 = .ok (.invokevirtual 194, 3) := by decide +kernel
theorem dX7_step_105 : decode cX7_step 105 = .ok (.ireturn, 1) := by decide +kernel
theorem dX7_step_106 : decode cX7_step 106 = .ok (.aload_n 0, 1) := by decide +kernel
theorem dX7_step_107 : decode cX7_step 107 = .ok (.getfield 42, 3) := by decide +kernel
theorem dX7_step_110 : decode cX7_step 110 = .ok (.iload_n 2, 1) := by decide +kernel
theorem dX7_step_111 : decode cX7_step 111 = .ok (.invokevirtual 196, 3) := by decide +kernel
theorem dX7_step_114 : decode cX7_step 114 = .ok (.ireturn, 1) := by decide +kernel
theorem dX7_step_115 : decode cX7_step 115 = .ok (.aload_n 0, 1) := by decide +kernel
theorem dX7_step_116 : decode cX7_step 116 = .ok (.getfield 42, 3) := by decide +kernel
theorem dX7_step_119 : decode cX7_step 119 = .ok (.iload_n 2, 1) := by decide +kernel
theorem dX7_step_120 : decode cX7_step 120 = .ok (.invokevirtual 199, 3) := by decide +kernel
theorem dX7_step_123 : decode cX7_step 123 = .ok (.ireturn, 1) := by decide +kernel
theorem dX7_step_124 : decode cX7_step 124 = .ok (.aload_n 0, 1) := by decide +kernel
theorem dX7_step_125 : decode cX7_step 125 = .ok (.getfield 42, 3) := by decide +kernel
theorem dX7_step_128 : decode cX7_step 128 = .ok (.iload_n 2, 1) := by decide +kernel
theorem dX7_step_129 : decode cX7_step 129 = .ok (.invokevirtual 202, 3) := by decide +kernel
theorem dX7_step_132 : decode cX7_step 132 = .ok (.ireturn, 1) := by decide +kernel
def f_X7_step (z : Nat → Nat) (M : Mem) (p1 : Int32) (p2 : Int32) (p3 : Int32) : Option (Int32 × Mem) := bd1 (f_X7_lineAt z M p1) (fun r1 => mq r1 (some ((-2000000000), M)) (fun n2 => bd1 (f_X7_within z M p2 1 (M n2 0)) (fun r3 => if r3 = true then bd1 (f_X7_within z M p3 0 5) (fun r4 => if r4 = true then if p3 = 5 then bd1 (f_X3_strengthAt z n2 M p2) (fun r5 => some (r5, M)) else bd1 (f_X7_loadTrain z n2 M p1) (fun M6 => if p3 = 0 then bd1 (f_X5_acrossAt z M6 p2) (fun r7 => some (r7, M6)) else if p3 = 1 then bd1 (f_X5_upAt z M6 p2) (fun r8 => some (r8, M6)) else if p3 = 2 then bd1 (f_X5_tensionAt z M6 p2) (fun r9 => some (r9, M6)) else if p3 = 3 then bd1 (f_X5_placeAcross z M6 p2) (fun r10 => some (r10, M6)) else (bd1 (f_X5_placeUp z M6 p2) (fun r11 => some (r11, M6)))) else some ((-2000000000), M)) else some ((-2000000000), M))))
theorem c_X7_step {l : Launch} {G : GG} {a : AA} {M : Mem} {p1 : Int32} {p2 : Int32} {p3 : Int32} {r : Int32} {M' : Mem} (hf : f_X7_step a.1 M p1 p2 p3 = some (r, M')) : CtI l G a yX7_step cX7_step 5 .int (rmD 6) [.ref (a.2 50), .int p1, .int p2, .int p3] M r M' := by
  refine ct_I (by decide) rfl rfl (own := RX7) (Nat.le_of_ble_eq_true rfl) (fun K hl hg S rt => ?_)
  subst hl; subst hg
  unfold f_X7_step at hf
  show Go K 5 a M 0 [(0, .ref (a.2 50)), (1, .int p1), (2, .int p2), (3, .int p3)] []
  refine g_aload_n 0 S dX7_step_0 rfl ?_
  refine g_iload_n 1 S dX7_step_1 rfl ?_
  obtain ⟨r1, hr1, hf⟩ := bd1_some hf
  refine g_cVQ (st := []) S ob_50 rfl ok_X7_lineAt lk_X7_150 (c_X7_lineAt hr1) rfl rfl ⟨by decide, by decide⟩ (rmD_z _) (Nat.le_of_ble_eq_true rfl) dX7_step_2 ?_
  rcases r1 with _ | n2
  · refine Go.st (st' := [.null]) rfl ?_
    refine g_astoreN (lv' := [(4, .null), (0, .ref (a.2 50)), (1, .int p1), (2, .int p2), (3, .int p3)]) S dX7_step_5 (by decide) rfl ?_
    refine g_aloadN 0 S dX7_step_7 rfl ?_
    refine g_ifnullN (tgt := 34) S dX7_step_9 (by decide) ?_
    refine g_ldc S lc_X7_111 dX7_step_34 ?_
    exact g_iretM rt hf dX7_step_36
  · have hn2 := vd_X7_lineAt hr1
    refine Go.st (st' := [.ref (a.2 n2)]) rfl ?_
    refine g_astore (lv' := [(4, .ref (a.2 n2)), (0, .ref (a.2 50)), (1, .int p1), (2, .int p2), (3, .int p3)]) S dX7_step_5 (by decide) rfl ?_
    refine g_aload 0 S dX7_step_7 rfl ?_
    refine g_ifnull S dX7_step_9 ?_
    refine g_iload_n 3 S dX7_step_12 rfl ?_
    refine g_iconst (v := 1) S dX7_step_13 rfl ?_
    refine g_aload 0 S dX7_step_14 rfl ?_
    refine g_get (v := .int (M n2 0)) S (ob_L hn2) rfl gi_X3 (by decide) lf_X7_154 rfl dX7_step_16 ?_
    obtain ⟨r3, hr3, hf⟩ := bd1_some hf
    refine g_cSI (st := []) S ok_X7_within lk_X7_99 (c_X7_within hr3) rfl rfl ⟨by decide, by decide⟩ (rmD_z _) (Nat.le_of_ble_eq_true rfl) dX7_step_19 ?_
    refine g_if_eqB (tgt := 34) S dX7_step_22 (by decide) hf (fun c hf => ?_) (fun c hf => ?_)
    · refine g_iload_n 4 S dX7_step_25 rfl ?_
      refine g_iconst (v := 0) S dX7_step_26 rfl ?_
      refine g_iconst (v := 5) S dX7_step_27 rfl ?_
      obtain ⟨r4, hr4, hf⟩ := bd1_some hf
      refine g_cSI (st := []) S ok_X7_within lk_X7_99 (c_X7_within hr4) rfl rfl ⟨by decide, by decide⟩ (rmD_z _) (Nat.le_of_ble_eq_true rfl) dX7_step_28 ?_
      refine g_if_neB (tgt := 37) S dX7_step_31 (by decide) hf (fun c hf => ?_) (fun c hf => ?_)
      · refine g_iload_n 4 S dX7_step_37 rfl ?_
        refine g_iconst (v := 5) S dX7_step_38 rfl ?_
        refine g_icmp_ne (tgt := 49) S dX7_step_39 (by decide) hf (fun c hf => ?_) (fun c hf => ?_)
        · refine g_aload 0 S dX7_step_42 rfl ?_
          refine g_iload_n 3 S dX7_step_44 rfl ?_
          obtain ⟨r5, hr5, hf⟩ := bd1_some hf
          refine g_cVI (st := []) S (ob_L hn2) rfl ok_X3_strengthAt lk_X7_184 (c_X3_strengthAt hn2 hr5) rfl rfl ⟨by decide, by decide⟩ (rmD_z _) (Nat.le_of_ble_eq_true rfl) dX7_step_45 ?_
          exact g_iretM rt hf dX7_step_48
        · refine g_aload_n 1 S dX7_step_49 rfl ?_
          refine g_iload_n 2 S dX7_step_50 rfl ?_
          refine g_aload 0 S dX7_step_51 rfl ?_
          obtain ⟨M6, hM6, hf⟩ := bd1_some hf
          refine g_cVV (st := []) S ob_50 rfl ok_X7_loadTrain lk_X7_187 (c_X7_loadTrain hn2 hM6) rfl rfl ⟨by decide, by decide⟩ (rmD_z _) (Nat.le_of_ble_eq_true rfl) dX7_step_53 ?_
          refine g_iload_n 4 S dX7_step_56 rfl ?_
          refine sp_if hf (fun c0 hf => ?_) (fun c0 hf => ?_)
          · refine g_tabIn (tgt := 88) 0 S dX7_step_57 c0 (by decide) (by decide) rfl (by decide) ?_
            refine g_aload_n 1 S dX7_step_88 rfl ?_
            refine g_get (v := .ref (a.2 57)) S ob_50 rfl gi_X7 (by decide) lf_X7_42 rfl dX7_step_89 ?_
            refine g_iload_n 3 S dX7_step_92 rfl ?_
            obtain ⟨r7, hr7, hf⟩ := bd1_some hf
            refine g_cVI (st := []) S ob_57 rfl ok_X5_acrossAt lk_X7_191 (c_X5_acrossAt hr7) rfl rfl ⟨by decide, by decide⟩ (rmD_z _) (Nat.le_of_ble_eq_true rfl) dX7_step_93 ?_
            exact g_iretM rt hf dX7_step_96
          refine sp_if hf (fun c1 hf => ?_) (fun c1 hf => ?_)
          · refine g_tabIn (tgt := 97) 1 S dX7_step_57 c1 (by decide) (by decide) rfl (by decide) ?_
            refine g_aload_n 1 S dX7_step_97 rfl ?_
            refine g_get (v := .ref (a.2 57)) S ob_50 rfl gi_X7 (by decide) lf_X7_42 rfl dX7_step_98 ?_
            refine g_iload_n 3 S dX7_step_101 rfl ?_
            obtain ⟨r8, hr8, hf⟩ := bd1_some hf
            refine g_cVI (st := []) S ob_57 rfl ok_X5_upAt lk_X7_194 (c_X5_upAt hr8) rfl rfl ⟨by decide, by decide⟩ (rmD_z _) (Nat.le_of_ble_eq_true rfl) dX7_step_102 ?_
            exact g_iretM rt hf dX7_step_105
          refine sp_if hf (fun c2 hf => ?_) (fun c2 hf => ?_)
          · refine g_tabIn (tgt := 106) 2 S dX7_step_57 c2 (by decide) (by decide) rfl (by decide) ?_
            refine g_aload_n 1 S dX7_step_106 rfl ?_
            refine g_get (v := .ref (a.2 57)) S ob_50 rfl gi_X7 (by decide) lf_X7_42 rfl dX7_step_107 ?_
            refine g_iload_n 3 S dX7_step_110 rfl ?_
            obtain ⟨r9, hr9, hf⟩ := bd1_some hf
            refine g_cVI (st := []) S ob_57 rfl ok_X5_tensionAt lk_X7_196 (c_X5_tensionAt hr9) rfl rfl ⟨by decide, by decide⟩ (rmD_z _) (Nat.le_of_ble_eq_true rfl) dX7_step_111 ?_
            exact g_iretM rt hf dX7_step_114
          refine sp_if hf (fun c3 hf => ?_) (fun c3 hf => ?_)
          · refine g_tabIn (tgt := 115) 3 S dX7_step_57 c3 (by decide) (by decide) rfl (by decide) ?_
            refine g_aload_n 1 S dX7_step_115 rfl ?_
            refine g_get (v := .ref (a.2 57)) S ob_50 rfl gi_X7 (by decide) lf_X7_42 rfl dX7_step_116 ?_
            refine g_iload_n 3 S dX7_step_119 rfl ?_
            obtain ⟨r10, hr10, hf⟩ := bd1_some hf
            refine g_cVI (st := []) S ob_57 rfl ok_X5_placeAcross lk_X7_199 (c_X5_placeAcross hr10) rfl rfl ⟨by decide, by decide⟩ (rmD_z _) (Nat.le_of_ble_eq_true rfl) dX7_step_120 ?_
            exact g_iretM rt hf dX7_step_123
          refine g_tabOut (tgt := 124) S dX7_step_57 (by have := sw_ne c0; simp only [show ((0 : Int32).toInt) = 0 from by decide] at this; have := sw_ne c1; simp only [show ((1 : Int32).toInt) = 1 from by decide] at this; have := sw_ne c2; simp only [show ((2 : Int32).toInt) = 2 from by decide] at this; have := sw_ne c3; simp only [show ((3 : Int32).toInt) = 3 from by decide] at this; omega) (by decide) ?_
          refine g_aload_n 1 S dX7_step_124 rfl ?_
          refine g_get (v := .ref (a.2 57)) S ob_50 rfl gi_X7 (by decide) lf_X7_42 rfl dX7_step_125 ?_
          refine g_iload_n 3 S dX7_step_128 rfl ?_
          obtain ⟨r11, hr11, hf⟩ := bd1_some hf
          refine g_cVI (st := []) S ob_57 rfl ok_X5_placeUp lk_X7_202 (c_X5_placeUp hr11) rfl rfl ⟨by decide, by decide⟩ (rmD_z _) (Nat.le_of_ble_eq_true rfl) dX7_step_129 ?_
          exact g_iretM rt hf dX7_step_132
      · refine g_ldc S lc_X7_111 dX7_step_34 ?_
        exact g_iretM rt hf dX7_step_36
    · refine g_ldc S lc_X7_111 dX7_step_34 ?_
      exact g_iretM rt hf dX7_step_36
-- BridleBook.sever(ILBridleBook$Line;I)V
theorem dX7_sever_0 : decode cX7_sever 0 = .ok (.iconst 0, 1) := by decide +kernel
theorem dX7_sever_1 : decode cX7_sever 1 = .ok (.istore 4, 2) := by decide +kernel
theorem dX7_sever_3 : decode cX7_sever 3 = .ok (.iload 4, 2) := by decide +kernel
theorem dX7_sever_5 : decode cX7_sever 5 = .ok (.aload_n 0, 1) := by decide +kernel
theorem dX7_sever_6 : decode cX7_sever 6 = .ok (.getfield 22, 3) := by decide +kernel
theorem dX7_sever_9 : decode cX7_sever 9 = .ok (.if_icmp .ge 46, 3) := by decide +kernel
theorem dX7_sever_12 : decode cX7_sever 12 = .ok (.aload_n 0, 1) := by decide +kernel
theorem dX7_sever_13 : decode cX7_sever 13 = .ok (.iload 4, 2) := by decide +kernel
theorem dX7_sever_15 : decode cX7_sever 15 = .ok (.invokevirtual 95, 3) := by decide +kernel
theorem dX7_sever_18 : decode cX7_sever 18 = .ok (.astore 5, 2) := by decide +kernel
theorem dX7_sever_20 : decode cX7_sever 20 = .ok (.aload 5, 2) := by decide +kernel
theorem dX7_sever_22 : decode cX7_sever 22 = .ok (.ifnull 27, 3) := by decide +kernel
theorem dX7_sever_25 : decode cX7_sever 25 = .ok (.aload 5, 2) := by decide +kernel
theorem dX7_sever_27 : decode cX7_sever 27 = .ok (.getfield 157, 3) := by decide +kernel
theorem dX7_sever_30 : decode cX7_sever 30 = .ok (.iload_n 1, 1) := by decide +kernel
theorem dX7_sever_31 : decode cX7_sever 31 = .ok (.if_icmp .ne 18, 3) := by decide +kernel
theorem dX7_sever_34 : decode cX7_sever 34 = .ok (.aload 5, 2) := by decide +kernel
theorem dX7_sever_36 : decode cX7_sever 36 = .ok (.getfield 160, 3) := by decide +kernel
theorem dX7_sever_39 : decode cX7_sever 39 = .ok (.iload_n 3, 1) := by decide +kernel
theorem dX7_sever_40 : decode cX7_sever 40 = .ok (.if_icmp .lt 9, 3) := by decide +kernel
theorem dX7_sever_43 : decode cX7_sever 43 = .ok (.aload 5, 2) := by decide +kernel
theorem dX7_sever_45 : decode cX7_sever 45 = .ok (.iconst (-1), 1) := by decide +kernel
theorem dX7_sever_46 : decode cX7_sever 46 = .ok (.putfield 157, 3) := by decide +kernel
theorem dX7_sever_49 : decode cX7_sever 49 = .ok (.iinc 4 1, 3) := by decide +kernel
theorem dX7_sever_52 : decode cX7_sever 52 = .ok (.goto (-49), 3) := by decide +kernel
theorem dX7_sever_55 : decode cX7_sever 55 = .ok (.aload_n 2, 1) := by decide +kernel
theorem dX7_sever_56 : decode cX7_sever 56 = .ok (.iload_n 3, 1) := by decide +kernel
theorem dX7_sever_57 : decode cX7_sever 57 = .ok (.iconst 1, 1) := by decide +kernel
theorem dX7_sever_58 : decode cX7_sever 58 = .ok (.isub, 1) := by decide +kernel
theorem dX7_sever_59 : decode cX7_sever 59 = .ok (.invokevirtual 296, 3) := by decide +kernel
theorem dX7_sever_62 : decode cX7_sever 62 = .ok (.return_, 1) := by decide +kernel
def f_X7_sever_3 (z : Nat → Nat) (n2 : Nat) : Nat → Mem → Int32 → Int32 → Int32 → Option Mem
  | 0, _, _, _, _ => none
  | fu + 1, M, x1, x3, x4 => if (M 50 2) ≤ x4 then bd1 (f_X3_shortenTo z n2 M (x3 - 1)) (fun M1 => some M1) else bd1 (f_X7_kiteAt z M x4) (fun r2 => mq r2 (f_X7_sever_3 z n2 fu M x1 x3 (x4 + 1)) (fun n3 => if (M n3 5) = x1 then if (M n3 6) < x3 then f_X7_sever_3 z n2 fu M x1 x3 (x4 + 1) else f_X7_sever_3 z n2 fu (mu M n3 5 (-1)) x1 x3 (x4 + 1) else f_X7_sever_3 z n2 fu M x1 x3 (x4 + 1)))
theorem t_X7_sever_3 {K : KK} {a : AA} {n2 : Nat} (hn2 : vL a.1 n2) (S : Sx K RX7 cX7_sever 6 (rmD 2))  {M' : Mem} (rt : RtV K a cX7_sever M') : ∀ (fu : Nat) (M : Mem) (x1 : Int32) (x3 : Int32) (x4 : Int32), f_X7_sever_3 a.1 n2 fu M x1 x3 x4 = some M' → Go K 6 a M 3 [(0, .ref (a.2 50)), (1, .int x1), (2, .ref (a.2 n2)), (3, .int x3), (4, .int x4)] [] := by
  intro fu
  induction fu with
  | zero => intro M x1 x3 x4 hf; exact absurd hf (by simp [f_X7_sever_3])
  | succ fu ih =>
    intro M x1 x3 x4 hf
    rw [f_X7_sever_3] at hf
    refine g_iload 4 S dX7_sever_3 rfl ?_
    refine g_aload_n 0 S dX7_sever_5 rfl ?_
    refine g_get (v := .int (M 50 2)) S ob_50 rfl gi_X7 (by decide) lf_X7_22 rfl dX7_sever_6 ?_
    refine g_icmp_ge (tgt := 55) S dX7_sever_9 (by decide) hf (fun c hf => ?_) (fun c hf => ?_)
    · refine g_aload_n 2 S dX7_sever_55 rfl ?_
      refine g_iload_n 3 S dX7_sever_56 rfl ?_
      refine g_iconst (v := 1) S dX7_sever_57 rfl ?_
      refine g_isub S dX7_sever_58 ?_
      obtain ⟨M1, hM1, hf⟩ := bd1_some hf
      refine g_cVV (st := []) S (ob_L hn2) rfl ok_X3_shortenTo lk_X7_296 (c_X3_shortenTo hn2 hM1) rfl rfl ⟨by decide, by decide⟩ (rmD_z _) (Nat.le_of_ble_eq_true rfl) dX7_sever_59 ?_
      exact g_vretM rt hf dX7_sever_62
    · refine g_aload_n 0 S dX7_sever_12 rfl ?_
      refine g_iload 4 S dX7_sever_13 rfl ?_
      obtain ⟨r2, hr2, hf⟩ := bd1_some hf
      refine g_cVQ (st := []) S ob_50 rfl ok_X7_kiteAt lk_X7_95 (c_X7_kiteAt hr2) rfl rfl ⟨by decide, by decide⟩ (rmD_z _) (Nat.le_of_ble_eq_true rfl) dX7_sever_15 ?_
      rcases r2 with _ | n3
      · refine Go.st (st' := [.null]) rfl ?_
        refine g_astoreN (lv' := [(5, .null), (0, .ref (a.2 50)), (1, .int x1), (2, .ref (a.2 n2)), (3, .int x3), (4, .int x4)]) S dX7_sever_18 (by decide) rfl ?_
        refine g_aloadN 0 S dX7_sever_20 rfl ?_
        refine g_ifnullN (tgt := 49) S dX7_sever_22 (by decide) ?_
        refine g_iinc (v := (x4 + 1)) (lv' := [(4, .int (x4 + 1)), (5, .null), (0, .ref (a.2 50)), (1, .int x1), (2, .ref (a.2 n2)), (3, .int x3)]) 5 S dX7_sever_49 rfl rfl (by decide) rfl ?_
        refine g_goto (tgt := 3) S dX7_sever_52 (by decide) ?_
        refine Go.sub [2, 3, 4, 5, 0] rfl ?_
        exact ih _ _ _ _ hf
      · have hn3 := vd_X7_kiteAt hr2
        refine Go.st (st' := [.ref (a.2 n3)]) rfl ?_
        refine g_astore (lv' := [(5, .ref (a.2 n3)), (0, .ref (a.2 50)), (1, .int x1), (2, .ref (a.2 n2)), (3, .int x3), (4, .int x4)]) S dX7_sever_18 (by decide) rfl ?_
        refine g_aload 0 S dX7_sever_20 rfl ?_
        refine g_ifnull S dX7_sever_22 ?_
        refine g_aload 0 S dX7_sever_25 rfl ?_
        refine g_get (v := .int (M n3 5)) S (ob_K hn3) rfl gi_X2 (by decide) lf_X7_157 rfl dX7_sever_27 ?_
        refine g_iload_n 2 S dX7_sever_30 rfl ?_
        refine g_icmp_ne (tgt := 49) S dX7_sever_31 (by decide) hf (fun c hf => ?_) (fun c hf => ?_)
        · refine g_aload 0 S dX7_sever_34 rfl ?_
          refine g_get (v := .int (M n3 6)) S (ob_K hn3) rfl gi_X2 (by decide) lf_X7_160 rfl dX7_sever_36 ?_
          refine g_iload_n 4 S dX7_sever_39 rfl ?_
          refine g_icmp_lt (tgt := 49) S dX7_sever_40 (by decide) hf (fun c hf => ?_) (fun c hf => ?_)
          · refine g_iinc (v := (x4 + 1)) (lv' := [(4, .int (x4 + 1)), (5, .ref (a.2 n3)), (0, .ref (a.2 50)), (1, .int x1), (2, .ref (a.2 n2)), (3, .int x3)]) 5 S dX7_sever_49 rfl rfl (by decide) rfl ?_
            refine g_goto (tgt := 3) S dX7_sever_52 (by decide) ?_
            refine Go.sub [2, 3, 4, 5, 0] rfl ?_
            exact ih _ _ _ _ hf
          · refine g_aload 0 S dX7_sever_43 rfl ?_
            refine g_iconst (v := (-1)) S dX7_sever_45 rfl ?_
            refine g_put (ty := .int) S (ob_K hn3) rfl gi_X2 tyX2_ok nmX2 (by decide) lf_X7_157 rfl (by decide +kernel) rfl rfl (Nat.le_of_ble_eq_true rfl) rfl dX7_sever_46 ?_
            refine g_iinc (v := (x4 + 1)) (lv' := [(4, .int (x4 + 1)), (5, .ref (a.2 n3)), (0, .ref (a.2 50)), (1, .int x1), (2, .ref (a.2 n2)), (3, .int x3)]) 5 S dX7_sever_49 rfl rfl (by decide) rfl ?_
            refine g_goto (tgt := 3) S dX7_sever_52 (by decide) ?_
            refine Go.sub [2, 3, 4, 5, 0] rfl ?_
            exact ih _ _ _ _ hf
        · refine g_iinc (v := (x4 + 1)) (lv' := [(4, .int (x4 + 1)), (5, .ref (a.2 n3)), (0, .ref (a.2 50)), (1, .int x1), (2, .ref (a.2 n2)), (3, .int x3)]) 5 S dX7_sever_49 rfl rfl (by decide) rfl ?_
          refine g_goto (tgt := 3) S dX7_sever_52 (by decide) ?_
          refine Go.sub [2, 3, 4, 5, 0] rfl ?_
          exact ih _ _ _ _ hf
def f_X7_sever (z : Nat → Nat) (n2 : Nat) (M : Mem) (p1 : Int32) (p3 : Int32) : Option Mem := f_X7_sever_3 z n2 1000 M p1 p3 0
theorem c_X7_sever {l : Launch} {G : GG} {a : AA} {n2 : Nat} (hn2 : vL a.1 n2) {M : Mem} {p1 : Int32} {p3 : Int32}  {M' : Mem} (hf : f_X7_sever a.1 n2 M p1 p3 = some M') : CtV l G a yX7_sever cX7_sever 6 (rmD 2) [.ref (a.2 50), .int p1, .ref (a.2 n2), .int p3] M M' := by
  refine ct_V (by decide) rfl (own := RX7) (Nat.le_of_ble_eq_true rfl) (fun K hl hg S rt => ?_)
  subst hl; subst hg
  unfold f_X7_sever at hf
  show Go K 6 a M 0 [(0, .ref (a.2 50)), (1, .int p1), (2, .ref (a.2 n2)), (3, .int p3)] []
  refine g_iconst (v := 0) S dX7_sever_0 rfl ?_
  refine g_istore (lv' := [(4, .int 0), (0, .ref (a.2 50)), (1, .int p1), (2, .ref (a.2 n2)), (3, .int p3)]) S dX7_sever_1 (by decide) rfl ?_
  refine Go.sub [1, 2, 3, 4, 0] rfl ?_
  exact t_X7_sever_3 hn2 S rt 1000 _ _ _ _ hf
-- BridleBook.part(I)I
theorem dX7_part_0 : decode cX7_part 0 = .ok (.aload_n 0, 1) := by decide +kernel
theorem dX7_part_1 : decode cX7_part 1 = .ok (.iload_n 1, 1) := by decide +kernel
theorem dX7_part_2 : decode cX7_part 2 = .ok (.invokevirtual 150, 3) := by decide +kernel
theorem dX7_part_5 : decode cX7_part 5 = .ok (.astore_n 2, 1) := by decide +kernel
theorem dX7_part_6 : decode cX7_part 6 = .ok (.aload_n 2, 1) := by decide +kernel
theorem dX7_part_7 : decode cX7_part 7 = .ok (.ifnonnull 5, 3) := by decide +kernel
theorem dX7_part_10 : decode cX7_part 10 = .ok (.iconst (-1), 1) := by decide +kernel
theorem dX7_part_11 : decode cX7_part 11 = .ok (.ireturn, 1) := by decide +kernel
theorem dX7_part_12 : decode cX7_part 12 = .ok (.aload_n 0, 1) := by decide +kernel
theorem dX7_part_13 : decode cX7_part 13 = .ok (.iload_n 1, 1) := by decide +kernel
theorem dX7_part_14 : decode cX7_part 14 = .ok (.aload_n 2, 1) := by decide +kernel
theorem dX7_part_15 : decode cX7_part 15 = .ok (.invokevirtual 180, 3) := by decide +kernel
theorem dX7_part_18 : decode cX7_part 18 = .ok (.istore_n 3, 1) := by decide +kernel
theorem dX7_part_19 : decode cX7_part 19 = .ok (.iload_n 3, 1) := by decide +kernel
theorem dX7_part_20 : decode cX7_part 20 = .ok (.ifCond .ne 6, 3) := by decide +kernel
theorem dX7_part_23 : decode cX7_part 23 = .ok (.bipush (-2), 2) := by decide +kernel
theorem dX7_part_25 : decode cX7_part 25 = .ok (.ireturn, 1) := by decide +kernel
theorem dX7_part_26 : decode cX7_part 26 = .ok (.aload_n 0, 1) := by decide +kernel
theorem dX7_part_27 : decode cX7_part 27 = .ok (.iload_n 1, 1) := by decide +kernel
theorem dX7_part_28 : decode cX7_part 28 = .ok (.aload_n 2, 1) := by decide +kernel
theorem dX7_part_29 : decode cX7_part 29 = .ok (.iload_n 3, 1) := by decide +kernel
theorem dX7_part_30 : decode cX7_part 30 = .ok (.invokevirtual 205, 3) := by decide +kernel
theorem dX7_part_33 : decode cX7_part 33 = .ok (.iload_n 3, 1) := by decide +kernel
theorem dX7_part_34 : decode cX7_part 34 = .ok (.ireturn, 1) := by decide +kernel
def f_X7_part (z : Nat → Nat) (M : Mem) (p1 : Int32) : Option (Int32 × Mem) := bd1 (f_X7_lineAt z M p1) (fun r1 => mq r1 (some ((-1), M)) (fun n2 => bd2 (f_X7_partingStep z n2 M p1) (fun r3 M4 => if r3 = 0 then some ((-2), M4) else bd1 (f_X7_sever z n2 M4 p1 r3) (fun M5 => some (r3, M5)))))
theorem c_X7_part {l : Launch} {G : GG} {a : AA} {M : Mem} {p1 : Int32} {r : Int32} {M' : Mem} (hf : f_X7_part a.1 M p1 = some (r, M')) : CtI l G a yX7_part cX7_part 4 .int (rmD 7) [.ref (a.2 50), .int p1] M r M' := by
  refine ct_I (by decide) rfl rfl (own := RX7) (Nat.le_of_ble_eq_true rfl) (fun K hl hg S rt => ?_)
  subst hl; subst hg
  unfold f_X7_part at hf
  show Go K 4 a M 0 [(0, .ref (a.2 50)), (1, .int p1)] []
  refine g_aload_n 0 S dX7_part_0 rfl ?_
  refine g_iload_n 1 S dX7_part_1 rfl ?_
  obtain ⟨r1, hr1, hf⟩ := bd1_some hf
  refine g_cVQ (st := []) S ob_50 rfl ok_X7_lineAt lk_X7_150 (c_X7_lineAt hr1) rfl rfl ⟨by decide, by decide⟩ (rmD_z _) (Nat.le_of_ble_eq_true rfl) dX7_part_2 ?_
  rcases r1 with _ | n2
  · refine Go.st (st' := [.null]) rfl ?_
    refine g_astore_nN (lv' := [(2, .null), (0, .ref (a.2 50)), (1, .int p1)]) S dX7_part_5 (by decide) rfl ?_
    refine g_aload_nN 0 S dX7_part_6 rfl ?_
    refine g_ifnonnullN S dX7_part_7 ?_
    refine g_iconst (v := (-1)) S dX7_part_10 rfl ?_
    exact g_iretM rt hf dX7_part_11
  · have hn2 := vd_X7_lineAt hr1
    refine Go.st (st' := [.ref (a.2 n2)]) rfl ?_
    refine g_astore_n (lv' := [(2, .ref (a.2 n2)), (0, .ref (a.2 50)), (1, .int p1)]) S dX7_part_5 (by decide) rfl ?_
    refine g_aload_n 0 S dX7_part_6 rfl ?_
    refine g_ifnonnull (tgt := 12) S dX7_part_7 (by decide) ?_
    refine g_aload_n 1 S dX7_part_12 rfl ?_
    refine g_iload_n 2 S dX7_part_13 rfl ?_
    refine g_aload_n 0 S dX7_part_14 rfl ?_
    obtain ⟨r3, M4, hr3, hf⟩ := bd2_some hf
    refine g_cVI (st := []) S ob_50 rfl ok_X7_partingStep lk_X7_180 (c_X7_partingStep hn2 hr3) rfl rfl ⟨by decide, by decide⟩ (rmD_z _) (Nat.le_of_ble_eq_true rfl) dX7_part_15 ?_
    refine g_istore_n (lv' := [(3, .int r3), (2, .ref (a.2 n2)), (0, .ref (a.2 50)), (1, .int p1)]) S dX7_part_18 (by decide) rfl ?_
    refine g_iload_n 0 S dX7_part_19 rfl ?_
    refine g_if_ne (tgt := 26) S dX7_part_20 (by decide) hf (fun c hf => ?_) (fun c hf => ?_)
    · refine g_bipush (v := (-2)) S dX7_part_23 rfl ?_
      exact g_iretM rt hf dX7_part_25
    · refine g_aload_n 2 S dX7_part_26 rfl ?_
      refine g_iload_n 3 S dX7_part_27 rfl ?_
      refine g_aload_n 1 S dX7_part_28 rfl ?_
      refine g_iload_n 0 S dX7_part_29 rfl ?_
      obtain ⟨M5, hM5, hf⟩ := bd1_some hf
      refine g_cVV (st := []) S ob_50 rfl ok_X7_sever lk_X7_205 (c_X7_sever hn2 hM5) rfl rfl ⟨by decide, by decide⟩ (rmD_z _) (Nat.le_of_ble_eq_true rfl) dX7_part_30 ?_
      refine g_iload_n 0 S dX7_part_33 rfl ?_
      exact g_iretM rt hf dX7_part_34
-- BridleBook.least(II)I
theorem dX7_least_0 : decode cX7_least 0 = .ok (.aload_n 0, 1) := by decide +kernel
theorem dX7_least_1 : decode cX7_least 1 = .ok (.iload_n 1, 1) := by decide +kernel
theorem dX7_least_2 : decode cX7_least 2 = .ok (.invokevirtual 150, 3) := by decide +kernel
theorem dX7_least_5 : decode cX7_least 5 = .ok (.astore_n 3, 1) := by decide +kernel
theorem dX7_least_6 : decode cX7_least 6 = .ok (.aload_n 3, 1) := by decide +kernel
theorem dX7_least_7 : decode cX7_least 7 = .ok (.ifnull 13, 3) := by decide +kernel
theorem dX7_least_10 : decode cX7_least 10 = .ok (.iload_n 2, 1) := by decide +kernel
theorem dX7_least_11 : decode cX7_least 11 = .ok (.iconst 0, 1) := by decide +kernel
theorem dX7_least_12 : decode cX7_least 12 = .ok (.ldc 146, 2) := by decide +kernel
theorem dX7_least_14 : decode cX7_least 14 = .ok (.invokestatic 99, 3) := by decide +kernel
theorem dX7_least_17 : decode cX7_least 17 = .ok (.ifCond .ne 5, 3) := by decide +kernel
theorem dX7_least_20 : decode cX7_least 20 = .ok (.iconst (-1), 1) := by decide +kernel
theorem dX7_least_21 : decode cX7_least 21 = .ok (.ireturn, 1) := by decide +kernel
theorem dX7_least_22 : decode cX7_least 22 = .ok (.iconst 0, 1) := by decide +kernel
theorem dX7_least_23 : decode cX7_least 23 = .ok (.istore 4, 2) := by decide +kernel
theorem dX7_least_25 : decode cX7_least 25 = .ok (.iload 4, 2) := by decide +kernel
theorem dX7_least_27 : decode cX7_least 27 = .ok (.bipush 99, 2) := by decide +kernel
theorem dX7_least_29 : decode cX7_least 29 = .ok (.if_icmp .gt 24, 3) := by decide +kernel
theorem dX7_least_32 : decode cX7_least 32 = .ok (.aload_n 0, 1) := by decide +kernel
theorem dX7_least_33 : decode cX7_least 33 = .ok (.iload_n 1, 1) := by decide +kernel
theorem dX7_least_34 : decode cX7_least 34 = .ok (.aload_n 3, 1) := by decide +kernel
theorem dX7_least_35 : decode cX7_least 35 = .ok (.iload 4, 2) := by decide +kernel
theorem dX7_least_37 : decode cX7_least 37 = .ok (.invokevirtual 176, 3) := by decide +kernel
theorem dX7_least_40 : decode cX7_least 40 = .ok (.iload_n 2, 1) := by decide +kernel
theorem dX7_least_41 : decode cX7_least 41 = .ok (.if_icmp .lt 6, 3) := by decide +kernel
theorem dX7_least_44 : decode cX7_least 44 = .ok (.iload 4, 2) := by decide +kernel
theorem dX7_least_46 : decode cX7_least 46 = .ok (.ireturn, 1) := by decide +kernel
theorem dX7_least_47 : decode cX7_least 47 = .ok (.iinc 4 1, 3) := by decide +kernel
theorem dX7_least_50 : decode cX7_least 50 = .ok (.goto (-25), 3) := by decide +kernel
theorem dX7_least_53 : decode cX7_least 53 = .ok (.bipush (-2), 2) := by decide +kernel
theorem dX7_least_55 : decode cX7_least 55 = .ok (.ireturn, 1) := by decide +kernel
def f_X7_least_25 (z : Nat → Nat) (M : Mem) : Nat → Int32 → Int32 → Int32 → Option Int32
  | 0, _, _, _ => none
  | fu + 1, x1, x2, x4 => if 99 < x4 then some (-2) else bd1 (f_X7_liftsOf z n2 M x1 x4) (fun r4 => if r4 < x2 then f_X7_least_25 z M fu x1 x2 (x4 + 1) else some x4)
theorem t_X7_least_25 {K : KK} {a : AA} (S : Sx K RX7 cX7_least 5 (rmD 6)) {r : Int32} {M : Mem} (rt : RtI K a cX7_least r M) : ∀ (fu : Nat) (x1 : Int32) (x2 : Int32) (x4 : Int32), f_X7_least_25 a.1 M fu x1 x2 x4 = some r → Go K 5 a M 25 [(0, .ref (a.2 50)), (1, .int x1), (2, .int x2), (3, .ref (a.2 n2)), (4, .int x4)] [] := by
  intro fu
  induction fu with
  | zero => intro x1 x2 x4 hf; exact absurd hf (by simp [f_X7_least_25])
  | succ fu ih =>
    intro x1 x2 x4 hf
    rw [f_X7_least_25] at hf
    refine g_iload 4 S dX7_least_25 rfl ?_
    refine g_bipush (v := 99) S dX7_least_27 rfl ?_
    refine g_icmp_gt (tgt := 53) S dX7_least_29 (by decide) hf (fun c hf => ?_) (fun c hf => ?_)
    · refine g_bipush (v := (-2)) S dX7_least_53 rfl ?_
      exact g_iretP rt hf dX7_least_55
    · refine g_aload_n 0 S dX7_least_32 rfl ?_
      refine g_iload_n 1 S dX7_least_33 rfl ?_
      refine g_aload_n 3 S dX7_least_34 rfl ?_
      refine g_iload 4 S dX7_least_35 rfl ?_
      obtain ⟨r4, hr4, hf⟩ := bd1_some hf
      refine g_cVI (st := []) S ob_50 rfl ok_X7_liftsOf lk_X7_176 (c_X7_liftsOf hn2 hr4) rfl rfl ⟨by decide, by decide⟩ (rmD_z _) (Nat.le_of_ble_eq_true rfl) dX7_least_37 ?_
      refine g_iload_n 2 S dX7_least_40 rfl ?_
      refine g_icmp_lt (tgt := 47) S dX7_least_41 (by decide) hf (fun c hf => ?_) (fun c hf => ?_)
      · refine g_iinc (v := (x4 + 1)) (lv' := [(4, .int (x4 + 1)), (0, .ref (a.2 50)), (1, .int x1), (2, .int x2), (3, .ref (a.2 n2))]) 4 S dX7_least_47 rfl rfl (by decide) rfl ?_
        refine g_goto (tgt := 25) S dX7_least_50 (by decide) ?_
        refine Go.sub [1, 2, 3, 4, 0] rfl ?_
        exact ih _ _ _ hf
      · refine g_iload 4 S dX7_least_44 rfl ?_
        exact g_iretP rt hf dX7_least_46
def f_X7_least (z : Nat → Nat) (M : Mem) (p1 : Int32) (p2 : Int32) : Option Int32 := bd1 (f_X7_lineAt z M p1) (fun r1 => mq r1 (some (-1)) (fun n2 => bd1 (f_X7_within z M p2 0 99999) (fun r3 => if r3 = true then f_X7_least_25 z M 1000 p1 p2 0 else some (-1))))
theorem c_X7_least {l : Launch} {G : GG} {a : AA} {M : Mem} {p1 : Int32} {p2 : Int32} {r : Int32} (hf : f_X7_least a.1 M p1 p2 = some r) : CtI l G a yX7_least cX7_least 5 .int (rmD 6) [.ref (a.2 50), .int p1, .int p2] M r M := by
  refine ct_I (by decide) rfl rfl (own := RX7) (Nat.le_of_ble_eq_true rfl) (fun K hl hg S rt => ?_)
  subst hl; subst hg
  unfold f_X7_least at hf
  show Go K 5 a M 0 [(0, .ref (a.2 50)), (1, .int p1), (2, .int p2)] []
  refine g_aload_n 0 S dX7_least_0 rfl ?_
  refine g_iload_n 1 S dX7_least_1 rfl ?_
  obtain ⟨r1, hr1, hf⟩ := bd1_some hf
  refine g_cVQ (st := []) S ob_50 rfl ok_X7_lineAt lk_X7_150 (c_X7_lineAt hr1) rfl rfl ⟨by decide, by decide⟩ (rmD_z _) (Nat.le_of_ble_eq_true rfl) dX7_least_2 ?_
  rcases r1 with _ | n2
  · refine Go.st (st' := [.null]) rfl ?_
    refine g_astore_nN (lv' := [(3, .null), (0, .ref (a.2 50)), (1, .int p1), (2, .int p2)]) S dX7_least_5 (by decide) rfl ?_
    refine g_aload_nN 0 S dX7_least_6 rfl ?_
    refine g_ifnullN (tgt := 20) S dX7_least_7 (by decide) ?_
    refine g_iconst (v := (-1)) S dX7_least_20 rfl ?_
    exact g_iretP rt hf dX7_least_21
  · have hn2 := vd_X7_lineAt hr1
    refine Go.st (st' := [.ref (a.2 n2)]) rfl ?_
    refine g_astore_n (lv' := [(3, .ref (a.2 n2)), (0, .ref (a.2 50)), (1, .int p1), (2, .int p2)]) S dX7_least_5 (by decide) rfl ?_
    refine g_aload_n 0 S dX7_least_6 rfl ?_
    refine g_ifnull S dX7_least_7 ?_
    refine g_iload_n 3 S dX7_least_10 rfl ?_
    refine g_iconst (v := 0) S dX7_least_11 rfl ?_
    refine g_ldc S lc_X7_146 dX7_least_12 ?_
    obtain ⟨r3, hr3, hf⟩ := bd1_some hf
    refine g_cSI (st := []) S ok_X7_within lk_X7_99 (c_X7_within hr3) rfl rfl ⟨by decide, by decide⟩ (rmD_z _) (Nat.le_of_ble_eq_true rfl) dX7_least_14 ?_
    refine g_if_neB (tgt := 22) S dX7_least_17 (by decide) hf (fun c hf => ?_) (fun c hf => ?_)
    · refine g_iconst (v := 0) S dX7_least_22 rfl ?_
      refine g_istore (lv' := [(4, .int 0), (3, .ref (a.2 n2)), (0, .ref (a.2 50)), (1, .int p1), (2, .int p2)]) S dX7_least_23 (by decide) rfl ?_
      refine Go.sub [2, 3, 4, 1, 0] rfl ?_
      exact t_X7_least_25  S rt 1000 _ _ _ hf
    · refine g_iconst (v := (-1)) S dX7_least_20 rfl ?_
      exact g_iretP rt hf dX7_least_21
-- BridleBook.blow(II)I
theorem dX7_blow_0 : decode cX7_blow 0 = .ok (.iload_n 1, 1) := by decide +kernel
theorem dX7_blow_1 : decode cX7_blow 1 = .ok (.iconst 0, 1) := by decide +kernel
theorem dX7_blow_2 : decode cX7_blow 2 = .ok (.iconst 3, 1) := by decide +kernel
theorem dX7_blow_3 : decode cX7_blow 3 = .ok (.invokestatic 99, 3) := by decide +kernel
theorem dX7_blow_6 : decode cX7_blow 6 = .ok (.ifCond .eq 14, 3) := by decide +kernel
theorem dX7_blow_9 : decode cX7_blow 9 = .ok (.iload_n 2, 1) := by decide +kernel
theorem dX7_blow_10 : decode cX7_blow 10 = .ok (.iconst 0, 1) := by decide +kernel
theorem dX7_blow_11 : decode cX7_blow 11 = .ok (.sipush 200, 3) := by decide +kernel
theorem dX7_blow_14 : decode cX7_blow 14 = .ok (.invokestatic 99, 3) := by decide +kernel
theorem dX7_blow_17 : decode cX7_blow 17 = .ok (.ifCond .ne 5, 3) := by decide +kernel
theorem dX7_blow_20 : decode cX7_blow 20 = .ok (.iconst (-1), 1) := by decide +kernel
theorem dX7_blow_21 : decode cX7_blow 21 = .ok (.ireturn, 1) := by decide +kernel
theorem dX7_blow_22 : decode cX7_blow 22 = .ok (.bipush 10, 2) := by decide +kernel
theorem dX7_blow_24 : decode cX7_blow 24 = .ok (.aload_n 0, 1) := by decide +kernel
theorem dX7_blow_25 : decode cX7_blow 25 = .ok (.getfield 68, 3) := by decide +kernel
theorem dX7_blow_28 : decode cX7_blow 28 = .ok (.imul, 1) := by decide +kernel
theorem dX7_blow_29 : decode cX7_blow 29 = .ok (.aload_n 0, 1) := by decide +kernel
theorem dX7_blow_30 : decode cX7_blow 30 = .ok (.getfield 65, 3) := by decide +kernel
theorem dX7_blow_33 : decode cX7_blow 33 = .ok (.iadd, 1) := by decide +kernel
theorem dX7_blow_34 : decode cX7_blow 34 = .ok (.istore_n 3, 1) := by decide +kernel
theorem dX7_blow_35 : decode cX7_blow 35 = .ok (.aload_n 0, 1) := by decide +kernel
theorem dX7_blow_36 : decode cX7_blow 36 = .ok (.iload_n 1, 1) := by decide +kernel
theorem dX7_blow_37 : decode cX7_blow 37 = .ok (.putfield 65, 3) := by decide +kernel
theorem dX7_blow_40 : decode cX7_blow 40 = .ok (.aload_n 0, 1) := by decide +kernel
theorem dX7_blow_41 : decode cX7_blow 41 = .ok (.iload_n 2, 1) := by decide +kernel
theorem dX7_blow_42 : decode cX7_blow 42 = .ok (.putfield 68, 3) := by decide +kernel
theorem dX7_blow_45 : decode cX7_blow 45 = .ok (.iload_n 3, 1) := by decide +kernel
theorem dX7_blow_46 : decode cX7_blow 46 = .ok (.ireturn, 1) := by decide +kernel
def f_X7_blow (z : Nat → Nat) (M : Mem) (p1 : Int32) (p2 : Int32) : Option (Int32 × Mem) := bd1 (f_X7_within z M p1 0 3) (fun r1 => if r1 = true then bd1 (f_X7_within z M p2 0 200) (fun r2 => if r2 = true then some (((10 * (M 50 13)) + (M 50 12)), (mu (mu M 50 12 p1) 50 13 p2)) else some ((-1), M)) else some ((-1), M))
theorem c_X7_blow {l : Launch} {G : GG} {a : AA} {M : Mem} {p1 : Int32} {p2 : Int32} {r : Int32} {M' : Mem} (hf : f_X7_blow a.1 M p1 p2 = some (r, M')) : CtI l G a yX7_blow cX7_blow 4 .int (rmD 1) [.ref (a.2 50), .int p1, .int p2] M r M' := by
  refine ct_I (by decide) rfl rfl (own := RX7) (Nat.le_of_ble_eq_true rfl) (fun K hl hg S rt => ?_)
  subst hl; subst hg
  unfold f_X7_blow at hf
  show Go K 4 a M 0 [(0, .ref (a.2 50)), (1, .int p1), (2, .int p2)] []
  refine g_iload_n 1 S dX7_blow_0 rfl ?_
  refine g_iconst (v := 0) S dX7_blow_1 rfl ?_
  refine g_iconst (v := 3) S dX7_blow_2 rfl ?_
  obtain ⟨r1, hr1, hf⟩ := bd1_some hf
  refine g_cSI (st := []) S ok_X7_within lk_X7_99 (c_X7_within hr1) rfl rfl ⟨by decide, by decide⟩ (rmD_z _) (Nat.le_of_ble_eq_true rfl) dX7_blow_3 ?_
  refine g_if_eqB (tgt := 20) S dX7_blow_6 (by decide) hf (fun c hf => ?_) (fun c hf => ?_)
  · refine g_iload_n 2 S dX7_blow_9 rfl ?_
    refine g_iconst (v := 0) S dX7_blow_10 rfl ?_
    refine g_sipush (v := 200) S dX7_blow_11 rfl ?_
    obtain ⟨r2, hr2, hf⟩ := bd1_some hf
    refine g_cSI (st := []) S ok_X7_within lk_X7_99 (c_X7_within hr2) rfl rfl ⟨by decide, by decide⟩ (rmD_z _) (Nat.le_of_ble_eq_true rfl) dX7_blow_14 ?_
    refine g_if_neB (tgt := 22) S dX7_blow_17 (by decide) hf (fun c hf => ?_) (fun c hf => ?_)
    · refine g_bipush (v := 10) S dX7_blow_22 rfl ?_
      refine g_aload_n 0 S dX7_blow_24 rfl ?_
      refine g_get (v := .int (M 50 13)) S ob_50 rfl gi_X7 (by decide) lf_X7_68 rfl dX7_blow_25 ?_
      refine g_imul S dX7_blow_28 ?_
      refine g_aload_n 0 S dX7_blow_29 rfl ?_
      refine g_get (v := .int (M 50 12)) S ob_50 rfl gi_X7 (by decide) lf_X7_65 rfl dX7_blow_30 ?_
      refine g_iadd S dX7_blow_33 ?_
      refine g_istore_n (lv' := [(3, .int ((10 * (M 50 13)) + (M 50 12))), (0, .ref (a.2 50)), (1, .int p1), (2, .int p2)]) S dX7_blow_34 (by decide) rfl ?_
      refine g_aload_n 1 S dX7_blow_35 rfl ?_
      refine g_iload_n 2 S dX7_blow_36 rfl ?_
      refine g_put (ty := .int) S ob_50 rfl gi_X7 tyX7_ok nmX7 (by decide) lf_X7_65 rfl (by decide +kernel) rfl rfl (Nat.le_of_ble_eq_true rfl) rfl dX7_blow_37 ?_
      refine g_aload_n 1 S dX7_blow_40 rfl ?_
      refine g_iload_n 3 S dX7_blow_41 rfl ?_
      refine g_put (ty := .int) S ob_50 rfl gi_X7 tyX7_ok nmX7 (by decide) lf_X7_68 rfl (by decide +kernel) rfl rfl (Nat.le_of_ble_eq_true rfl) rfl dX7_blow_42 ?_
      refine g_iload_n 0 S dX7_blow_45 rfl ?_
      exact g_iretM rt hf dX7_blow_46
    · refine g_iconst (v := (-1)) S dX7_blow_20 rfl ?_
      exact g_iretM rt hf dX7_blow_21
  · refine g_iconst (v := (-1)) S dX7_blow_20 rfl ?_
    exact g_iretM rt hf dX7_blow_21
-- BridleBook.isPlace(I)Z
theorem dX7_isPlace_0 : decode cX7_isPlace 0 = .ok (.iload_n 0, 1) := by decide +kernel
theorem dX7_isPlace_1 : decode cX7_isPlace 1 = .ok (.iconst 0, 1) := by decide +kernel
theorem dX7_isPlace_2 : decode cX7_isPlace 2 = .ok (.ldc_w 271, 3) := by decide +kernel
theorem dX7_isPlace_5 : decode cX7_isPlace 5 = .ok (.invokestatic 99, 3) := by decide +kernel
theorem dX7_isPlace_8 : decode cX7_isPlace 8 = .ok (.ireturn, 1) := by decide +kernel
def f_X7_isPlace (z : Nat → Nat) (M : Mem) (p1 : Int32) : Option Bool := bd1 (f_X7_within z M p1 0 39999) (fun r1 => some r1)
theorem c_X7_isPlace {l : Launch} {G : GG} {a : AA} {M : Mem} {p1 : Int32} {r : Bool} (hf : f_X7_isPlace a.1 M p1 = some r) : CtI l G a yX7_isPlace cX7_isPlace 1 .boolean (rmD 1) [.int p1] M (b2i r) M := by
  refine ct_I (by decide) rfl (b2i_n _) (own := RX7) (Nat.le_of_ble_eq_true rfl) (fun K hl hg S rt => ?_)
  subst hl; subst hg
  unfold f_X7_isPlace at hf
  show Go K 1 a M 0 [(0, .int p1)] []
  refine g_iload_n 0 S dX7_isPlace_0 rfl ?_
  refine g_iconst (v := 0) S dX7_isPlace_1 rfl ?_
  refine g_ldcw S lc_X7_271 dX7_isPlace_2 ?_
  obtain ⟨r1, hr1, hf⟩ := bd1_some hf
  refine g_cSI (st := []) S ok_X7_within lk_X7_99 (c_X7_within hr1) rfl rfl ⟨by decide, by decide⟩ (rmD_z _) (Nat.le_of_ble_eq_true rfl) dX7_isPlace_5 ?_
  exact g_zretP rt hf dX7_isPlace_8 rfl
-- BridleBook.hasTreeAt(I)Z
theorem dX7_hasTreeAt_0 : decode cX7_hasTreeAt 0 = .ok (.iconst 0, 1) := by decide +kernel
theorem dX7_hasTreeAt_1 : decode cX7_hasTreeAt 1 = .ok (.istore_n 2, 1) := by decide +kernel
theorem dX7_hasTreeAt_2 : decode cX7_hasTreeAt 2 = .ok (.iload_n 2, 1) := by decide +kernel
theorem dX7_hasTreeAt_3 : decode cX7_hasTreeAt 3 = .ok (.aload_n 0, 1) := by decide +kernel
theorem dX7_hasTreeAt_4 : decode cX7_hasTreeAt 4 = .ok (.getfield 62, 3) := by decide +kernel
theorem dX7_hasTreeAt_7 : decode cX7_hasTreeAt 7 = .ok (.if_icmp .ge 21, 3) := by decide +kernel
theorem dX7_hasTreeAt_10 : decode cX7_hasTreeAt 10 = .ok (.aload_n 0, 1) := by decide +kernel
theorem dX7_hasTreeAt_11 : decode cX7_hasTreeAt 11 = .ok (.getfield 59, 3) := by decide +kernel
theorem dX7_hasTreeAt_14 : decode cX7_hasTreeAt 14 = .ok (.iload_n 2, 1) := by decide +kernel
theorem dX7_hasTreeAt_15 : decode cX7_hasTreeAt 15 = .ok (.iaload, 1) := by decide +kernel
theorem dX7_hasTreeAt_16 : decode cX7_hasTreeAt 16 = .ok (.iload_n 1, 1) := by decide +kernel
theorem dX7_hasTreeAt_17 : decode cX7_hasTreeAt 17 = .ok (.if_icmp .ne 5, 3) := by decide +kernel
theorem dX7_hasTreeAt_20 : decode cX7_hasTreeAt 20 = .ok (.iconst 1, 1) := by decide +kernel
theorem dX7_hasTreeAt_21 : decode cX7_hasTreeAt 21 = .ok (.ireturn, 1) := by decide +kernel
theorem dX7_hasTreeAt_22 : decode cX7_hasTreeAt 22 = .ok (.iinc 2 1, 3) := by decide +kernel
theorem dX7_hasTreeAt_25 : decode cX7_hasTreeAt 25 = .ok (.goto (-23), 3) := by decide +kernel
theorem dX7_hasTreeAt_28 : decode cX7_hasTreeAt 28 = .ok (.iconst 0, 1) := by decide +kernel
theorem dX7_hasTreeAt_29 : decode cX7_hasTreeAt 29 = .ok (.ireturn, 1) := by decide +kernel
def f_X7_hasTreeAt_2 (z : Nat → Nat) (M : Mem) : Nat → Int32 → Int32 → Option Bool
  | 0, _, _ => none
  | fu + 1, x1, x2 => if (M 50 11) ≤ x2 then some false else ck (inb x2 20) (if (M 61 (x2).toNatClampNeg) = x1 then some true else f_X7_hasTreeAt_2 z M fu x1 (x2 + 1))
theorem t_X7_hasTreeAt_2 {K : KK} {a : AA} (S : Sx K RX7 cX7_hasTreeAt 3 (rmD 0)) {r : Bool} {M : Mem} (rt : RtI K a cX7_hasTreeAt (b2i r) M) : ∀ (fu : Nat) (x1 : Int32) (x2 : Int32), f_X7_hasTreeAt_2 a.1 M fu x1 x2 = some r → Go K 3 a M 2 [(0, .ref (a.2 50)), (1, .int x1), (2, .int x2)] [] := by
  intro fu
  induction fu with
  | zero => intro x1 x2 hf; exact absurd hf (by simp [f_X7_hasTreeAt_2])
  | succ fu ih =>
    intro x1 x2 hf
    rw [f_X7_hasTreeAt_2] at hf
    refine g_iload_n 2 S dX7_hasTreeAt_2 rfl ?_
    refine g_aload_n 0 S dX7_hasTreeAt_3 rfl ?_
    refine g_get (v := .int (M 50 11)) S ob_50 rfl gi_X7 (by decide) lf_X7_62 rfl dX7_hasTreeAt_4 ?_
    refine g_icmp_ge (tgt := 28) S dX7_hasTreeAt_7 (by decide) hf (fun c hf => ?_) (fun c hf => ?_)
    · refine g_iconst (v := 0) S dX7_hasTreeAt_28 rfl ?_
      exact g_zretP rt hf dX7_hasTreeAt_29 rfl
    · refine g_aload_n 0 S dX7_hasTreeAt_10 rfl ?_
      refine g_get (v := .ref (a.2 61)) S ob_50 rfl gi_X7 (by decide) lf_X7_59 rfl dX7_hasTreeAt_11 ?_
      refine g_iload_n 2 S dX7_hasTreeAt_14 rfl ?_
      refine g_iald S ia_61 dX7_hasTreeAt_15 hf (fun hf => ?_)
      refine g_iload_n 1 S dX7_hasTreeAt_16 rfl ?_
      refine g_icmp_ne (tgt := 22) S dX7_hasTreeAt_17 (by decide) hf (fun c hf => ?_) (fun c hf => ?_)
      · refine g_iconst (v := 1) S dX7_hasTreeAt_20 rfl ?_
        exact g_zretP rt hf dX7_hasTreeAt_21 rfl
      · refine g_iinc (v := (x2 + 1)) (lv' := [(2, .int (x2 + 1)), (0, .ref (a.2 50)), (1, .int x1)]) 2 S dX7_hasTreeAt_22 rfl rfl (by decide) rfl ?_
        refine g_goto (tgt := 2) S dX7_hasTreeAt_25 (by decide) ?_
        refine Go.sub [1, 2, 0] rfl ?_
        exact ih _ _ hf
def f_X7_hasTreeAt (z : Nat → Nat) (M : Mem) (p1 : Int32) : Option Bool := f_X7_hasTreeAt_2 z M 1000 p1 0
theorem c_X7_hasTreeAt {l : Launch} {G : GG} {a : AA} {M : Mem} {p1 : Int32} {r : Bool} (hf : f_X7_hasTreeAt a.1 M p1 = some r) : CtI l G a yX7_hasTreeAt cX7_hasTreeAt 3 .boolean (rmD 0) [.ref (a.2 50), .int p1] M (b2i r) M := by
  refine ct_I (by decide) rfl (b2i_n _) (own := RX7) (Nat.le_of_ble_eq_true rfl) (fun K hl hg S rt => ?_)
  subst hl; subst hg
  unfold f_X7_hasTreeAt at hf
  show Go K 3 a M 0 [(0, .ref (a.2 50)), (1, .int p1)] []
  refine g_iconst (v := 0) S dX7_hasTreeAt_0 rfl ?_
  refine g_istore_n (lv' := [(2, .int 0), (0, .ref (a.2 50)), (1, .int p1)]) S dX7_hasTreeAt_1 (by decide) rfl ?_
  refine Go.sub [1, 2, 0] rfl ?_
  exact t_X7_hasTreeAt_2  S rt 1000 _ _ hf
-- BridleBook.tree(I)I
theorem dX7_tree_0 : decode cX7_tree 0 = .ok (.iload_n 1, 1) := by decide +kernel
theorem dX7_tree_1 : decode cX7_tree 1 = .ok (.invokestatic 209, 3) := by decide +kernel
theorem dX7_tree_4 : decode cX7_tree 4 = .ok (.ifCond .eq 11, 3) := by decide +kernel
theorem dX7_tree_7 : decode cX7_tree 7 = .ok (.aload_n 0, 1) := by decide +kernel
theorem dX7_tree_8 : decode cX7_tree 8 = .ok (.iload_n 1, 1) := by decide +kernel
theorem dX7_tree_9 : decode cX7_tree 9 = .ok (.invokevirtual 216, 3) := by decide +kernel
theorem dX7_tree_12 : decode cX7_tree 12 = .ok (.ifCond .eq 5, 3) := by decide +kernel
theorem dX7_tree_15 : decode cX7_tree 15 = .ok (.iconst (-1), 1) := by decide +kernel
theorem dX7_tree_16 : decode cX7_tree 16 = .ok (.ireturn, 1) := by decide +kernel
theorem dX7_tree_17 : decode cX7_tree 17 = .ok (.aload_n 0, 1) := by decide +kernel
theorem dX7_tree_18 : decode cX7_tree 18 = .ok (.getfield 62, 3) := by decide +kernel
theorem dX7_tree_21 : decode cX7_tree 21 = .ok (.bipush 20, 2) := by decide +kernel
theorem dX7_tree_23 : decode cX7_tree 23 = .ok (.if_icmp .lt 6, 3) := by decide +kernel
theorem dX7_tree_26 : decode cX7_tree 26 = .ok (.bipush (-3), 2) := by decide +kernel
theorem dX7_tree_28 : decode cX7_tree 28 = .ok (.ireturn, 1) := by decide +kernel
theorem dX7_tree_29 : decode cX7_tree 29 = .ok (.aload_n 0, 1) := by decide +kernel
theorem dX7_tree_30 : decode cX7_tree 30 = .ok (.getfield 59, 3) := by decide +kernel
theorem dX7_tree_33 : decode cX7_tree 33 = .ok (.aload_n 0, 1) := by decide +kernel
theorem dX7_tree_34 : decode cX7_tree 34 = .ok (.getfield 62, 3) := by decide +kernel
theorem dX7_tree_37 : decode cX7_tree 37 = .ok (.iload_n 1, 1) := by decide +kernel
theorem dX7_tree_38 : decode cX7_tree 38 = .ok (.iastore, 1) := by decide +kernel
theorem dX7_tree_39 : decode cX7_tree 39 = .ok (.aload_n 0, 1) := by decide +kernel
theorem dX7_tree_40 : decode cX7_tree 40 = .ok (.dup, 1) := by decide +kernel
theorem dX7_tree_41 : decode cX7_tree 41 = .ok (.getfield 62, 3) := by decide +kernel
theorem dX7_tree_44 : decode cX7_tree 44 = .ok (.iconst 1, 1) := by decide +kernel
theorem dX7_tree_45 : decode cX7_tree 45 = .ok (.iadd, 1) := by decide +kernel
theorem dX7_tree_46 : decode cX7_tree 46 = .ok (.putfield 62, 3) := by decide +kernel
theorem dX7_tree_49 : decode cX7_tree 49 = .ok (.aload_n 0, 1) := by decide +kernel
theorem dX7_tree_50 : decode cX7_tree 50 = .ok (.getfield 62, 3) := by decide +kernel
theorem dX7_tree_53 : decode cX7_tree 53 = .ok (.ireturn, 1) := by decide +kernel
def f_X7_tree (z : Nat → Nat) (M : Mem) (p1 : Int32) : Option (Int32 × Mem) := bd1 (f_X7_isPlace z M p1) (fun r1 => if r1 = true then bd1 (f_X7_hasTreeAt z M p1) (fun r2 => if r2 = true then some ((-1), M) else if (M 50 11) < 20 then ck (inb (M 50 11) 20) (some (((mu (mu M 61 ((M 50 11)).toNatClampNeg p1) 50 11 (((mu M 61 ((M 50 11)).toNatClampNeg p1) 50 11) + 1)) 50 11), (mu (mu M 61 ((M 50 11)).toNatClampNeg p1) 50 11 (((mu M 61 ((M 50 11)).toNatClampNeg p1) 50 11) + 1)))) else some ((-3), M)) else some ((-1), M))
theorem c_X7_tree {l : Launch} {G : GG} {a : AA} {M : Mem} {p1 : Int32} {r : Int32} {M' : Mem} (hf : f_X7_tree a.1 M p1 = some (r, M')) : CtI l G a yX7_tree cX7_tree 2 .int (rmD 2) [.ref (a.2 50), .int p1] M r M' := by
  refine ct_I (by decide) rfl rfl (own := RX7) (Nat.le_of_ble_eq_true rfl) (fun K hl hg S rt => ?_)
  subst hl; subst hg
  unfold f_X7_tree at hf
  show Go K 2 a M 0 [(0, .ref (a.2 50)), (1, .int p1)] []
  refine g_iload_n 1 S dX7_tree_0 rfl ?_
  obtain ⟨r1, hr1, hf⟩ := bd1_some hf
  refine g_cSI (st := []) S ok_X7_isPlace lk_X7_209 (c_X7_isPlace hr1) rfl rfl ⟨by decide, by decide⟩ (rmD_z _) (Nat.le_of_ble_eq_true rfl) dX7_tree_1 ?_
  refine g_if_eqB (tgt := 15) S dX7_tree_4 (by decide) hf (fun c hf => ?_) (fun c hf => ?_)
  · refine g_aload_n 0 S dX7_tree_7 rfl ?_
    refine g_iload_n 1 S dX7_tree_8 rfl ?_
    obtain ⟨r2, hr2, hf⟩ := bd1_some hf
    refine g_cVI (st := []) S ob_50 rfl ok_X7_hasTreeAt lk_X7_216 (c_X7_hasTreeAt hr2) rfl rfl ⟨by decide, by decide⟩ (rmD_z _) (Nat.le_of_ble_eq_true rfl) dX7_tree_9 ?_
    refine g_if_eqB (tgt := 17) S dX7_tree_12 (by decide) hf (fun c hf => ?_) (fun c hf => ?_)
    · refine g_iconst (v := (-1)) S dX7_tree_15 rfl ?_
      exact g_iretM rt hf dX7_tree_16
    · refine g_aload_n 0 S dX7_tree_17 rfl ?_
      refine g_get (v := .int (M 50 11)) S ob_50 rfl gi_X7 (by decide) lf_X7_62 rfl dX7_tree_18 ?_
      refine g_bipush (v := 20) S dX7_tree_21 rfl ?_
      refine g_icmp_lt (tgt := 29) S dX7_tree_23 (by decide) hf (fun c hf => ?_) (fun c hf => ?_)
      · refine g_aload_n 0 S dX7_tree_29 rfl ?_
        refine g_get (v := .ref (a.2 61)) S ob_50 rfl gi_X7 (by decide) lf_X7_59 rfl dX7_tree_30 ?_
        refine g_aload_n 0 S dX7_tree_33 rfl ?_
        refine g_get (v := .int (M 50 11)) S ob_50 rfl gi_X7 (by decide) lf_X7_62 rfl dX7_tree_34 ?_
        refine g_iload_n 1 S dX7_tree_37 rfl ?_
        refine g_iast S ia_61 dX7_tree_38 hf (fun hf => ?_)
        refine g_aload_n 0 S dX7_tree_39 rfl ?_
        refine g_dup S dX7_tree_40 rfl ?_
        refine g_get (v := .int ((mu M 61 ((M 50 11)).toNatClampNeg p1) 50 11)) S ob_50 rfl gi_X7 (by decide) lf_X7_62 rfl dX7_tree_41 ?_
        refine g_iconst (v := 1) S dX7_tree_44 rfl ?_
        refine g_iadd S dX7_tree_45 ?_
        refine g_put (ty := .int) S ob_50 rfl gi_X7 tyX7_ok nmX7 (by decide) lf_X7_62 rfl (by decide +kernel) rfl rfl (Nat.le_of_ble_eq_true rfl) rfl dX7_tree_46 ?_
        refine g_aload_n 0 S dX7_tree_49 rfl ?_
        refine g_get (v := .int ((mu (mu M 61 ((M 50 11)).toNatClampNeg p1) 50 11 (((mu M 61 ((M 50 11)).toNatClampNeg p1) 50 11) + 1)) 50 11)) S ob_50 rfl gi_X7 (by decide) lf_X7_62 rfl dX7_tree_50 ?_
        exact g_iretM rt hf dX7_tree_53
      · refine g_bipush (v := (-3)) S dX7_tree_26 rfl ?_
        exact g_iretM rt hf dX7_tree_28
  · refine g_iconst (v := (-1)) S dX7_tree_15 rfl ?_
    exact g_iretM rt hf dX7_tree_16
-- BridleBook.flyerAt(I)LBridleBook$Flyer;
theorem dX7_flyerAt_0 : decode cX7_flyerAt 0 = .ok (.iload_n 1, 1) := by decide +kernel
theorem dX7_flyerAt_1 : decode cX7_flyerAt 1 = .ok (.iconst 0, 1) := by decide +kernel
theorem dX7_flyerAt_2 : decode cX7_flyerAt 2 = .ok (.aload_n 0, 1) := by decide +kernel
theorem dX7_flyerAt_3 : decode cX7_flyerAt 3 = .ok (.getfield 52, 3) := by decide +kernel
theorem dX7_flyerAt_6 : decode cX7_flyerAt 6 = .ok (.iconst 1, 1) := by decide +kernel
theorem dX7_flyerAt_7 : decode cX7_flyerAt 7 = .ok (.isub, 1) := by decide +kernel
theorem dX7_flyerAt_8 : decode cX7_flyerAt 8 = .ok (.invokestatic 99, 3) := by decide +kernel
theorem dX7_flyerAt_11 : decode cX7_flyerAt 11 = .ok (.ifCond .eq 12, 3) := by decide +kernel
theorem dX7_flyerAt_14 : decode cX7_flyerAt 14 = .ok (.aload_n 0, 1) := by decide +kernel
theorem dX7_flyerAt_15 : decode cX7_flyerAt 15 = .ok (.getfield 48, 3) := by decide +kernel
theorem dX7_flyerAt_18 : decode cX7_flyerAt 18 = .ok (.iload_n 1, 1) := by decide +kernel
theorem dX7_flyerAt_19 : decode cX7_flyerAt 19 = .ok (.aaload, 1) := by decide +kernel
theorem dX7_flyerAt_20 : decode cX7_flyerAt 20 = .ok (.goto 4, 3) := by decide +kernel
theorem dX7_flyerAt_23 : decode cX7_flyerAt 23 = .ok (.aconst_null, 1) := by decide +kernel
theorem dX7_flyerAt_24 : decode cX7_flyerAt 24 = .ok (.areturn, 1) := by decide +kernel
def f_X7_flyerAt (z : Nat → Nat) (M : Mem) (p1 : Int32) : Option (Option Nat) := bd1 (f_X7_within z M p1 0 ((M 50 8) - 1)) (fun r1 => if r1 = true then ck (inb p1 10) (if (p1).toNatClampNeg < z 2 then some (some (300 + 1 * (p1).toNatClampNeg)) else some none) else some none)
theorem c_X7_flyerAt {l : Launch} {G : GG} {a : AA} {M : Mem} {p1 : Int32} {r : Option Nat} (hf : f_X7_flyerAt a.1 M p1 = some r) : CtQ l G a yX7_flyerAt cX7_flyerAt 2 "BridleBook$Flyer" (rmD 1) [.ref (a.2 50), .int p1] M r M := by
  refine ct_Q (by decide) rfl (own := RX7) (Nat.le_of_ble_eq_true rfl) (fun K hl hg S rt => ?_)
  subst hl; subst hg
  unfold f_X7_flyerAt at hf
  show Go K 2 a M 0 [(0, .ref (a.2 50)), (1, .int p1)] []
  refine g_iload_n 1 S dX7_flyerAt_0 rfl ?_
  refine g_iconst (v := 0) S dX7_flyerAt_1 rfl ?_
  refine g_aload_n 0 S dX7_flyerAt_2 rfl ?_
  refine g_get (v := .int (M 50 8)) S ob_50 rfl gi_X7 (by decide) lf_X7_52 rfl dX7_flyerAt_3 ?_
  refine g_iconst (v := 1) S dX7_flyerAt_6 rfl ?_
  refine g_isub S dX7_flyerAt_7 ?_
  obtain ⟨r1, hr1, hf⟩ := bd1_some hf
  refine g_cSI (st := []) S ok_X7_within lk_X7_99 (c_X7_within hr1) rfl rfl ⟨by decide, by decide⟩ (rmD_z _) (Nat.le_of_ble_eq_true rfl) dX7_flyerAt_8 ?_
  refine g_if_eqB (tgt := 23) S dX7_flyerAt_11 (by decide) hf (fun c hf => ?_) (fun c hf => ?_)
  · refine g_aload_n 0 S dX7_flyerAt_14 rfl ?_
    refine g_get (v := .ref (a.2 58)) S ob_50 rfl gi_X7 (by decide) lf_X7_48 rfl dX7_flyerAt_15 ?_
    refine g_iload_n 1 S dX7_flyerAt_18 rfl ?_
    refine g_aald (t0 := 4) (base := 300) (step := 1) (cnt := a.1 2) S (in_fix (by decide)) rfl rfl dX7_flyerAt_19 hf (fun c hf => ?_) (fun c hf => ?_)
    · refine g_goto (tgt := 24) S dX7_flyerAt_20 (by decide) ?_
      exact g_aretS rt hf dX7_flyerAt_24
    · refine g_goto (tgt := 24) S dX7_flyerAt_20 (by decide) ?_
      exact g_aretN rt hf dX7_flyerAt_24
  · refine g_null S dX7_flyerAt_23 ?_
    exact g_aretN rt hf dX7_flyerAt_24
theorem vd_X7_flyerAt {z : Nat → Nat} {M : Mem} {p1 : Int32} {n : Nat} (h : f_X7_flyerAt z M p1 = some (some n)) : vF z n := by
  unfold f_X7_flyerAt at h
  obtain ⟨r, -, h⟩ := bd1_some h
  refine sp_if h (fun _ h => ?_) (fun _ h => ?_)
  · obtain ⟨h2, h⟩ := ck_some h
    refine sp_if h (fun c h => ?_) (fun _ h => ?_)
    · cases h
      exact ⟨p1.toNatClampNeg, c, by omega⟩
    · cases h
  · cases h
-- BridleBook.agree(III)I
theorem dX7_agree_0 : decode cX7_agree 0 = .ok (.aload_n 0, 1) := by decide +kernel
theorem dX7_agree_1 : decode cX7_agree 1 = .ok (.iload_n 1, 1) := by decide +kernel
theorem dX7_agree_2 : decode cX7_agree 2 = .ok (.invokevirtual 219, 3) := by decide +kernel
theorem dX7_agree_5 : decode cX7_agree 5 = .ok (.ifnull 25, 3) := by decide +kernel
theorem dX7_agree_8 : decode cX7_agree 8 = .ok (.aload_n 0, 1) := by decide +kernel
theorem dX7_agree_9 : decode cX7_agree 9 = .ok (.iload_n 2, 1) := by decide +kernel
theorem dX7_agree_10 : decode cX7_agree 10 = .ok (.invokevirtual 219, 3) := by decide +kernel
theorem dX7_agree_13 : decode cX7_agree 13 = .ok (.ifnull 17, 3) := by decide +kernel
theorem dX7_agree_16 : decode cX7_agree 16 = .ok (.iload_n 1, 1) := by decide +kernel
theorem dX7_agree_17 : decode cX7_agree 17 = .ok (.iload_n 2, 1) := by decide +kernel
theorem dX7_agree_18 : decode cX7_agree 18 = .ok (.if_icmp .eq 12, 3) := by decide +kernel
theorem dX7_agree_21 : decode cX7_agree 21 = .ok (.iload_n 3, 1) := by decide +kernel
theorem dX7_agree_22 : decode cX7_agree 22 = .ok (.iconst 0, 1) := by decide +kernel
theorem dX7_agree_23 : decode cX7_agree 23 = .ok (.iconst 1, 1) := by decide +kernel
theorem dX7_agree_24 : decode cX7_agree 24 = .ok (.invokestatic 99, 3) := by decide +kernel
theorem dX7_agree_27 : decode cX7_agree 27 = .ok (.ifCond .ne 5, 3) := by decide +kernel
theorem dX7_agree_30 : decode cX7_agree 30 = .ok (.iconst (-1), 1) := by decide +kernel
theorem dX7_agree_31 : decode cX7_agree 31 = .ok (.ireturn, 1) := by decide +kernel
theorem dX7_agree_32 : decode cX7_agree 32 = .ok (.aload_n 0, 1) := by decide +kernel
theorem dX7_agree_33 : decode cX7_agree 33 = .ok (.getfield 55, 3) := by decide +kernel
theorem dX7_agree_36 : decode cX7_agree 36 = .ok (.iload_n 1, 1) := by decide +kernel
theorem dX7_agree_37 : decode cX7_agree 37 = .ok (.bipush 10, 2) := by decide +kernel
theorem dX7_agree_39 : decode cX7_agree 39 = .ok (.imul, 1) := by decide +kernel
theorem dX7_agree_40 : decode cX7_agree 40 = .ok (.iload_n 2, 1) := by decide +kernel
theorem dX7_agree_41 : decode cX7_agree 41 = .ok (.iadd, 1) := by decide +kernel
theorem dX7_agree_42 : decode cX7_agree 42 = .ok (.baload, 1) := by decide +kernel
theorem dX7_agree_43 : decode cX7_agree 43 = .ok (.ifCond .eq 7, 3) := by decide +kernel
theorem dX7_agree_46 : decode cX7_agree 46 = .ok (.iconst 1, 1) := by decide +kernel
theorem dX7_agree_47 : decode cX7_agree 47 = .ok (.goto 4, 3) := by decide +kernel
theorem dX7_agree_50 : decode cX7_agree 50 = .ok (.iconst 0, 1) := by decide +kernel
theorem dX7_agree_51 : decode cX7_agree 51 = .ok (.istore 4, 2) := by decide +kernel
theorem dX7_agree_53 : decode cX7_agree 53 = .ok (.aload_n 0, 1) := by decide +kernel
theorem dX7_agree_54 : decode cX7_agree 54 = .ok (.getfield 55, 3) := by decide +kernel
theorem dX7_agree_57 : decode cX7_agree 57 = .ok (.iload_n 1, 1) := by decide +kernel
theorem dX7_agree_58 : decode cX7_agree 58 = .ok (.bipush 10, 2) := by decide +kernel
theorem dX7_agree_60 : decode cX7_agree 60 = .ok (.imul, 1) := by decide +kernel
theorem dX7_agree_61 : decode cX7_agree 61 = .ok (.iload_n 2, 1) := by decide +kernel
theorem dX7_agree_62 : decode cX7_agree 62 = .ok (.iadd, 1) := by decide +kernel
theorem dX7_agree_63 : decode cX7_agree 63 = .ok (.iload_n 3, 1) := by decide +kernel
theorem dX7_agree_64 : decode cX7_agree 64 = .ok (.iconst 1, 1) := by decide +kernel
theorem dX7_agree_65 : decode cX7_agree 65 = .ok (.if_icmp .ne 7, 3) := by decide +kernel
theorem dX7_agree_68 : decode cX7_agree 68 = .ok (.iconst 1, 1) := by decide +kernel
theorem dX7_agree_69 : decode cX7_agree 69 = .ok (.goto 4, 3) := by decide +kernel
theorem dX7_agree_72 : decode cX7_agree 72 = .ok (.iconst 0, 1) := by decide +kernel
theorem dX7_agree_73 : decode cX7_agree 73 = .ok (.bastore, 1) := by decide +kernel
theorem dX7_agree_74 : decode cX7_agree 74 = .ok (.aload_n 0, 1) := by decide +kernel
theorem dX7_agree_75 : decode cX7_agree 75 = .ok (.getfield 55, 3) := by decide +kernel
theorem dX7_agree_78 : decode cX7_agree 78 = .ok (.iload_n 2, 1) := by decide +kernel
theorem dX7_agree_79 : decode cX7_agree 79 = .ok (.bipush 10, 2) := by decide +kernel
theorem dX7_agree_81 : decode cX7_agree 81 = .ok (.imul, 1) := by decide +kernel
theorem dX7_agree_82 : decode cX7_agree 82 = .ok (.iload_n 1, 1) := by decide +kernel
theorem dX7_agree_83 : decode cX7_agree 83 = .ok (.iadd, 1) := by decide +kernel
theorem dX7_agree_84 : decode cX7_agree 84 = .ok (.iload_n 3, 1) := by decide +kernel
theorem dX7_agree_85 : decode cX7_agree 85 = .ok (.iconst 1, 1) := by decide +kernel
theorem dX7_agree_86 : decode cX7_agree 86 = .ok (.if_icmp .ne 7, 3) := by decide +kernel
theorem dX7_agree_89 : decode cX7_agree 89 = .ok (.iconst 1, 1) := by decide +kernel
theorem dX7_agree_90 : decode cX7_agree 90 = .ok (.goto 4, 3) := by decide +kernel
theorem dX7_agree_93 : decode cX7_agree 93 = .ok (.iconst 0, 1) := by decide +kernel
theorem dX7_agree_94 : decode cX7_agree 94 = .ok (.bastore, 1) := by decide +kernel
theorem dX7_agree_95 : decode cX7_agree 95 = .ok (.iload 4, 2) := by decide +kernel
theorem dX7_agree_97 : decode cX7_agree 97 = .ok (.ireturn, 1) := by decide +kernel
def f_X7_agree_73 (z : Nat → Nat) (M : Mem) (s0 : Int32) (s1 : Int32) (x1 : Int32) (x2 : Int32) (x3 : Int32) (x4 : Int32) : Option (Int32 × Mem) := ck (inb s1 100) (if x3 = 1 then ck (inb ((x2 * 10) + x1) 100) (some (x4, (mu (mu M 60 (s1).toNatClampNeg s0) 60 (((x2 * 10) + x1)).toNatClampNeg 1))) else ck (inb ((x2 * 10) + x1) 100) (some (x4, (mu (mu M 60 (s1).toNatClampNeg s0) 60 (((x2 * 10) + x1)).toNatClampNeg 0))))
theorem t_X7_agree_73 {K : KK} {a : AA} (S : Sx K RX7 cX7_agree 5 (rmD 2)) {r : Int32} {M' : Mem} (rt : RtI K a cX7_agree r M') (M : Mem) (s0 : Int32) (s1 : Int32) (x1 : Int32) (x2 : Int32) (x3 : Int32) (x4 : Int32) (hf : f_X7_agree_73 a.1 M s0 s1 x1 x2 x3 x4 = some (r, M')) : Go K 5 a M 73 [(0, .ref (a.2 50)), (1, .int x1), (2, .int x2), (3, .int x3), (4, .int x4)] [.int s0, .int s1, .ref (a.2 60)] := by
  unfold f_X7_agree_73 at hf
  refine g_zast S za_60 dX7_agree_73 rfl hf (fun hf => ?_)
  refine g_aload_n 0 S dX7_agree_74 rfl ?_
  refine g_get (v := .ref (a.2 60)) S ob_50 rfl gi_X7 (by decide) lf_X7_55 rfl dX7_agree_75 ?_
  refine g_iload_n 2 S dX7_agree_78 rfl ?_
  refine g_bipush (v := 10) S dX7_agree_79 rfl ?_
  refine g_imul S dX7_agree_81 ?_
  refine g_iload_n 1 S dX7_agree_82 rfl ?_
  refine g_iadd S dX7_agree_83 ?_
  refine g_iload_n 3 S dX7_agree_84 rfl ?_
  refine g_iconst (v := 1) S dX7_agree_85 rfl ?_
  refine g_icmp_ne (tgt := 93) S dX7_agree_86 (by decide) hf (fun c hf => ?_) (fun c hf => ?_)
  · refine g_iconst (v := 1) S dX7_agree_89 rfl ?_
    refine g_goto (tgt := 94) S dX7_agree_90 (by decide) ?_
    refine g_zast S za_60 dX7_agree_94 rfl hf (fun hf => ?_)
    refine g_iload 4 S dX7_agree_95 rfl ?_
    exact g_iretM rt hf dX7_agree_97
  · refine g_iconst (v := 0) S dX7_agree_93 rfl ?_
    refine g_zast S za_60 dX7_agree_94 rfl hf (fun hf => ?_)
    refine g_iload 4 S dX7_agree_95 rfl ?_
    exact g_iretM rt hf dX7_agree_97
def f_X7_agree_51 (z : Nat → Nat) (M : Mem) (s0 : Int32) (x1 : Int32) (x2 : Int32) (x3 : Int32) : Option (Int32 × Mem) := if x3 = 1 then f_X7_agree_73 z M 1 ((x1 * 10) + x2) x1 x2 x3 s0 else f_X7_agree_73 z M 0 ((x1 * 10) + x2) x1 x2 x3 s0
theorem t_X7_agree_51 {K : KK} {a : AA} (S : Sx K RX7 cX7_agree 5 (rmD 2)) {r : Int32} {M' : Mem} (rt : RtI K a cX7_agree r M') (M : Mem) (s0 : Int32) (x1 : Int32) (x2 : Int32) (x3 : Int32) (hf : f_X7_agree_51 a.1 M s0 x1 x2 x3 = some (r, M')) : Go K 5 a M 51 [(0, .ref (a.2 50)), (1, .int x1), (2, .int x2), (3, .int x3)] [.int s0] := by
  unfold f_X7_agree_51 at hf
  refine g_istore (lv' := [(4, .int s0), (0, .ref (a.2 50)), (1, .int x1), (2, .int x2), (3, .int x3)]) S dX7_agree_51 (by decide) rfl ?_
  refine g_aload_n 1 S dX7_agree_53 rfl ?_
  refine g_get (v := .ref (a.2 60)) S ob_50 rfl gi_X7 (by decide) lf_X7_55 rfl dX7_agree_54 ?_
  refine g_iload_n 2 S dX7_agree_57 rfl ?_
  refine g_bipush (v := 10) S dX7_agree_58 rfl ?_
  refine g_imul S dX7_agree_60 ?_
  refine g_iload_n 3 S dX7_agree_61 rfl ?_
  refine g_iadd S dX7_agree_62 ?_
  refine g_iload_n 4 S dX7_agree_63 rfl ?_
  refine g_iconst (v := 1) S dX7_agree_64 rfl ?_
  refine g_icmp_ne (tgt := 72) S dX7_agree_65 (by decide) hf (fun c hf => ?_) (fun c hf => ?_)
  · refine g_iconst (v := 1) S dX7_agree_68 rfl ?_
    refine g_goto (tgt := 73) S dX7_agree_69 (by decide) ?_
    refine Go.sub [1, 2, 3, 4, 0] rfl ?_
    exact t_X7_agree_73  S rt _ _ _ _ _ _ _ hf
  · refine g_iconst (v := 0) S dX7_agree_72 rfl ?_
    refine Go.sub [1, 2, 3, 4, 0] rfl ?_
    exact t_X7_agree_73  S rt _ _ _ _ _ _ _ hf
def f_X7_agree (z : Nat → Nat) (M : Mem) (p1 : Int32) (p2 : Int32) (p3 : Int32) : Option (Int32 × Mem) := bd1 (f_X7_flyerAt z M p1) (fun r1 => mq r1 (some ((-1), M)) (fun n2 => bd1 (f_X7_flyerAt z M p2) (fun r3 => mq r3 (some ((-1), M)) (fun n4 => if p1 = p2 then some ((-1), M) else bd1 (f_X7_within z M p3 0 1) (fun r5 => if r5 = true then ck (inb ((p1 * 10) + p2) 100) (if (M 60 (((p1 * 10) + p2)).toNatClampNeg) = 0 then f_X7_agree_51 z M 0 p1 p2 p3 else f_X7_agree_51 z M 1 p1 p2 p3) else some ((-1), M))))))
theorem c_X7_agree {l : Launch} {G : GG} {a : AA} {M : Mem} {p1 : Int32} {p2 : Int32} {p3 : Int32} {r : Int32} {M' : Mem} (hf : f_X7_agree a.1 M p1 p2 p3 = some (r, M')) : CtI l G a yX7_agree cX7_agree 5 .int (rmD 2) [.ref (a.2 50), .int p1, .int p2, .int p3] M r M' := by
  refine ct_I (by decide) rfl rfl (own := RX7) (Nat.le_of_ble_eq_true rfl) (fun K hl hg S rt => ?_)
  subst hl; subst hg
  unfold f_X7_agree at hf
  show Go K 5 a M 0 [(0, .ref (a.2 50)), (1, .int p1), (2, .int p2), (3, .int p3)] []
  refine g_aload_n 0 S dX7_agree_0 rfl ?_
  refine g_iload_n 1 S dX7_agree_1 rfl ?_
  obtain ⟨r1, hr1, hf⟩ := bd1_some hf
  refine g_cVQ (st := []) S ob_50 rfl ok_X7_flyerAt lk_X7_219 (c_X7_flyerAt hr1) rfl rfl ⟨by decide, by decide⟩ (rmD_z _) (Nat.le_of_ble_eq_true rfl) dX7_agree_2 ?_
  rcases r1 with _ | n2
  · refine Go.st (st' := [.null]) rfl ?_
    refine g_ifnullN (tgt := 30) S dX7_agree_5 (by decide) ?_
    refine g_iconst (v := (-1)) S dX7_agree_30 rfl ?_
    exact g_iretM rt hf dX7_agree_31
  · have hn2 := vd_X7_flyerAt hr1
    refine Go.st (st' := [.ref (a.2 n2)]) rfl ?_
    refine g_ifnull S dX7_agree_5 ?_
    refine g_aload_n 0 S dX7_agree_8 rfl ?_
    refine g_iload_n 2 S dX7_agree_9 rfl ?_
    obtain ⟨r3, hr3, hf⟩ := bd1_some hf
    refine g_cVQ (st := []) S ob_50 rfl ok_X7_flyerAt lk_X7_219 (c_X7_flyerAt hr3) rfl rfl ⟨by decide, by decide⟩ (rmD_z _) (Nat.le_of_ble_eq_true rfl) dX7_agree_10 ?_
    rcases r3 with _ | n4
    · refine Go.st (st' := [.null]) rfl ?_
      refine g_ifnullN (tgt := 30) S dX7_agree_13 (by decide) ?_
      refine g_iconst (v := (-1)) S dX7_agree_30 rfl ?_
      exact g_iretM rt hf dX7_agree_31
    · have hn4 := vd_X7_flyerAt hr3
      refine Go.st (st' := [.ref (a.2 n4)]) rfl ?_
      refine g_ifnull S dX7_agree_13 ?_
      refine g_iload_n 1 S dX7_agree_16 rfl ?_
      refine g_iload_n 2 S dX7_agree_17 rfl ?_
      refine g_icmp_eq (tgt := 30) S dX7_agree_18 (by decide) hf (fun c hf => ?_) (fun c hf => ?_)
      · refine g_iconst (v := (-1)) S dX7_agree_30 rfl ?_
        exact g_iretM rt hf dX7_agree_31
      · refine g_iload_n 3 S dX7_agree_21 rfl ?_
        refine g_iconst (v := 0) S dX7_agree_22 rfl ?_
        refine g_iconst (v := 1) S dX7_agree_23 rfl ?_
        obtain ⟨r5, hr5, hf⟩ := bd1_some hf
        refine g_cSI (st := []) S ok_X7_within lk_X7_99 (c_X7_within hr5) rfl rfl ⟨by decide, by decide⟩ (rmD_z _) (Nat.le_of_ble_eq_true rfl) dX7_agree_24 ?_
        refine g_if_neB (tgt := 32) S dX7_agree_27 (by decide) hf (fun c hf => ?_) (fun c hf => ?_)
        · refine g_aload_n 0 S dX7_agree_32 rfl ?_
          refine g_get (v := .ref (a.2 60)) S ob_50 rfl gi_X7 (by decide) lf_X7_55 rfl dX7_agree_33 ?_
          refine g_iload_n 1 S dX7_agree_36 rfl ?_
          refine g_bipush (v := 10) S dX7_agree_37 rfl ?_
          refine g_imul S dX7_agree_39 ?_
          refine g_iload_n 2 S dX7_agree_40 rfl ?_
          refine g_iadd S dX7_agree_41 ?_
          refine g_zald S za_60 dX7_agree_42 hf (fun hf => ?_)
          refine g_if_eq (tgt := 50) S dX7_agree_43 (by decide) hf (fun c hf => ?_) (fun c hf => ?_)
          · refine g_iconst (v := 0) S dX7_agree_50 rfl ?_
            exact t_X7_agree_51  S rt _ _ _ _ _ hf
          · refine g_iconst (v := 1) S dX7_agree_46 rfl ?_
            refine g_goto (tgt := 51) S dX7_agree_47 (by decide) ?_
            exact t_X7_agree_51  S rt _ _ _ _ _ hf
        · refine g_iconst (v := (-1)) S dX7_agree_30 rfl ?_
          exact g_iretM rt hf dX7_agree_31
