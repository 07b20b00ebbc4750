-- BridleBook.loadTrain(ILBridleBook$Line;)V
theorem dX7_loadTrain_0 : decode cX7_loadTrain 0 = .ok (.aload_n 0, 1) := by decide +kernel
theorem dX7_loadTrain_1 : decode cX7_loadTrain 1 = .ok (.getfield 42, 3) := by decide +kernel
theorem dX7_loadTrain_4 : decode cX7_loadTrain 4 = .ok (.invokevirtual 286, 3) := by decide +kernel
theorem dX7_loadTrain_7 : decode cX7_loadTrain 7 = .ok (.iconst 0, 1) := by decide +kernel
theorem dX7_loadTrain_8 : decode cX7_loadTrain 8 = .ok (.istore_n 3, 1) := by decide +kernel
theorem dX7_loadTrain_9 : decode cX7_loadTrain 9 = .ok (.iload_n 3, 1) := by decide +kernel
theorem dX7_loadTrain_10 : decode cX7_loadTrain 10 = .ok (.aload_n 0, 1) := by decide +kernel
theorem dX7_loadTrain_11 : decode cX7_loadTrain 11 = .ok (.getfield 22, 3) := by decide +kernel
theorem dX7_loadTrain_14 : decode cX7_loadTrain 14 = .ok (.if_icmp .ge 97, 3) := by decide +kernel
theorem dX7_loadTrain_17 : decode cX7_loadTrain 17 = .ok (.aload_n 0, 1) := by decide +kernel
theorem dX7_loadTrain_18 : decode cX7_loadTrain 18 = .ok (.iload_n 3, 1) := by decide +kernel
theorem dX7_loadTrain_19 : decode cX7_loadTrain 19 = .ok (.invokevirtual 95, 3) := by decide +kernel
theorem dX7_loadTrain_22 : decode cX7_loadTrain 22 = .ok (.astore 4, 2) := by decide +kernel
theorem dX7_loadTrain_24 : decode cX7_loadTrain 24 = .ok (.aload 4, 2) := by decide +kernel
theorem dX7_loadTrain_26 : decode cX7_loadTrain 26 = .ok (.ifnull 79, 3) := by decide +kernel
theorem dX7_loadTrain_29 : decode cX7_loadTrain 29 = .ok (.aload 4, 2) := by decide +kernel
theorem dX7_loadTrain_31 : decode cX7_loadTrain 31 = .ok (.getfield 157, 3) := by decide +kernel
theorem dX7_loadTrain_34 : decode cX7_loadTrain 34 = .ok (.iload_n 1, 1) := by decide +kernel
theorem dX7_loadTrain_35 : decode cX7_loadTrain 35 = .ok (.if_icmp .ne 70, 3) := by decide +kernel
theorem dX7_loadTrain_38 : decode cX7_loadTrain 38 = .ok (.aload_n 0, 1) := by decide +kernel
theorem dX7_loadTrain_39 : decode cX7_loadTrain 39 = .ok (.aload 4, 2) := by decide +kernel
theorem dX7_loadTrain_41 : decode cX7_loadTrain 41 = .ok (.getfield 160, 3) := by decide +kernel
theorem dX7_loadTrain_44 : decode cX7_loadTrain 44 = .ok (.invokevirtual 283, 3) := by decide +kernel
theorem dX7_loadTrain_47 : decode cX7_loadTrain 47 = .ok (.istore 5, 2) := by decide +kernel
theorem dX7_loadTrain_49 : decode cX7_loadTrain 49 = .ok (.aload 4, 2) := by decide +kernel
theorem dX7_loadTrain_51 : decode cX7_loadTrain 51 = .ok (.aload_n 0, 1) := by decide +kernel
theorem dX7_loadTrain_52 : decode cX7_loadTrain 52 = .ok (.getfield 10, 3) := by decide +kernel
theorem dX7_loadTrain_55 : decode cX7_loadTrain 55 = .ok (.iload 5, 2) := by decide +kernel
theorem dX7_loadTrain_57 : decode cX7_loadTrain 57 = .ok (.aload 4, 2) := by decide +kernel
theorem dX7_loadTrain_59 : decode cX7_loadTrain 59 = .ok (.getfield 112, 3) := by decide +kernel
theorem dX7_loadTrain_62 : decode cX7_loadTrain 62 = .ok (.invokevirtual 139, 3) := by decide +kernel
theorem dX7_loadTrain_65 : decode cX7_loadTrain 65 = .ok (.istore 6, 2) := by decide +kernel
theorem dX7_loadTrain_67 : decode cX7_loadTrain 67 = .ok (.aload_n 0, 1) := by decide +kernel
theorem dX7_loadTrain_68 : decode cX7_loadTrain 68 = .ok (.getfield 42, 3) := by decide +kernel
theorem dX7_loadTrain_71 : decode cX7_loadTrain 71 = .ok (.aload 4, 2) := by decide +kernel
theorem dX7_loadTrain_73 : decode cX7_loadTrain 73 = .ok (.getfield 160, 3) := by decide +kernel
theorem dX7_loadTrain_76 : decode cX7_loadTrain 76 = .ok (.aload 4, 2) := by decide +kernel
theorem dX7_loadTrain_78 : decode cX7_loadTrain 78 = .ok (.aload_n 0, 1) := by decide +kernel
theorem dX7_loadTrain_79 : decode cX7_loadTrain 79 = .ok (.getfield 10, 3) := by decide +kernel
theorem dX7_loadTrain_82 : decode cX7_loadTrain 82 = .ok (.iload 5, 2) := by decide +kernel
theorem dX7_loadTrain_84 : decode cX7_loadTrain 84 = .ok (.iload 6, 2) := by decide +kernel
theorem dX7_loadTrain_86 : decode cX7_loadTrain 86 = .ok (.invokevirtual 128, 3) := by decide +kernel
theorem dX7_loadTrain_89 : decode cX7_loadTrain 89 = .ok (.aload 4, 2) := by decide +kernel
theorem dX7_loadTrain_91 : decode cX7_loadTrain 91 = .ok (.aload_n 0, 1) := by decide +kernel
theorem dX7_loadTrain_92 : decode cX7_loadTrain 92 = .ok (.getfield 10, 3) := by decide +kernel
theorem dX7_loadTrain_95 : decode cX7_loadTrain 95 = .ok (.iload 5, 2) := by decide +kernel
theorem dX7_loadTrain_97 : decode cX7_loadTrain 97 = .ok (.iload 6, 2) := by decide +kernel
theorem dX7_loadTrain_99 : decode cX7_loadTrain 99 = .ok (.invokevirtual 132, 3) := by decide +kernel
theorem dX7_loadTrain_102 : decode cX7_loadTrain 102 = .ok (.invokevirtual 289, 3) := by decide +kernel
theorem dX7_loadTrain_105 : decode cX7_loadTrain 105 = .ok (.iinc 3 1, 3) := by decide +kernel
theorem dX7_loadTrain_108 : decode cX7_loadTrain 108 = .ok (.goto (-99), 3) := by decide +kernel
theorem dX7_loadTrain_111 : decode cX7_loadTrain 111 = .ok (.aload_n 0, 1) := by decide +kernel
theorem dX7_loadTrain_112 : decode cX7_loadTrain 112 = .ok (.getfield 42, 3) := by decide +kernel
theorem dX7_loadTrain_115 : decode cX7_loadTrain 115 = .ok (.aload_n 2, 1) := by decide +kernel
theorem dX7_loadTrain_116 : decode cX7_loadTrain 116 = .ok (.getfield 154, 3) := by decide +kernel
theorem dX7_loadTrain_119 : decode cX7_loadTrain 119 = .ok (.aload_n 2, 1) := by decide +kernel
theorem dX7_loadTrain_120 : decode cX7_loadTrain 120 = .ok (.getfield 280, 3) := by decide +kernel
theorem dX7_loadTrain_123 : decode cX7_loadTrain 123 = .ok (.invokevirtual 292, 3) := by decide +kernel
theorem dX7_loadTrain_126 : decode cX7_loadTrain 126 = .ok (.return_, 1) := by decide +kernel
def f_X7_loadTrain_9 (z : Nat → Nat) (u2 : Nat) : Nat → Mem → Int32 → Int32 → Option Mem
  | 0, _, _, _ => none
  | fu + 1, M, x1, x3 => if (M 50 2) ≤ x3 then bd1 (f_X5_sumFromEnd z M (M u2 0) (M u2 2)) (fun M2 => some M2) else bd1 (f_X7_kiteAt z M x3) (fun r3 => mq r3 (f_X7_loadTrain_9 z u2 fu M x1 (x3 + 1)) (fun n4 => if (M n4 5) = x1 then bd1 (f_X7_windAt z M (M n4 6)) (fun r5 => bd1 (f_X2_standingAngle z n4 M r5 (M n4 4)) (fun r6 => bd1 (f_X2_upAt z n4 M r5 r6) (fun r7 => bd1 (f_X2_backAt z n4 M r5 r6) (fun r8 => bd1 (f_X5_hang z M (M n4 6) r7 r8) (fun M9 => f_X7_loadTrain_9 z u2 fu M9 x1 (x3 + 1)))))) else f_X7_loadTrain_9 z u2 fu M x1 (x3 + 1)))
theorem t_X7_loadTrain_9 {K : KK} {a : AA} {u2 : Nat} (hu2 : vL a.1 u2) (S : Sx K RX7 cX7_loadTrain 7 (rmD 5))  {M' : Mem} (rt : RtV K a cX7_loadTrain M') : ∀ (fu : Nat) (M : Mem) (x1 : Int32) (x3 : Int32), f_X7_loadTrain_9 a.1 u2 fu M x1 x3 = some M' → Go K 7 a M 9 [(0, .ref (a.2 50)), (1, .int x1), (2, .ref (a.2 u2)), (3, .int x3)] [] := by
  intro fu
  induction fu with
  | zero => intro M x1 x3 hf; exact absurd hf (by simp [f_X7_loadTrain_9])
  | succ fu ih =>
    intro M x1 x3 hf
    rw [f_X7_loadTrain_9] at hf
    refine g_iload_n 3 S dX7_loadTrain_9 rfl ?_
    refine g_aload_n 0 S dX7_loadTrain_10 rfl ?_
    refine g_get (v := .int (M 50 2)) S ob_50 rfl gi_X7 (by decide) lf_X7_22 rfl dX7_loadTrain_11 ?_
    refine g_icmp_ge (tgt := 111) S dX7_loadTrain_14 (by decide) hf (fun c hf => ?_) (fun c hf => ?_)
    · refine g_aload_n 0 S dX7_loadTrain_111 rfl ?_
      refine g_get (v := .ref (a.2 57)) S ob_50 rfl gi_X7 (by decide) lf_X7_42 rfl dX7_loadTrain_112 ?_
      refine g_aload_n 2 S dX7_loadTrain_115 rfl ?_
      refine g_get (v := .int (M u2 0)) S (ob_L hu2) rfl gi_X3 (by decide) lf_X7_154 rfl dX7_loadTrain_116 ?_
      refine g_aload_n 2 S dX7_loadTrain_119 rfl ?_
      refine g_get (v := .int (M u2 2)) S (ob_L hu2) rfl gi_X3 (by decide) lf_X7_280 rfl dX7_loadTrain_120 ?_
      obtain ⟨M2, hM2, hf⟩ := bd1_some hf
      refine g_cVV (st := []) S ob_57 rfl ok_X5_sumFromEnd lk_X7_292 (c_X5_sumFromEnd hM2) rfl rfl ⟨by decide, by decide⟩ (rmD_z _) (Nat.le_of_ble_eq_true rfl) dX7_loadTrain_123 ?_
      exact g_vretM rt hf dX7_loadTrain_126
    · refine g_aload_n 0 S dX7_loadTrain_17 rfl ?_
      refine g_iload_n 3 S dX7_loadTrain_18 rfl ?_
      obtain ⟨r3, hr3, hf⟩ := bd1_some hf
      refine g_cVQ (st := []) S ob_50 rfl ok_X7_kiteAt lk_X7_95 (c_X7_kiteAt hr3) rfl rfl ⟨by decide, by decide⟩ (rmD_z _) (Nat.le_of_ble_eq_true rfl) dX7_loadTrain_19 ?_
      rcases r3 with _ | n4
      · have hf := mq_n hf
        refine Go.st (st' := [.null]) rfl ?_
        refine g_astoreN (lv' := [(4, .null), (0, .ref (a.2 50)), (1, .int x1), (2, .ref (a.2 u2)), (3, .int x3)]) S dX7_loadTrain_22 (by decide) rfl ?_
        refine g_aloadN 0 S dX7_loadTrain_24 rfl ?_
        refine g_ifnullN (tgt := 105) S dX7_loadTrain_26 (by decide) ?_
        refine g_iinc (v := (x3 + 1)) (lv' := [(3, .int (x3 + 1)), (4, .null), (0, .ref (a.2 50)), (1, .int x1), (2, .ref (a.2 u2))]) 4 S dX7_loadTrain_105 rfl rfl (by decide) rfl ?_
        refine g_goto (tgt := 9) S dX7_loadTrain_108 (by decide) ?_
        refine Go.sub [2, 3, 4, 0] rfl ?_
        exact ih _ _ _ hf
      · have hn4 := vd_X7_kiteAt hr3
        have hf := mq_s hf
        refine Go.st (st' := [.ref (a.2 n4)]) rfl ?_
        refine g_astore (lv' := [(4, .ref (a.2 n4)), (0, .ref (a.2 50)), (1, .int x1), (2, .ref (a.2 u2)), (3, .int x3)]) S dX7_loadTrain_22 (by decide) rfl ?_
        refine g_aload 0 S dX7_loadTrain_24 rfl ?_
        refine g_ifnull S dX7_loadTrain_26 ?_
        refine g_aload 0 S dX7_loadTrain_29 rfl ?_
        refine g_get (v := .int (M n4 5)) S (ob_K hn4) rfl gi_X2 (by decide) lf_X7_157 rfl dX7_loadTrain_31 ?_
        refine g_iload_n 2 S dX7_loadTrain_34 rfl ?_
        refine g_icmp_ne (tgt := 105) S dX7_loadTrain_35 (by decide) hf (fun c hf => ?_) (fun c hf => ?_)
        · refine g_aload_n 1 S dX7_loadTrain_38 rfl ?_
          refine g_aload 0 S dX7_loadTrain_39 rfl ?_
          refine g_get (v := .int (M n4 6)) S (ob_K hn4) rfl gi_X2 (by decide) lf_X7_160 rfl dX7_loadTrain_41 ?_
          obtain ⟨r5, hr5, hf⟩ := bd1_some hf
          refine g_cVI (st := []) S ob_50 rfl ok_X7_windAt lk_X7_283 (c_X7_windAt hr5) rfl rfl ⟨by decide, by decide⟩ (rmD_z _) (Nat.le_of_ble_eq_true rfl) dX7_loadTrain_44 ?_
          refine g_istore (lv' := [(5, .int r5), (4, .ref (a.2 n4)), (0, .ref (a.2 50)), (1, .int x1), (2, .ref (a.2 u2)), (3, .int x3)]) S dX7_loadTrain_47 (by decide) rfl ?_
          refine g_aload 1 S dX7_loadTrain_49 rfl ?_
          refine g_aload_n 2 S dX7_loadTrain_51 rfl ?_
          refine g_get (v := .ref (a.2 51)) S ob_50 rfl gi_X7 (by decide) lf_X7_10 rfl dX7_loadTrain_52 ?_
          refine g_iload 0 S dX7_loadTrain_55 rfl ?_
          refine g_aload 1 S dX7_loadTrain_57 rfl ?_
          refine g_get (v := .int (M n4 4)) S (ob_K hn4) rfl gi_X2 (by decide) lf_X7_112 rfl dX7_loadTrain_59 ?_
          obtain ⟨r6, hr6, hf⟩ := bd1_some hf
          refine g_cVI (st := []) S (ob_K hn4) rfl ok_X2_standingAngle lk_X7_139 (c_X2_standingAngle hn4 hr6) rfl rfl ⟨by decide, by decide⟩ (rmD_z _) (Nat.le_of_ble_eq_true rfl) dX7_loadTrain_62 ?_
          refine g_istore (lv' := [(6, .int r6), (5, .int r5), (4, .ref (a.2 n4)), (0, .ref (a.2 50)), (1, .int x1), (2, .ref (a.2 u2)), (3, .int x3)]) S dX7_loadTrain_65 (by decide) rfl ?_
          refine g_aload_n 3 S dX7_loadTrain_67 rfl ?_
          refine g_get (v := .ref (a.2 57)) S ob_50 rfl gi_X7 (by decide) lf_X7_42 rfl dX7_loadTrain_68 ?_
          refine g_aload 2 S dX7_loadTrain_71 rfl ?_
          refine g_get (v := .int (M n4 6)) S (ob_K hn4) rfl gi_X2 (by decide) lf_X7_160 rfl dX7_loadTrain_73 ?_
          refine g_aload 2 S dX7_loadTrain_76 rfl ?_
          refine g_aload_n 3 S dX7_loadTrain_78 rfl ?_
          refine g_get (v := .ref (a.2 51)) S ob_50 rfl gi_X7 (by decide) lf_X7_10 rfl dX7_loadTrain_79 ?_
          refine g_iload 1 S dX7_loadTrain_82 rfl ?_
          refine g_iload 0 S dX7_loadTrain_84 rfl ?_
          obtain ⟨r7, hr7, hf⟩ := bd1_some hf
          refine g_cVI (st := [.int (M n4 6), .ref (a.2 57)]) S (ob_K hn4) rfl ok_X2_upAt lk_X7_128 (c_X2_upAt hn4 hr7) rfl rfl ⟨by decide, by decide⟩ (rmD_z _) (Nat.le_of_ble_eq_true rfl) dX7_loadTrain_86 ?_
          refine g_aload 2 S dX7_loadTrain_89 rfl ?_
          refine g_aload_n 3 S dX7_loadTrain_91 rfl ?_
          refine g_get (v := .ref (a.2 51)) S ob_50 rfl gi_X7 (by decide) lf_X7_10 rfl dX7_loadTrain_92 ?_
          refine g_iload 1 S dX7_loadTrain_95 rfl ?_
          refine g_iload 0 S dX7_loadTrain_97 rfl ?_
          obtain ⟨r8, hr8, hf⟩ := bd1_some hf
          refine g_cVI (st := [.int r7, .int (M n4 6), .ref (a.2 57)]) S (ob_K hn4) rfl ok_X2_backAt lk_X7_132 (c_X2_backAt hn4 hr8) rfl rfl ⟨by decide, by decide⟩ (rmD_z _) (Nat.le_of_ble_eq_true rfl) dX7_loadTrain_99 ?_
          obtain ⟨M9, hM9, hf⟩ := bd1_some hf
          refine g_cVV (st := []) S ob_57 rfl ok_X5_hang lk_X7_289 (c_X5_hang hM9) rfl rfl ⟨by decide, by decide⟩ (rmD_z _) (Nat.le_of_ble_eq_true rfl) dX7_loadTrain_102 ?_
          refine g_iinc (v := (x3 + 1)) (lv' := [(3, .int (x3 + 1)), (6, .int r6), (5, .int r5), (4, .ref (a.2 n4)), (0, .ref (a.2 50)), (1, .int x1), (2, .ref (a.2 u2))]) 6 S dX7_loadTrain_105 rfl rfl (by decide) rfl ?_
          refine g_goto (tgt := 9) S dX7_loadTrain_108 (by decide) ?_
          refine Go.sub [4, 5, 6, 0] rfl ?_
          exact ih _ _ _ hf
        · refine g_iinc (v := (x3 + 1)) (lv' := [(3, .int (x3 + 1)), (4, .ref (a.2 n4)), (0, .ref (a.2 50)), (1, .int x1), (2, .ref (a.2 u2))]) 4 S dX7_loadTrain_105 rfl rfl (by decide) rfl ?_
          refine g_goto (tgt := 9) S dX7_loadTrain_108 (by decide) ?_
          refine Go.sub [2, 3, 4, 0] rfl ?_
          exact ih _ _ _ hf
def f_X7_loadTrain (z : Nat → Nat) (u2 : Nat) (M : Mem) (p1 : Int32) : Option Mem := bd1 (f_X5_clear z M) (fun M1 => f_X7_loadTrain_9 z u2 1000 M1 p1 0)
theorem c_X7_loadTrain {l : Launch} {G : GG} {a : AA} {u2 : Nat} (hu2 : vL a.1 u2) {M : Mem} {p1 : Int32}  {M' : Mem} (hf : f_X7_loadTrain a.1 u2 M p1 = some M') : CtV l G a yX7_loadTrain cX7_loadTrain 7 (rmD 5) [.ref (a.2 50), .int p1, .ref (a.2 u2)] M M' := by
  refine ct_V (by decide) rfl (own := RX7) (Nat.le_of_ble_eq_true rfl) (fun K hl hg S rt => ?_)
  subst hl; subst hg
  unfold f_X7_loadTrain at hf
  show Go K 7 a M 0 [(0, .ref (a.2 50)), (1, .int p1), (2, .ref (a.2 u2))] []
  refine g_aload_n 0 S dX7_loadTrain_0 rfl ?_
  refine g_get (v := .ref (a.2 57)) S ob_50 rfl gi_X7 (by decide) lf_X7_42 rfl dX7_loadTrain_1 ?_
  obtain ⟨M1, hM1, hf⟩ := bd1_some hf
  refine g_cVV (st := []) S ob_57 rfl ok_X5_clear lk_X7_286 (c_X5_clear hM1) rfl rfl ⟨by decide, by decide⟩ (rmD_z _) (Nat.le_of_ble_eq_true rfl) dX7_loadTrain_4 ?_
  refine g_iconst (v := 0) S dX7_loadTrain_7 rfl ?_
  refine g_istore_n (lv' := [(3, .int 0), (0, .ref (a.2 50)), (1, .int p1), (2, .ref (a.2 u2))]) S dX7_loadTrain_8 (by decide) rfl ?_
  refine Go.sub [1, 2, 3, 0] rfl ?_
  exact t_X7_loadTrain_9 hu2 S rt 1000 _ _ _ hf
-- BridleBook.partingStep(ILBridleBook$Line;)I
theorem dX7_partingStep_0 : decode cX7_partingStep 0 = .ok (.aload_n 0, 1) := by decide +kernel
theorem dX7_partingStep_1 : decode cX7_partingStep 1 = .ok (.iload_n 1, 1) := by decide +kernel
theorem dX7_partingStep_2 : decode cX7_partingStep 2 = .ok (.aload_n 2, 1) := by decide +kernel
theorem dX7_partingStep_3 : decode cX7_partingStep 3 = .ok (.invokevirtual 187, 3) := by decide +kernel
theorem dX7_partingStep_6 : decode cX7_partingStep 6 = .ok (.iconst 0, 1) := by decide +kernel
theorem dX7_partingStep_7 : decode cX7_partingStep 7 = .ok (.istore_n 3, 1) := by decide +kernel
theorem dX7_partingStep_8 : decode cX7_partingStep 8 = .ok (.iconst 0, 1) := by decide +kernel
theorem dX7_partingStep_9 : decode cX7_partingStep 9 = .ok (.istore 4, 2) := by decide +kernel
theorem dX7_partingStep_11 : decode cX7_partingStep 11 = .ok (.iconst 1, 1) := by decide +kernel
theorem dX7_partingStep_12 : decode cX7_partingStep 12 = .ok (.istore 5, 2) := by decide +kernel
theorem dX7_partingStep_14 : decode cX7_partingStep 14 = .ok (.iload 5, 2) := by decide +kernel
theorem dX7_partingStep_16 : decode cX7_partingStep 16 = .ok (.aload_n 2, 1) := by decide +kernel
theorem dX7_partingStep_17 : decode cX7_partingStep 17 = .ok (.getfield 154, 3) := by decide +kernel
theorem dX7_partingStep_20 : decode cX7_partingStep 20 = .ok (.if_icmp .gt 41, 3) := by decide +kernel
theorem dX7_partingStep_23 : decode cX7_partingStep 23 = .ok (.aload_n 0, 1) := by decide +kernel
theorem dX7_partingStep_24 : decode cX7_partingStep 24 = .ok (.getfield 42, 3) := by decide +kernel
theorem dX7_partingStep_27 : decode cX7_partingStep 27 = .ok (.iload 5, 2) := by decide +kernel
theorem dX7_partingStep_29 : decode cX7_partingStep 29 = .ok (.invokevirtual 196, 3) := by decide +kernel
theorem dX7_partingStep_32 : decode cX7_partingStep 32 = .ok (.aload_n 2, 1) := by decide +kernel
theorem dX7_partingStep_33 : decode cX7_partingStep 33 = .ok (.iload 5, 2) := by decide +kernel
theorem dX7_partingStep_35 : decode cX7_partingStep 35 = .ok (.invokevirtual 184, 3) := by decide +kernel
theorem dX7_partingStep_38 : decode cX7_partingStep 38 = .ok (.isub, 1) := by decide +kernel
theorem dX7_partingStep_39 : decode cX7_partingStep 39 = .ok (.istore 6, 2) := by decide +kernel
theorem dX7_partingStep_41 : decode cX7_partingStep 41 = .ok (.iload 6, 2) := by decide +kernel
theorem dX7_partingStep_43 : decode cX7_partingStep 43 = .ok (.iload 4, 2) := by decide +kernel
theorem dX7_partingStep_45 : decode cX7_partingStep 45 = .ok (.if_icmp .le 10, 3) := by decide +kernel
theorem dX7_partingStep_48 : decode cX7_partingStep 48 = .ok (.iload 6, 2) := by decide +kernel
theorem dX7_partingStep_50 : decode cX7_partingStep 50 = .ok (.istore 4, 2) := by decide +kernel
theorem dX7_partingStep_52 : decode cX7_partingStep 52 = .ok (.iload 5, 2) := by decide +kernel
theorem dX7_partingStep_54 : decode cX7_partingStep 54 = .ok (.istore_n 3, 1) := by decide +kernel
theorem dX7_partingStep_55 : decode cX7_partingStep 55 = .ok (.iinc 5 1, 3) := by decide +kernel
theorem dX7_partingStep_58 : decode cX7_partingStep 58 = .ok (.goto (-44), 3) := by decide +kernel
theorem dX7_partingStep_61 : decode cX7_partingStep 61 = .ok (.iload_n 3, 1) := by decide +kernel
theorem dX7_partingStep_62 : decode cX7_partingStep 62 = .ok (.ireturn, 1) := by decide +kernel
def f_X7_partingStep_14 (z : Nat → Nat) (u2 : Nat) : Nat → Mem → Int32 → Int32 → Int32 → Option (Int32 × Mem)
  | 0, _, _, _, _ => none
  | fu + 1, M, x3, x4, x5 => if (M u2 0) < x5 then some (x3, M) else bd1 (f_X5_tensionAt z M x5) (fun r2 => bd1 (f_X3_strengthAt z u2 M x5) (fun r3 => if (r2 - r3) ≤ x4 then f_X7_partingStep_14 z u2 fu M x3 x4 (x5 + 1) else f_X7_partingStep_14 z u2 fu M x5 (r2 - r3) (x5 + 1)))
theorem t_X7_partingStep_14 {K : KK} {a : AA} {u2 : Nat} (hu2 : vL a.1 u2) (S : Sx K RX7 cX7_partingStep 7 (rmD 6)) {r : Int32} {M' : Mem} (rt : RtI K a cX7_partingStep r M') : ∀ (fu : Nat) (M : Mem) (x3 : Int32) (x4 : Int32) (x5 : Int32), f_X7_partingStep_14 a.1 u2 fu M x3 x4 x5 = some (r, M') → Go K 7 a M 14 [(0, .ref (a.2 50)), (2, .ref (a.2 u2)), (3, .int x3), (4, .int x4), (5, .int x5)] [] := by
  intro fu
  induction fu with
  | zero => intro M x3 x4 x5 hf; exact absurd hf (by simp [f_X7_partingStep_14])
  | succ fu ih =>
    intro M x3 x4 x5 hf
    rw [f_X7_partingStep_14] at hf
    refine g_iload 4 S dX7_partingStep_14 rfl ?_
    refine g_aload_n 1 S dX7_partingStep_16 rfl ?_
    refine g_get (v := .int (M u2 0)) S (ob_L hu2) rfl gi_X3 (by decide) lf_X7_154 rfl dX7_partingStep_17 ?_
    refine g_icmp_gt (tgt := 61) S dX7_partingStep_20 (by decide) hf (fun c hf => ?_) (fun c hf => ?_)
    · refine g_iload_n 2 S dX7_partingStep_61 rfl ?_
      exact g_iretM rt hf dX7_partingStep_62
    · refine g_aload_n 0 S dX7_partingStep_23 rfl ?_
      refine g_get (v := .ref (a.2 57)) S ob_50 rfl gi_X7 (by decide) lf_X7_42 rfl dX7_partingStep_24 ?_
      refine g_iload 4 S dX7_partingStep_27 rfl ?_
      obtain ⟨r2, hr2, hf⟩ := bd1_some hf
      refine g_cVI (st := []) S ob_57 rfl ok_X5_tensionAt lk_X7_196 (c_X5_tensionAt hr2) rfl rfl ⟨by decide, by decide⟩ (rmD_z _) (Nat.le_of_ble_eq_true rfl) dX7_partingStep_29 ?_
      refine g_aload_n 1 S dX7_partingStep_32 rfl ?_
      refine g_iload 4 S dX7_partingStep_33 rfl ?_
      obtain ⟨r3, hr3, hf⟩ := bd1_some hf
      refine g_cVI (st := [.int r2]) S (ob_L hu2) rfl ok_X3_strengthAt lk_X7_184 (c_X3_strengthAt hu2 hr3) rfl rfl ⟨by decide, by decide⟩ (rmD_z _) (Nat.le_of_ble_eq_true rfl) dX7_partingStep_35 ?_
      refine g_isub S dX7_partingStep_38 ?_
      refine g_istore (lv' := [(6, .int (r2 - r3)), (0, .ref (a.2 50)), (2, .ref (a.2 u2)), (3, .int x3), (4, .int x4), (5, .int x5)]) S dX7_partingStep_39 (by decide) rfl ?_
      refine g_iload 0 S dX7_partingStep_41 rfl ?_
      refine g_iload 4 S dX7_partingStep_43 rfl ?_
      refine g_icmp_le (tgt := 55) S dX7_partingStep_45 (by decide) hf (fun c hf => ?_) (fun c hf => ?_)
      · refine g_iinc (v := (x5 + 1)) (lv' := [(5, .int (x5 + 1)), (6, .int (r2 - r3)), (0, .ref (a.2 50)), (2, .ref (a.2 u2)), (3, .int x3), (4, .int x4)]) 5 S dX7_partingStep_55 rfl rfl (by decide) rfl ?_
        refine g_goto (tgt := 14) S dX7_partingStep_58 (by decide) ?_
        refine Go.sub [2, 3, 4, 5, 0] rfl ?_
        exact ih _ _ _ _ hf
      · refine g_iload 0 S dX7_partingStep_48 rfl ?_
        refine g_istore (lv' := [(4, .int (r2 - r3)), (6, .int (r2 - r3)), (0, .ref (a.2 50)), (2, .ref (a.2 u2)), (3, .int x3), (5, .int x5)]) S dX7_partingStep_50 (by decide) rfl ?_
        refine g_iload 5 S dX7_partingStep_52 rfl ?_
        refine g_istore_n (lv' := [(3, .int x5), (4, .int (r2 - r3)), (6, .int (r2 - r3)), (0, .ref (a.2 50)), (2, .ref (a.2 u2)), (5, .int x5)]) S dX7_partingStep_54 (by decide) rfl ?_
        refine g_iinc (v := (x5 + 1)) (lv' := [(5, .int (x5 + 1)), (3, .int x5), (4, .int (r2 - r3)), (6, .int (r2 - r3)), (0, .ref (a.2 50)), (2, .ref (a.2 u2))]) 5 S dX7_partingStep_55 rfl rfl (by decide) rfl ?_
        refine g_goto (tgt := 14) S dX7_partingStep_58 (by decide) ?_
        refine Go.sub [4, 5, 1, 2, 0] rfl ?_
        exact ih _ _ _ _ hf
def f_X7_partingStep (z : Nat → Nat) (u2 : Nat) (M : Mem) (p1 : Int32) : Option (Int32 × Mem) := bd1 (f_X7_loadTrain z u2 M p1) (fun M1 => f_X7_partingStep_14 z u2 1000 M1 0 0 1)
theorem c_X7_partingStep {l : Launch} {G : GG} {a : AA} {u2 : Nat} (hu2 : vL a.1 u2) {M : Mem} {p1 : Int32} {r : Int32} {M' : Mem} (hf : f_X7_partingStep a.1 u2 M p1 = some (r, M')) : CtI l G a yX7_partingStep cX7_partingStep 7 .int (rmD 6) [.ref (a.2 50), .int p1, .ref (a.2 u2)] M r M' := by
  refine ct_I (by decide) rfl rfl (own := RX7) (Nat.le_of_ble_eq_true rfl) (fun K hl hg S rt => ?_)
  subst hl; subst hg
  unfold f_X7_partingStep at hf
  show Go K 7 a M 0 [(0, .ref (a.2 50)), (1, .int p1), (2, .ref (a.2 u2))] []
  refine g_aload_n 0 S dX7_partingStep_0 rfl ?_
  refine g_iload_n 1 S dX7_partingStep_1 rfl ?_
  refine g_aload_n 2 S dX7_partingStep_2 rfl ?_
  obtain ⟨M1, hM1, hf⟩ := bd1_some hf
  refine g_cVV (st := []) S ob_50 rfl ok_X7_loadTrain lk_X7_187 (c_X7_loadTrain hu2 hM1) rfl rfl ⟨by decide, by decide⟩ (rmD_z _) (Nat.le_of_ble_eq_true rfl) dX7_partingStep_3 ?_
  refine g_iconst (v := 0) S dX7_partingStep_6 rfl ?_
  refine g_istore_n (lv' := [(3, .int 0), (0, .ref (a.2 50)), (1, .int p1), (2, .ref (a.2 u2))]) S dX7_partingStep_7 (by decide) rfl ?_
  refine g_iconst (v := 0) S dX7_partingStep_8 rfl ?_
  refine g_istore (lv' := [(4, .int 0), (3, .int 0), (0, .ref (a.2 50)), (1, .int p1), (2, .ref (a.2 u2))]) S dX7_partingStep_9 (by decide) rfl ?_
  refine g_iconst (v := 1) S dX7_partingStep_11 rfl ?_
  refine g_istore (lv' := [(5, .int 1), (4, .int 0), (3, .int 0), (0, .ref (a.2 50)), (1, .int p1), (2, .ref (a.2 u2))]) S dX7_partingStep_12 (by decide) rfl ?_
  refine Go.sub [3, 5, 2, 1, 0] rfl ?_
  exact t_X7_partingStep_14 hu2 S rt 1000 _ _ _ _ hf
-- BridleBook.ofLine(II)I
theorem dX7_ofLine_0 : decode cX7_ofLine 0 = .ok (.aload_n 0, 1) := by decide +kernel
theorem dX7_ofLine_1 : decode cX7_ofLine 1 = .ok (.iload_n 1, 1) := by decide +kernel
theorem dX7_ofLine_2 : decode cX7_ofLine 2 = .ok (.invokevirtual 150, 3) := by decide +kernel
theorem dX7_ofLine_5 : decode cX7_ofLine 5 = .ok (.astore_n 3, 1) := by decide +kernel
theorem dX7_ofLine_6 : decode cX7_ofLine 6 = .ok (.aload_n 3, 1) := by decide +kernel
theorem dX7_ofLine_7 : decode cX7_ofLine 7 = .ok (.ifnonnull 6, 3) := by decide +kernel
theorem dX7_ofLine_10 : decode cX7_ofLine 10 = .ok (.ldc 111, 2) := by decide +kernel
theorem dX7_ofLine_12 : decode cX7_ofLine 12 = .ok (.ireturn, 1) := by decide +kernel
theorem dX7_ofLine_13 : decode cX7_ofLine 13 = .ok (.iload_n 2, 1) := by decide +kernel
theorem dX7_ofLine_14 : decode cX7_ofLine 14 = .ok (.tableswitch 73 0 4 #[34, 39, 45, 50, 58], 34) := by decide +kernel
theorem dX7_ofLine_48 : decode cX7_ofLine 48 = .ok (.aload_n 3, 1) := by decide +kernel
theorem dX7_ofLine_49 : decode cX7_ofLine 49 = .ok (.getfield 154, 3) := by decide +kernel
theorem dX7_ofLine_52 : decode cX7_ofLine 52 = .ok (.ireturn, 1) := by decide +kernel
theorem dX7_ofLine_53 : decode cX7_ofLine 53 = .ok (.aload_n 0, 1) := by decide +kernel
theorem dX7_ofLine_54 : decode cX7_ofLine 54 = .ok (.iload_n 1, 1) := by decide +kernel
theorem dX7_ofLine_55 : decode cX7_ofLine 55 = .ok (.invokevirtual 163, 3) := by decide +kernel
theorem dX7_ofLine_58 : decode cX7_ofLine 58 = .ok (.ireturn, 1) := by decide +kernel
theorem dX7_ofLine_59 : decode cX7_ofLine 59 = .ok (.aload_n 3, 1) := by decide +kernel
theorem dX7_ofLine_60 : decode cX7_ofLine 60 = .ok (.getfield 173, 3) := by decide +kernel
theorem dX7_ofLine_63 : decode cX7_ofLine 63 = .ok (.ireturn, 1) := by decide +kernel
theorem dX7_ofLine_64 : decode cX7_ofLine 64 = .ok (.aload_n 0, 1) := by decide +kernel
theorem dX7_ofLine_65 : decode cX7_ofLine 65 = .ok (.iload_n 1, 1) := by decide +kernel
theorem dX7_ofLine_66 : decode cX7_ofLine 66 = .ok (.aload_n 3, 1) := by decide +kernel
theorem dX7_ofLine_67 : decode cX7_ofLine 67 = .ok (.iconst (-1), 1) := by decide +kernel
theorem dX7_ofLine_68 : decode cX7_ofLine 68 = .ok (.invokevirtual 176, 3) := by decide +kernel
theorem dX7_ofLine_71 : decode cX7_ofLine 71 = .ok (.ireturn, 1) := by decide +kernel
theorem dX7_ofLine_72 : decode cX7_ofLine 72 = .ok (.aload_n 0, 1) := by decide +kernel
theorem dX7_ofLine_73 : decode cX7_ofLine 73 = .ok (.iload_n 1, 1) := by decide +kernel
theorem dX7_ofLine_74 : decode cX7_ofLine 74 = .ok (.aload_n 3, 1) := by decide +kernel
theorem dX7_ofLine_75 : decode cX7_ofLine 75 = .ok (.invokevirtual 180, 3) := by decide +kernel
theorem dX7_ofLine_78 : decode cX7_ofLine 78 = .ok (.ifCond .ne 7, 3) := by decide +kernel
theorem dX7_ofLine_81 : decode cX7_ofLine 81 = .ok (.iconst 0, 1) := by decide +kernel
theorem dX7_ofLine_82 : decode cX7_ofLine 82 = .ok (.goto 4, 3) := by decide +kernel
theorem dX7_ofLine_85 : decode cX7_ofLine 85 = .ok (.iconst 1, 1) := by decide +kernel
theorem dX7_ofLine_86 : decode cX7_ofLine 86 = .ok (.ireturn, 1) := by decide +kernel
theorem dX7_ofLine_87 : decode cX7_ofLine 87 = .ok (.ldc 111, 2) := by decide +kernel
theorem dX7_ofLine_89 : decode cX7_ofLine 89 = .ok (.ireturn, 1) := by decide +kernel
def f_X7_ofLine (z : Nat → Nat) (M : Mem) (p1 : Int32) (p2 : Int32) : Option (Int32 × Mem) := bd1 (f_X7_lineAt z M p1) (fun r1 => mq r1 (some ((-2000000000), M)) (fun n2 => if p2 = 0 then some ((M n2 0), M) else if p2 = 1 then bd1 (f_X7_kitesOn z M p1) (fun r3 => some (r3, M)) else if p2 = 2 then some ((M n2 4), M) else if p2 = 3 then bd1 (f_X7_liftsOf z n2 M p1 (-1)) (fun r4 => some (r4, M)) else if p2 = 4 then bd2 (f_X7_partingStep z n2 M p1) (fun r5 M6 => if r5 = 0 then some (0, M6) else some (1, M6)) else (some ((-2000000000), M))))
theorem c_X7_ofLine {l : Launch} {G : GG} {a : AA} {M : Mem} {p1 : Int32} {p2 : Int32} {r : Int32} {M' : Mem} (hf : f_X7_ofLine a.1 M p1 p2 = some (r, M')) : CtI l G a yX7_ofLine cX7_ofLine 4 .int (rmD 7) [.ref (a.2 50), .int p1, .int p2] M r M' := by
  refine ct_I (by decide) rfl rfl (own := RX7) (Nat.le_of_ble_eq_true rfl) (fun K hl hg S rt => ?_)
  subst hl; subst hg
  unfold f_X7_ofLine at hf
  show Go K 4 a M 0 [(0, .ref (a.2 50)), (1, .int p1), (2, .int p2)] []
  refine g_aload_n 0 S dX7_ofLine_0 rfl ?_
  refine g_iload_n 1 S dX7_ofLine_1 rfl ?_
  obtain ⟨r1, hr1, hf⟩ := bd1_some hf
  refine g_cVQ (st := []) S ob_50 rfl ok_X7_lineAt lk_X7_150 (c_X7_lineAt hr1) rfl rfl ⟨by decide, by decide⟩ (rmD_z _) (Nat.le_of_ble_eq_true rfl) dX7_ofLine_2 ?_
  rcases r1 with _ | n2
  · have hf := mq_n hf
    refine Go.st (st' := [.null]) rfl ?_
    refine g_astore_nN (lv' := [(3, .null), (0, .ref (a.2 50)), (1, .int p1), (2, .int p2)]) S dX7_ofLine_5 (by decide) rfl ?_
    refine g_aload_nN 0 S dX7_ofLine_6 rfl ?_
    refine g_ifnonnullN S dX7_ofLine_7 ?_
    refine g_ldc S lc_X7_111 dX7_ofLine_10 ?_
    exact g_iretM rt hf dX7_ofLine_12
  · have hn2 := vd_X7_lineAt hr1
    have hf := mq_s hf
    refine Go.st (st' := [.ref (a.2 n2)]) rfl ?_
    refine g_astore_n (lv' := [(3, .ref (a.2 n2)), (0, .ref (a.2 50)), (1, .int p1), (2, .int p2)]) S dX7_ofLine_5 (by decide) rfl ?_
    refine g_aload_n 0 S dX7_ofLine_6 rfl ?_
    refine g_ifnonnull (tgt := 13) S dX7_ofLine_7 (by decide) ?_
    refine g_iload_n 3 S dX7_ofLine_13 rfl ?_
    refine sp_if hf (fun c0 hf => ?_) (fun c0 hf => ?_)
    · refine g_tabIn (tgt := 48) 0 S dX7_ofLine_14 c0 (by decide) (by decide) rfl (by decide) ?_
      refine g_aload_n 0 S dX7_ofLine_48 rfl ?_
      refine g_get (v := .int (M n2 0)) S (ob_L hn2) rfl gi_X3 (by decide) lf_X7_154 rfl dX7_ofLine_49 ?_
      exact g_iretM rt hf dX7_ofLine_52
    refine sp_if hf (fun c1 hf => ?_) (fun c1 hf => ?_)
    · refine g_tabIn (tgt := 53) 1 S dX7_ofLine_14 c1 (by decide) (by decide) rfl (by decide) ?_
      refine g_aload_n 1 S dX7_ofLine_53 rfl ?_
      refine g_iload_n 2 S dX7_ofLine_54 rfl ?_
      obtain ⟨r3, hr3, hf⟩ := bd1_some hf
      refine g_cVI (st := []) S ob_50 rfl ok_X7_kitesOn lk_X7_163 (c_X7_kitesOn hr3) rfl rfl ⟨by decide, by decide⟩ (rmD_z _) (Nat.le_of_ble_eq_true rfl) dX7_ofLine_55 ?_
      exact g_iretM rt hf dX7_ofLine_58
    refine sp_if hf (fun c2 hf => ?_) (fun c2 hf => ?_)
    · refine g_tabIn (tgt := 59) 2 S dX7_ofLine_14 c2 (by decide) (by decide) rfl (by decide) ?_
      refine g_aload_n 0 S dX7_ofLine_59 rfl ?_
      refine g_get (v := .int (M n2 4)) S (ob_L hn2) rfl gi_X3 (by decide) lf_X7_173 rfl dX7_ofLine_60 ?_
      exact g_iretM rt hf dX7_ofLine_63
    refine sp_if hf (fun c3 hf => ?_) (fun c3 hf => ?_)
    · refine g_tabIn (tgt := 64) 3 S dX7_ofLine_14 c3 (by decide) (by decide) rfl (by decide) ?_
      refine g_aload_n 1 S dX7_ofLine_64 rfl ?_
      refine g_iload_n 2 S dX7_ofLine_65 rfl ?_
      refine g_aload_n 0 S dX7_ofLine_66 rfl ?_
      refine g_iconst (v := (-1)) S dX7_ofLine_67 rfl ?_
      obtain ⟨r4, hr4, hf⟩ := bd1_some hf
      refine g_cVI (st := []) S ob_50 rfl ok_X7_liftsOf lk_X7_176 (c_X7_liftsOf hn2 hr4) rfl rfl ⟨by decide, by decide⟩ (rmD_z _) (Nat.le_of_ble_eq_true rfl) dX7_ofLine_68 ?_
      exact g_iretM rt hf dX7_ofLine_71
    refine sp_if hf (fun c4 hf => ?_) (fun c4 hf => ?_)
    · refine g_tabIn (tgt := 72) 4 S dX7_ofLine_14 c4 (by decide) (by decide) rfl (by decide) ?_
      refine g_aload_n 1 S dX7_ofLine_72 rfl ?_
      refine g_iload_n 2 S dX7_ofLine_73 rfl ?_
      refine g_aload_n 0 S dX7_ofLine_74 rfl ?_
      obtain ⟨r5, M6, hr5, hf⟩ := bd2_some hf
      refine g_cVI (st := []) S ob_50 rfl ok_X7_partingStep lk_X7_180 (c_X7_partingStep hn2 hr5) rfl rfl ⟨by decide, by decide⟩ (rmD_z _) (Nat.le_of_ble_eq_true rfl) dX7_ofLine_75 ?_
      refine g_if_ne (tgt := 85) S dX7_ofLine_78 (by decide) hf (fun c hf => ?_) (fun c hf => ?_)
      · refine g_iconst (v := 0) S dX7_ofLine_81 rfl ?_
        refine g_goto (tgt := 86) S dX7_ofLine_82 (by decide) ?_
        exact g_iretM rt hf dX7_ofLine_86
      · refine g_iconst (v := 1) S dX7_ofLine_85 rfl ?_
        exact g_iretM rt hf dX7_ofLine_86
    refine g_tabOut (tgt := 87) S dX7_ofLine_14 (by have := sw_ne c0; simp only [show ((0 : Int32).toInt) = 0 from by decide] at this; have := sw_ne c1; simp only [show ((1 : Int32).toInt) = 1 from by decide] at this; have := sw_ne c2; simp only [show ((2 : Int32).toInt) = 2 from by decide] at this; have := sw_ne c3; simp only [show ((3 : Int32).toInt) = 3 from by decide] at this; have := sw_ne c4; simp only [show ((4 : Int32).toInt) = 4 from by decide] at this; omega) (by decide) ?_
    refine g_ldc S lc_X7_111 dX7_ofLine_87 ?_
    exact g_iretM rt hf dX7_ofLine_89
-- BridleBook.step(III)I
theorem dX7_step_0 : decode cX7_step 0 = .ok (.aload_n 0, 1) := by decide +kernel
theorem dX7_step_1 : decode cX7_step 1 = .ok (.iload_n 1, 1) := by decide +kernel
theorem dX7_step_2 : decode cX7_step 2 = .ok (.invokevirtual 150, 3) := by decide +kernel
theorem dX7_step_5 : decode cX7_step 5 = .ok (.astore 4, 2) := by decide +kernel
theorem dX7_step_7 : decode cX7_step 7 = .ok (.aload 4, 2) := by decide +kernel
theorem dX7_step_9 : decode cX7_step 9 = .ok (.ifnull 25, 3) := by decide +kernel
theorem dX7_step_12 : decode cX7_step 12 = .ok (.iload_n 2, 1) := by decide +kernel
theorem dX7_step_13 : decode cX7_step 13 = .ok (.iconst 1, 1) := by decide +kernel
theorem dX7_step_14 : decode cX7_step 14 = .ok (.aload 4, 2) := by decide +kernel
theorem dX7_step_16 : decode cX7_step 16 = .ok (.getfield 154, 3) := by decide +kernel
theorem dX7_step_19 : decode cX7_step 19 = .ok (.invokestatic 99, 3) := by decide +kernel
theorem dX7_step_22 : decode cX7_step 22 = .ok (.ifCond .eq 12, 3) := by decide +kernel
theorem dX7_step_25 : decode cX7_step 25 = .ok (.iload_n 3, 1) := by decide +kernel
theorem dX7_step_26 : decode cX7_step 26 = .ok (.iconst 0, 1) := by decide +kernel
theorem dX7_step_27 : decode cX7_step 27 = .ok (.iconst 5, 1) := by decide +kernel
theorem dX7_step_28 : decode cX7_step 28 = .ok (.invokestatic 99, 3) := by decide +kernel
theorem dX7_step_31 : decode cX7_step 31 = .ok (.ifCond .ne 6, 3) := by decide +kernel
theorem dX7_step_34 : decode cX7_step 34 = .ok (.ldc 111, 2) := by decide +kernel
theorem dX7_step_36 : decode cX7_step 36 = .ok (.ireturn, 1) := by decide +kernel
theorem dX7_step_37 : decode cX7_step 37 = .ok (.iload_n 3, 1) := by decide +kernel
theorem dX7_step_38 : decode cX7_step 38 = .ok (.iconst 5, 1) := by decide +kernel
theorem dX7_step_39 : decode cX7_step 39 = .ok (.if_icmp .ne 10, 3) := by decide +kernel
theorem dX7_step_42 : decode cX7_step 42 = .ok (.aload 4, 2) := by decide +kernel
theorem dX7_step_44 : decode cX7_step 44 = .ok (.iload_n 2, 1) := by decide +kernel
theorem dX7_step_45 : decode cX7_step 45 = .ok (.invokevirtual 184, 3) := by decide +kernel
theorem dX7_step_48 : decode cX7_step 48 = .ok (.ireturn, 1) := by decide +kernel
theorem dX7_step_49 : decode cX7_step 49 = .ok (.aload_n 0, 1) := by decide +kernel
theorem dX7_step_50 : decode cX7_step 50 = .ok (.iload_n 1, 1) := by decide +kernel
theorem dX7_step_51 : decode cX7_step 51 = .ok (.aload 4, 2) := by decide +kernel
theorem dX7_step_53 : decode cX7_step 53 = .ok (.invokevirtual 187, 3) := by decide +kernel
theorem dX7_step_56 : decode cX7_step 56 = .ok (.iload_n 3, 1) := by decide +kernel
theorem dX7_step_57 : decode cX7_step 57 = .ok (.tableswitch 67 0 3 #[31, 40, 49, 58], 31) := by decide +kernel
theorem dX7_step_88 : decode cX7_step 88 = .ok (.aload_n 0, 1) := by decide +kernel
theorem dX7_step_89 : decode cX7_step 89 = .ok (.getfield 42, 3) := by decide +kernel
theorem dX7_step_92 : decode cX7_step 92 = .ok (.iload_n 2, 1) := by decide +kernel
theorem dX7_step_93 : decode cX7_step 93 = .ok (.invokevirtual 191, 3) := by decide +kernel
theorem dX7_step_96 : decode cX7_step 96 = .ok (.ireturn, 1) := by decide +kernel
theorem dX7_step_97 : decode cX7_step 97 = .ok (.aload_n 0, 1) := by decide +kernel
theorem dX7_step_98 : decode cX7_step 98 = .ok (.getfield 42, 3) := by decide +kernel
theorem dX7_step_101 : decode cX7_step 101 = .ok (.iload_n 2, 1) := by decide +kernel
theorem dX7_step_102 : decode cX7_step 102 = .ok (.invokevirtual 194, 3) := by decide +kernel
theorem dX7_step_105 : decode cX7_step 105 = .ok (.ireturn, 1) := by decide +kernel
theorem dX7_step_106 : decode cX7_step 106 = .ok (.aload_n 0, 1) := by decide +kernel
theorem dX7_step_107 : decode cX7_step 107 = .ok (.getfield 42, 3) := by decide +kernel
theorem dX7_step_110 : decode cX7_step 110 = .ok (.iload_n 2, 1) := by decide +kernel
theorem dX7_step_111 : decode cX7_step 111 = .ok (.invokevirtual 196, 3) := by decide +kernel
theorem dX7_step_114 : decode cX7_step 114 = .ok (.ireturn, 1) := by decide +kernel
theorem dX7_step_115 : decode cX7_step 115 = .ok (.aload_n 0, 1) := by decide +kernel
theorem dX7_step_116 : decode cX7_step 116 = .ok (.getfield 42, 3) := by decide +kernel
theorem dX7_step_119 : decode cX7_step 119 = .ok (.iload_n 2, 1) := by decide +kernel
theorem dX7_step_120 : decode cX7_step 120 = .ok (.invokevirtual 199, 3) := by decide +kernel
theorem dX7_step_123 : decode cX7_step 123 = .ok (.ireturn, 1) := by decide +kernel
theorem dX7_step_124 : decode cX7_step 124 = .ok (.aload_n 0, 1) := by decide +kernel
theorem dX7_step_125 : decode cX7_step 125 = .ok (.getfield 42, 3) := by decide +kernel
theorem dX7_step_128 : decode cX7_step 128 = .ok (.iload_n 2, 1) := by decide +kernel
theorem dX7_step_129 : decode cX7_step 129 = .ok (.invokevirtual 202, 3) := by decide +kernel
theorem dX7_step_132 : decode cX7_step 132 = .ok (.ireturn, 1) := by decide +kernel
def f_X7_step (z : Nat → Nat) (M : Mem) (p1 : Int32) (p2 : Int32) (p3 : Int32) : Option (Int32 × Mem) := bd1 (f_X7_lineAt z M p1) (fun r1 => mq r1 (some ((-2000000000), M)) (fun n2 => bd1 (f_X7_within z M p2 1 (M n2 0)) (fun r3 => if r3 = true then bd1 (f_X7_within z M p3 0 5) (fun r4 => if r4 = true then if p3 = 5 then bd1 (f_X3_strengthAt z n2 M p2) (fun r5 => some (r5, M)) else bd1 (f_X7_loadTrain z n2 M p1) (fun M6 => if p3 = 0 then bd1 (f_X5_acrossAt z M6 p2) (fun r7 => some (r7, M6)) else if p3 = 1 then bd1 (f_X5_upAt z M6 p2) (fun r8 => some (r8, M6)) else if p3 = 2 then bd1 (f_X5_tensionAt z M6 p2) (fun r9 => some (r9, M6)) else if p3 = 3 then bd1 (f_X5_placeAcross z M6 p2) (fun r10 => some (r10, M6)) else (bd1 (f_X5_placeUp z M6 p2) (fun r11 => some (r11, M6)))) else some ((-2000000000), M)) else some ((-2000000000), M))))
theorem c_X7_step {l : Launch} {G : GG} {a : AA} {M : Mem} {p1 : Int32} {p2 : Int32} {p3 : Int32} {r : Int32} {M' : Mem} (hf : f_X7_step a.1 M p1 p2 p3 = some (r, M')) : CtI l G a yX7_step cX7_step 5 .int (rmD 6) [.ref (a.2 50), .int p1, .int p2, .int p3] M r M' := by
  refine ct_I (by decide) rfl rfl (own := RX7) (Nat.le_of_ble_eq_true rfl) (fun K hl hg S rt => ?_)
  subst hl; subst hg
  unfold f_X7_step at hf
  show Go K 5 a M 0 [(0, .ref (a.2 50)), (1, .int p1), (2, .int p2), (3, .int p3)] []
  refine g_aload_n 0 S dX7_step_0 rfl ?_
  refine g_iload_n 1 S dX7_step_1 rfl ?_
  obtain ⟨r1, hr1, hf⟩ := bd1_some hf
  refine g_cVQ (st := []) S ob_50 rfl ok_X7_lineAt lk_X7_150 (c_X7_lineAt hr1) rfl rfl ⟨by decide, by decide⟩ (rmD_z _) (Nat.le_of_ble_eq_true rfl) dX7_step_2 ?_
  rcases r1 with _ | n2
  · have hf := mq_n hf
    refine Go.st (st' := [.null]) rfl ?_
    refine g_astoreN (lv' := [(4, .null), (0, .ref (a.2 50)), (1, .int p1), (2, .int p2), (3, .int p3)]) S dX7_step_5 (by decide) rfl ?_
    refine g_aloadN 0 S dX7_step_7 rfl ?_
    refine g_ifnullN (tgt := 34) S dX7_step_9 (by decide) ?_
    refine g_ldc S lc_X7_111 dX7_step_34 ?_
    exact g_iretM rt hf dX7_step_36
  · have hn2 := vd_X7_lineAt hr1
    have hf := mq_s hf
    refine Go.st (st' := [.ref (a.2 n2)]) rfl ?_
    refine g_astore (lv' := [(4, .ref (a.2 n2)), (0, .ref (a.2 50)), (1, .int p1), (2, .int p2), (3, .int p3)]) S dX7_step_5 (by decide) rfl ?_
    refine g_aload 0 S dX7_step_7 rfl ?_
    refine g_ifnull S dX7_step_9 ?_
    refine g_iload_n 3 S dX7_step_12 rfl ?_
    refine g_iconst (v := 1) S dX7_step_13 rfl ?_
    refine g_aload 0 S dX7_step_14 rfl ?_
    refine g_get (v := .int (M n2 0)) S (ob_L hn2) rfl gi_X3 (by decide) lf_X7_154 rfl dX7_step_16 ?_
    obtain ⟨r3, hr3, hf⟩ := bd1_some hf
    refine g_cSI (st := []) S ok_X7_within lk_X7_99 (c_X7_within hr3) rfl rfl ⟨by decide, by decide⟩ (rmD_z _) (Nat.le_of_ble_eq_true rfl) dX7_step_19 ?_
    refine g_if_eqB (tgt := 34) S dX7_step_22 (by decide) hf (fun c hf => ?_) (fun c hf => ?_)
    · refine g_iload_n 4 S dX7_step_25 rfl ?_
      refine g_iconst (v := 0) S dX7_step_26 rfl ?_
      refine g_iconst (v := 5) S dX7_step_27 rfl ?_
      obtain ⟨r4, hr4, hf⟩ := bd1_some hf
      refine g_cSI (st := []) S ok_X7_within lk_X7_99 (c_X7_within hr4) rfl rfl ⟨by decide, by decide⟩ (rmD_z _) (Nat.le_of_ble_eq_true rfl) dX7_step_28 ?_
      refine g_if_neB (tgt := 37) S dX7_step_31 (by decide) hf (fun c hf => ?_) (fun c hf => ?_)
      · refine g_iload_n 4 S dX7_step_37 rfl ?_
        refine g_iconst (v := 5) S dX7_step_38 rfl ?_
        refine g_icmp_ne (tgt := 49) S dX7_step_39 (by decide) hf (fun c hf => ?_) (fun c hf => ?_)
        · refine g_aload 0 S dX7_step_42 rfl ?_
          refine g_iload_n 3 S dX7_step_44 rfl ?_
          obtain ⟨r5, hr5, hf⟩ := bd1_some hf
          refine g_cVI (st := []) S (ob_L hn2) rfl ok_X3_strengthAt lk_X7_184 (c_X3_strengthAt hn2 hr5) rfl rfl ⟨by decide, by decide⟩ (rmD_z _) (Nat.le_of_ble_eq_true rfl) dX7_step_45 ?_
          exact g_iretM rt hf dX7_step_48
        · refine g_aload_n 1 S dX7_step_49 rfl ?_
          refine g_iload_n 2 S dX7_step_50 rfl ?_
          refine g_aload 0 S dX7_step_51 rfl ?_
          obtain ⟨M6, hM6, hf⟩ := bd1_some hf
          refine g_cVV (st := []) S ob_50 rfl ok_X7_loadTrain lk_X7_187 (c_X7_loadTrain hn2 hM6) rfl rfl ⟨by decide, by decide⟩ (rmD_z _) (Nat.le_of_ble_eq_true rfl) dX7_step_53 ?_
          refine g_iload_n 4 S dX7_step_56 rfl ?_
          refine sp_if hf (fun c0 hf => ?_) (fun c0 hf => ?_)
          · refine g_tabIn (tgt := 88) 0 S dX7_step_57 c0 (by decide) (by decide) rfl (by decide) ?_
            refine g_aload_n 1 S dX7_step_88 rfl ?_
            refine g_get (v := .ref (a.2 57)) S ob_50 rfl gi_X7 (by decide) lf_X7_42 rfl dX7_step_89 ?_
            refine g_iload_n 3 S dX7_step_92 rfl ?_
            obtain ⟨r7, hr7, hf⟩ := bd1_some hf
            refine g_cVI (st := []) S ob_57 rfl ok_X5_acrossAt lk_X7_191 (c_X5_acrossAt hr7) rfl rfl ⟨by decide, by decide⟩ (rmD_z _) (Nat.le_of_ble_eq_true rfl) dX7_step_93 ?_
            exact g_iretM rt hf dX7_step_96
          refine sp_if hf (fun c1 hf => ?_) (fun c1 hf => ?_)
          · refine g_tabIn (tgt := 97) 1 S dX7_step_57 c1 (by decide) (by decide) rfl (by decide) ?_
            refine g_aload_n 1 S dX7_step_97 rfl ?_
            refine g_get (v := .ref (a.2 57)) S ob_50 rfl gi_X7 (by decide) lf_X7_42 rfl dX7_step_98 ?_
            refine g_iload_n 3 S dX7_step_101 rfl ?_
            obtain ⟨r8, hr8, hf⟩ := bd1_some hf
            refine g_cVI (st := []) S ob_57 rfl ok_X5_upAt lk_X7_194 (c_X5_upAt hr8) rfl rfl ⟨by decide, by decide⟩ (rmD_z _) (Nat.le_of_ble_eq_true rfl) dX7_step_102 ?_
            exact g_iretM rt hf dX7_step_105
          refine sp_if hf (fun c2 hf => ?_) (fun c2 hf => ?_)
          · refine g_tabIn (tgt := 106) 2 S dX7_step_57 c2 (by decide) (by decide) rfl (by decide) ?_
            refine g_aload_n 1 S dX7_step_106 rfl ?_
            refine g_get (v := .ref (a.2 57)) S ob_50 rfl gi_X7 (by decide) lf_X7_42 rfl dX7_step_107 ?_
            refine g_iload_n 3 S dX7_step_110 rfl ?_
            obtain ⟨r9, hr9, hf⟩ := bd1_some hf
            refine g_cVI (st := []) S ob_57 rfl ok_X5_tensionAt lk_X7_196 (c_X5_tensionAt hr9) rfl rfl ⟨by decide, by decide⟩ (rmD_z _) (Nat.le_of_ble_eq_true rfl) dX7_step_111 ?_
            exact g_iretM rt hf dX7_step_114
          refine sp_if hf (fun c3 hf => ?_) (fun c3 hf => ?_)
          · refine g_tabIn (tgt := 115) 3 S dX7_step_57 c3 (by decide) (by decide) rfl (by decide) ?_
            refine g_aload_n 1 S dX7_step_115 rfl ?_
            refine g_get (v := .ref (a.2 57)) S ob_50 rfl gi_X7 (by decide) lf_X7_42 rfl dX7_step_116 ?_
            refine g_iload_n 3 S dX7_step_119 rfl ?_
            obtain ⟨r10, hr10, hf⟩ := bd1_some hf
            refine g_cVI (st := []) S ob_57 rfl ok_X5_placeAcross lk_X7_199 (c_X5_placeAcross hr10) rfl rfl ⟨by decide, by decide⟩ (rmD_z _) (Nat.le_of_ble_eq_true rfl) dX7_step_120 ?_
            exact g_iretM rt hf dX7_step_123
          refine g_tabOut (tgt := 124) S dX7_step_57 (by have := sw_ne c0; simp only [show ((0 : Int32).toInt) = 0 from by decide] at this; have := sw_ne c1; simp only [show ((1 : Int32).toInt) = 1 from by decide] at this; have := sw_ne c2; simp only [show ((2 : Int32).toInt) = 2 from by decide] at this; have := sw_ne c3; simp only [show ((3 : Int32).toInt) = 3 from by decide] at this; omega) (by decide) ?_
          refine g_aload_n 1 S dX7_step_124 rfl ?_
          refine g_get (v := .ref (a.2 57)) S ob_50 rfl gi_X7 (by decide) lf_X7_42 rfl dX7_step_125 ?_
          refine g_iload_n 3 S dX7_step_128 rfl ?_
          obtain ⟨r11, hr11, hf⟩ := bd1_some hf
          refine g_cVI (st := []) S ob_57 rfl ok_X5_placeUp lk_X7_202 (c_X5_placeUp hr11) rfl rfl ⟨by decide, by decide⟩ (rmD_z _) (Nat.le_of_ble_eq_true rfl) dX7_step_129 ?_
          exact g_iretM rt hf dX7_step_132
      · refine g_ldc S lc_X7_111 dX7_step_34 ?_
        exact g_iretM rt hf dX7_step_36
    · refine g_ldc S lc_X7_111 dX7_step_34 ?_
      exact g_iretM rt hf dX7_step_36
-- BridleBook.sever(ILBridleBook$Line;I)V
theorem dX7_sever_0 : decode cX7_sever 0 = .ok (.iconst 0, 1) := by decide +kernel
theorem dX7_sever_1 : decode cX7_sever 1 = .ok (.istore 4, 2) := by decide +kernel
theorem dX7_sever_3 : decode cX7_sever 3 = .ok (.iload 4, 2) := by decide +kernel
theorem dX7_sever_5 : decode cX7_sever 5 = .ok (.aload_n 0, 1) := by decide +kernel
theorem dX7_sever_6 : decode cX7_sever 6 = .ok (.getfield 22, 3) := by decide +kernel
theorem dX7_sever_9 : decode cX7_sever 9 = .ok (.if_icmp .ge 46, 3) := by decide +kernel
theorem dX7_sever_12 : decode cX7_sever 12 = .ok (.aload_n 0, 1) := by decide +kernel
theorem dX7_sever_13 : decode cX7_sever 13 = .ok (.iload 4, 2) := by decide +kernel
theorem dX7_sever_15 : decode cX7_sever 15 = .ok (.invokevirtual 95, 3) := by decide +kernel
theorem dX7_sever_18 : decode cX7_sever 18 = .ok (.astore 5, 2) := by decide +kernel
theorem dX7_sever_20 : decode cX7_sever 20 = .ok (.aload 5, 2) := by decide +kernel
theorem dX7_sever_22 : decode cX7_sever 22 = .ok (.ifnull 27, 3) := by decide +kernel
theorem dX7_sever_25 : decode cX7_sever 25 = .ok (.aload 5, 2) := by decide +kernel
theorem dX7_sever_27 : decode cX7_sever 27 = .ok (.getfield 157, 3) := by decide +kernel
theorem dX7_sever_30 : decode cX7_sever 30 = .ok (.iload_n 1, 1) := by decide +kernel
theorem dX7_sever_31 : decode cX7_sever 31 = .ok (.if_icmp .ne 18, 3) := by decide +kernel
theorem dX7_sever_34 : decode cX7_sever 34 = .ok (.aload 5, 2) := by decide +kernel
theorem dX7_sever_36 : decode cX7_sever 36 = .ok (.getfield 160, 3) := by decide +kernel
theorem dX7_sever_39 : decode cX7_sever 39 = .ok (.iload_n 3, 1) := by decide +kernel
theorem dX7_sever_40 : decode cX7_sever 40 = .ok (.if_icmp .lt 9, 3) := by decide +kernel
theorem dX7_sever_43 : decode cX7_sever 43 = .ok (.aload 5, 2) := by decide +kernel
theorem dX7_sever_45 : decode cX7_sever 45 = .ok (.iconst (-1), 1) := by decide +kernel
theorem dX7_sever_46 : decode cX7_sever 46 = .ok (.putfield 157, 3) := by decide +kernel
theorem dX7_sever_49 : decode cX7_sever 49 = .ok (.iinc 4 1, 3) := by decide +kernel
theorem dX7_sever_52 : decode cX7_sever 52 = .ok (.goto (-49), 3) := by decide +kernel
theorem dX7_sever_55 : decode cX7_sever 55 = .ok (.aload_n 2, 1) := by decide +kernel
theorem dX7_sever_56 : decode cX7_sever 56 = .ok (.iload_n 3, 1) := by decide +kernel
theorem dX7_sever_57 : decode cX7_sever 57 = .ok (.iconst 1, 1) := by decide +kernel
theorem dX7_sever_58 : decode cX7_sever 58 = .ok (.isub, 1) := by decide +kernel
theorem dX7_sever_59 : decode cX7_sever 59 = .ok (.invokevirtual 296, 3) := by decide +kernel
theorem dX7_sever_62 : decode cX7_sever 62 = .ok (.return_, 1) := by decide +kernel
def f_X7_sever_3 (z : Nat → Nat) (u2 : Nat) : Nat → Mem → Int32 → Int32 → Int32 → Option Mem
  | 0, _, _, _, _ => none
  | fu + 1, M, x1, x3, x4 => if (M 50 2) ≤ x4 then bd1 (f_X3_shortenTo z u2 M (x3 - 1)) (fun M1 => some M1) else bd1 (f_X7_kiteAt z M x4) (fun r2 => mq r2 (f_X7_sever_3 z u2 fu M x1 x3 (x4 + 1)) (fun n3 => if (M n3 5) = x1 then if (M n3 6) < x3 then f_X7_sever_3 z u2 fu M x1 x3 (x4 + 1) else f_X7_sever_3 z u2 fu (mu M n3 5 (-1)) x1 x3 (x4 + 1) else f_X7_sever_3 z u2 fu M x1 x3 (x4 + 1)))
theorem t_X7_sever_3 {K : KK} {a : AA} {u2 : Nat} (hu2 : vL a.1 u2) (S : Sx K RX7 cX7_sever 6 (rmD 2))  {M' : Mem} (rt : RtV K a cX7_sever M') : ∀ (fu : Nat) (M : Mem) (x1 : Int32) (x3 : Int32) (x4 : Int32), f_X7_sever_3 a.1 u2 fu M x1 x3 x4 = some M' → Go K 6 a M 3 [(0, .ref (a.2 50)), (1, .int x1), (2, .ref (a.2 u2)), (3, .int x3), (4, .int x4)] [] := by
  intro fu
  induction fu with
  | zero => intro M x1 x3 x4 hf; exact absurd hf (by simp [f_X7_sever_3])
  | succ fu ih =>
    intro M x1 x3 x4 hf
    rw [f_X7_sever_3] at hf
    refine g_iload 4 S dX7_sever_3 rfl ?_
    refine g_aload_n 0 S dX7_sever_5 rfl ?_
    refine g_get (v := .int (M 50 2)) S ob_50 rfl gi_X7 (by decide) lf_X7_22 rfl dX7_sever_6 ?_
    refine g_icmp_ge (tgt := 55) S dX7_sever_9 (by decide) hf (fun c hf => ?_) (fun c hf => ?_)
    · refine g_aload_n 2 S dX7_sever_55 rfl ?_
      refine g_iload_n 3 S dX7_sever_56 rfl ?_
      refine g_iconst (v := 1) S dX7_sever_57 rfl ?_
      refine g_isub S dX7_sever_58 ?_
      obtain ⟨M1, hM1, hf⟩ := bd1_some hf
      refine g_cVV (st := []) S (ob_L hu2) rfl ok_X3_shortenTo lk_X7_296 (c_X3_shortenTo hu2 hM1) rfl rfl ⟨by decide, by decide⟩ (rmD_z _) (Nat.le_of_ble_eq_true rfl) dX7_sever_59 ?_
      exact g_vretM rt hf dX7_sever_62
    · refine g_aload_n 0 S dX7_sever_12 rfl ?_
      refine g_iload 4 S dX7_sever_13 rfl ?_
      obtain ⟨r2, hr2, hf⟩ := bd1_some hf
      refine g_cVQ (st := []) S ob_50 rfl ok_X7_kiteAt lk_X7_95 (c_X7_kiteAt hr2) rfl rfl ⟨by decide, by decide⟩ (rmD_z _) (Nat.le_of_ble_eq_true rfl) dX7_sever_15 ?_
      rcases r2 with _ | n3
      · have hf := mq_n hf
        refine Go.st (st' := [.null]) rfl ?_
        refine g_astoreN (lv' := [(5, .null), (0, .ref (a.2 50)), (1, .int x1), (2, .ref (a.2 u2)), (3, .int x3), (4, .int x4)]) S dX7_sever_18 (by decide) rfl ?_
        refine g_aloadN 0 S dX7_sever_20 rfl ?_
        refine g_ifnullN (tgt := 49) S dX7_sever_22 (by decide) ?_
        refine g_iinc (v := (x4 + 1)) (lv' := [(4, .int (x4 + 1)), (5, .null), (0, .ref (a.2 50)), (1, .int x1), (2, .ref (a.2 u2)), (3, .int x3)]) 5 S dX7_sever_49 rfl rfl (by decide) rfl ?_
        refine g_goto (tgt := 3) S dX7_sever_52 (by decide) ?_
        refine Go.sub [2, 3, 4, 5, 0] rfl ?_
        exact ih _ _ _ _ hf
      · have hn3 := vd_X7_kiteAt hr2
        have hf := mq_s hf
        refine Go.st (st' := [.ref (a.2 n3)]) rfl ?_
        refine g_astore (lv' := [(5, .ref (a.2 n3)), (0, .ref (a.2 50)), (1, .int x1), (2, .ref (a.2 u2)), (3, .int x3), (4, .int x4)]) S dX7_sever_18 (by decide) rfl ?_
        refine g_aload 0 S dX7_sever_20 rfl ?_
        refine g_ifnull S dX7_sever_22 ?_
        refine g_aload 0 S dX7_sever_25 rfl ?_
        refine g_get (v := .int (M n3 5)) S (ob_K hn3) rfl gi_X2 (by decide) lf_X7_157 rfl dX7_sever_27 ?_
        refine g_iload_n 2 S dX7_sever_30 rfl ?_
        refine g_icmp_ne (tgt := 49) S dX7_sever_31 (by decide) hf (fun c hf => ?_) (fun c hf => ?_)
        · refine g_aload 0 S dX7_sever_34 rfl ?_
          refine g_get (v := .int (M n3 6)) S (ob_K hn3) rfl gi_X2 (by decide) lf_X7_160 rfl dX7_sever_36 ?_
          refine g_iload_n 4 S dX7_sever_39 rfl ?_
          refine g_icmp_lt (tgt := 49) S dX7_sever_40 (by decide) hf (fun c hf => ?_) (fun c hf => ?_)
          · refine g_iinc (v := (x4 + 1)) (lv' := [(4, .int (x4 + 1)), (5, .ref (a.2 n3)), (0, .ref (a.2 50)), (1, .int x1), (2, .ref (a.2 u2)), (3, .int x3)]) 5 S dX7_sever_49 rfl rfl (by decide) rfl ?_
            refine g_goto (tgt := 3) S dX7_sever_52 (by decide) ?_
            refine Go.sub [2, 3, 4, 5, 0] rfl ?_
            exact ih _ _ _ _ hf
          · refine g_aload 0 S dX7_sever_43 rfl ?_
            refine g_iconst (v := (-1)) S dX7_sever_45 rfl ?_
            refine g_put (ty := .int) S (ob_K hn3) rfl gi_X2 tyX2_ok nmX2 (by decide) lf_X7_157 rfl (by decide +kernel) rfl rfl (Nat.le_of_ble_eq_true rfl) rfl dX7_sever_46 ?_
            refine g_iinc (v := (x4 + 1)) (lv' := [(4, .int (x4 + 1)), (5, .ref (a.2 n3)), (0, .ref (a.2 50)), (1, .int x1), (2, .ref (a.2 u2)), (3, .int x3)]) 5 S dX7_sever_49 rfl rfl (by decide) rfl ?_
            refine g_goto (tgt := 3) S dX7_sever_52 (by decide) ?_
            refine Go.sub [2, 3, 4, 5, 0] rfl ?_
            exact ih _ _ _ _ hf
        · refine g_iinc (v := (x4 + 1)) (lv' := [(4, .int (x4 + 1)), (5, .ref (a.2 n3)), (0, .ref (a.2 50)), (1, .int x1), (2, .ref (a.2 u2)), (3, .int x3)]) 5 S dX7_sever_49 rfl rfl (by decide) rfl ?_
          refine g_goto (tgt := 3) S dX7_sever_52 (by decide) ?_
          refine Go.sub [2, 3, 4, 5, 0] rfl ?_
          exact ih _ _ _ _ hf
def f_X7_sever (z : Nat → Nat) (u2 : Nat) (M : Mem) (p1 : Int32) (p3 : Int32) : Option Mem := f_X7_sever_3 z u2 1000 M p1 p3 0
theorem c_X7_sever {l : Launch} {G : GG} {a : AA} {u2 : Nat} (hu2 : vL a.1 u2) {M : Mem} {p1 : Int32} {p3 : Int32}  {M' : Mem} (hf : f_X7_sever a.1 u2 M p1 p3 = some M') : CtV l G a yX7_sever cX7_sever 6 (rmD 2) [.ref (a.2 50), .int p1, .ref (a.2 u2), .int p3] M M' := by
  refine ct_V (by decide) rfl (own := RX7) (Nat.le_of_ble_eq_true rfl) (fun K hl hg S rt => ?_)
  subst hl; subst hg
  unfold f_X7_sever at hf
  show Go K 6 a M 0 [(0, .ref (a.2 50)), (1, .int p1), (2, .ref (a.2 u2)), (3, .int p3)] []
  refine g_iconst (v := 0) S dX7_sever_0 rfl ?_
  refine g_istore (lv' := [(4, .int 0), (0, .ref (a.2 50)), (1, .int p1), (2, .ref (a.2 u2)), (3, .int p3)]) S dX7_sever_1 (by decide) rfl ?_
  refine Go.sub [1, 2, 3, 4, 0] rfl ?_
  exact t_X7_sever_3 hu2 S rt 1000 _ _ _ _ hf
-- BridleBook.part(I)I
theorem dX7_part_0 : decode cX7_part 0 = .ok (.aload_n 0, 1) := by decide +kernel
theorem dX7_part_1 : decode cX7_part 1 = .ok (.iload_n 1, 1) := by decide +kernel
theorem dX7_part_2 : decode cX7_part 2 = .ok (.invokevirtual 150, 3) := by decide +kernel
theorem dX7_part_5 : decode cX7_part 5 = .ok (.astore_n 2, 1) := by decide +kernel
theorem dX7_part_6 : decode cX7_part 6 = .ok (.aload_n 2, 1) := by decide +kernel
theorem dX7_part_7 : decode cX7_part 7 = .ok (.ifnonnull 5, 3) := by decide +kernel
theorem dX7_part_10 : decode cX7_part 10 = .ok (.iconst (-1), 1) := by decide +kernel
theorem dX7_part_11 : decode cX7_part 11 = .ok (.ireturn, 1) := by decide +kernel
theorem dX7_part_12 : decode cX7_part 12 = .ok (.aload_n 0, 1) := by decide +kernel
theorem dX7_part_13 : decode cX7_part 13 = .ok (.iload_n 1, 1) := by decide +kernel
theorem dX7_part_14 : decode cX7_part 14 = .ok (.aload_n 2, 1) := by decide +kernel
theorem dX7_part_15 : decode cX7_part 15 = .ok (.invokevirtual 180, 3) := by decide +kernel
theorem dX7_part_18 : decode cX7_part 18 = .ok (.istore_n 3, 1) := by decide +kernel
theorem dX7_part_19 : decode cX7_part 19 = .ok (.iload_n 3, 1) := by decide +kernel
theorem dX7_part_20 : decode cX7_part 20 = .ok (.ifCond .ne 6, 3) := by decide +kernel
theorem dX7_part_23 : decode cX7_part 23 = .ok (.bipush (-2), 2) := by decide +kernel
theorem dX7_part_25 : decode cX7_part 25 = .ok (.ireturn, 1) := by decide +kernel
theorem dX7_part_26 : decode cX7_part 26 = .ok (.aload_n 0, 1) := by decide +kernel
theorem dX7_part_27 : decode cX7_part 27 = .ok (.iload_n 1, 1) := by decide +kernel
theorem dX7_part_28 : decode cX7_part 28 = .ok (.aload_n 2, 1) := by decide +kernel
theorem dX7_part_29 : decode cX7_part 29 = .ok (.iload_n 3, 1) := by decide +kernel
theorem dX7_part_30 : decode cX7_part 30 = .ok (.invokevirtual 205, 3) := by decide +kernel
theorem dX7_part_33 : decode cX7_part 33 = .ok (.iload_n 3, 1) := by decide +kernel
theorem dX7_part_34 : decode cX7_part 34 = .ok (.ireturn, 1) := by decide +kernel
def f_X7_part (z : Nat → Nat) (M : Mem) (p1 : Int32) : Option (Int32 × Mem) := bd1 (f_X7_lineAt z M p1) (fun r1 => mq r1 (some ((-1), M)) (fun n2 => bd2 (f_X7_partingStep z n2 M p1) (fun r3 M4 => if r3 = 0 then some ((-2), M4) else bd1 (f_X7_sever z n2 M4 p1 r3) (fun M5 => some (r3, M5)))))
theorem c_X7_part {l : Launch} {G : GG} {a : AA} {M : Mem} {p1 : Int32} {r : Int32} {M' : Mem} (hf : f_X7_part a.1 M p1 = some (r, M')) : CtI l G a yX7_part cX7_part 4 .int (rmD 7) [.ref (a.2 50), .int p1] M r M' := by
  refine ct_I (by decide) rfl rfl (own := RX7) (Nat.le_of_ble_eq_true rfl) (fun K hl hg S rt => ?_)
  subst hl; subst hg
  unfold f_X7_part at hf
  show Go K 4 a M 0 [(0, .ref (a.2 50)), (1, .int p1)] []
  refine g_aload_n 0 S dX7_part_0 rfl ?_
  refine g_iload_n 1 S dX7_part_1 rfl ?_
  obtain ⟨r1, hr1, hf⟩ := bd1_some hf
  refine g_cVQ (st := []) S ob_50 rfl ok_X7_lineAt lk_X7_150 (c_X7_lineAt hr1) rfl rfl ⟨by decide, by decide⟩ (rmD_z _) (Nat.le_of_ble_eq_true rfl) dX7_part_2 ?_
  rcases r1 with _ | n2
  · have hf := mq_n hf
    refine Go.st (st' := [.null]) rfl ?_
    refine g_astore_nN (lv' := [(2, .null), (0, .ref (a.2 50)), (1, .int p1)]) S dX7_part_5 (by decide) rfl ?_
    refine g_aload_nN 0 S dX7_part_6 rfl ?_
    refine g_ifnonnullN S dX7_part_7 ?_
    refine g_iconst (v := (-1)) S dX7_part_10 rfl ?_
    exact g_iretM rt hf dX7_part_11
  · have hn2 := vd_X7_lineAt hr1
    have hf := mq_s hf
    refine Go.st (st' := [.ref (a.2 n2)]) rfl ?_
    refine g_astore_n (lv' := [(2, .ref (a.2 n2)), (0, .ref (a.2 50)), (1, .int p1)]) S dX7_part_5 (by decide) rfl ?_
    refine g_aload_n 0 S dX7_part_6 rfl ?_
    refine g_ifnonnull (tgt := 12) S dX7_part_7 (by decide) ?_
    refine g_aload_n 1 S dX7_part_12 rfl ?_
    refine g_iload_n 2 S dX7_part_13 rfl ?_
    refine g_aload_n 0 S dX7_part_14 rfl ?_
    obtain ⟨r3, M4, hr3, hf⟩ := bd2_some hf
    refine g_cVI (st := []) S ob_50 rfl ok_X7_partingStep lk_X7_180 (c_X7_partingStep hn2 hr3) rfl rfl ⟨by decide, by decide⟩ (rmD_z _) (Nat.le_of_ble_eq_true rfl) dX7_part_15 ?_
    refine g_istore_n (lv' := [(3, .int r3), (2, .ref (a.2 n2)), (0, .ref (a.2 50)), (1, .int p1)]) S dX7_part_18 (by decide) rfl ?_
    refine g_iload_n 0 S dX7_part_19 rfl ?_
    refine g_if_ne (tgt := 26) S dX7_part_20 (by decide) hf (fun c hf => ?_) (fun c hf => ?_)
    · refine g_bipush (v := (-2)) S dX7_part_23 rfl ?_
      exact g_iretM rt hf dX7_part_25
    · refine g_aload_n 2 S dX7_part_26 rfl ?_
      refine g_iload_n 3 S dX7_part_27 rfl ?_
      refine g_aload_n 1 S dX7_part_28 rfl ?_
      refine g_iload_n 0 S dX7_part_29 rfl ?_
      obtain ⟨M5, hM5, hf⟩ := bd1_some hf
      refine g_cVV (st := []) S ob_50 rfl ok_X7_sever lk_X7_205 (c_X7_sever hn2 hM5) rfl rfl ⟨by decide, by decide⟩ (rmD_z _) (Nat.le_of_ble_eq_true rfl) dX7_part_30 ?_
      refine g_iload_n 0 S dX7_part_33 rfl ?_
      exact g_iretM rt hf dX7_part_34
-- BridleBook.least(II)I
theorem dX7_least_0 : decode cX7_least 0 = .ok (.aload_n 0, 1) := by decide +kernel
theorem dX7_least_1 : decode cX7_least 1 = .ok (.iload_n 1, 1) := by decide +kernel
theorem dX7_least_2 : decode cX7_least 2 = .ok (.invokevirtual 150, 3) := by decide +kernel
theorem dX7_least_5 : decode cX7_least 5 = .ok (.astore_n 3, 1) := by decide +kernel
theorem dX7_least_6 : decode cX7_least 6 = .ok (.aload_n 3, 1) := by decide +kernel
theorem dX7_least_7 : decode cX7_least 7 = .ok (.ifnull 13, 3) := by decide +kernel
theorem dX7_least_10 : decode cX7_least 10 = .ok (.iload_n 2, 1) := by decide +kernel
theorem dX7_least_11 : decode cX7_least 11 = .ok (.iconst 0, 1) := by decide +kernel
theorem dX7_least_12 : decode cX7_least 12 = .ok (.ldc 146, 2) := by decide +kernel
theorem dX7_least_14 : decode cX7_least 14 = .ok (.invokestatic 99, 3) := by decide +kernel
theorem dX7_least_17 : decode cX7_least 17 = .ok (.ifCond .ne 5, 3) := by decide +kernel
theorem dX7_least_20 : decode cX7_least 20 = .ok (.iconst (-1), 1) := by decide +kernel
theorem dX7_least_21 : decode cX7_least 21 = .ok (.ireturn, 1) := by decide +kernel
theorem dX7_least_22 : decode cX7_least 22 = .ok (.iconst 0, 1) := by decide +kernel
theorem dX7_least_23 : decode cX7_least 23 = .ok (.istore 4, 2) := by decide +kernel
theorem dX7_least_25 : decode cX7_least 25 = .ok (.iload 4, 2) := by decide +kernel
theorem dX7_least_27 : decode cX7_least 27 = .ok (.bipush 99, 2) := by decide +kernel
theorem dX7_least_29 : decode cX7_least 29 = .ok (.if_icmp .gt 24, 3) := by decide +kernel
theorem dX7_least_32 : decode cX7_least 32 = .ok (.aload_n 0, 1) := by decide +kernel
theorem dX7_least_33 : decode cX7_least 33 = .ok (.iload_n 1, 1) := by decide +kernel
theorem dX7_least_34 : decode cX7_least 34 = .ok (.aload_n 3, 1) := by decide +kernel
theorem dX7_least_35 : decode cX7_least 35 = .ok (.iload 4, 2) := by decide +kernel
theorem dX7_least_37 : decode cX7_least 37 = .ok (.invokevirtual 176, 3) := by decide +kernel
theorem dX7_least_40 : decode cX7_least 40 = .ok (.iload_n 2, 1) := by decide +kernel
theorem dX7_least_41 : decode cX7_least 41 = .ok (.if_icmp .lt 6, 3) := by decide +kernel
theorem dX7_least_44 : decode cX7_least 44 = .ok (.iload 4, 2) := by decide +kernel
theorem dX7_least_46 : decode cX7_least 46 = .ok (.ireturn, 1) := by decide +kernel
theorem dX7_least_47 : decode cX7_least 47 = .ok (.iinc 4 1, 3) := by decide +kernel
theorem dX7_least_50 : decode cX7_least 50 = .ok (.goto (-25), 3) := by decide +kernel
theorem dX7_least_53 : decode cX7_least 53 = .ok (.bipush (-2), 2) := by decide +kernel
theorem dX7_least_55 : decode cX7_least 55 = .ok (.ireturn, 1) := by decide +kernel
def f_X7_least_25 (z : Nat → Nat) (n2 : Nat) (M : Mem) : Nat → Int32 → Int32 → Int32 → Option Int32
  | 0, _, _, _ => none
  | fu + 1, x1, x2, x4 => if 99 < x4 then some (-2) else bd1 (f_X7_liftsOf z n2 M x1 x4) (fun r4 => if r4 < x2 then f_X7_least_25 z n2 M fu x1 x2 (x4 + 1) else some x4)
theorem t_X7_least_25 {K : KK} {a : AA} {n2 : Nat} (hn2 : vL a.1 n2) (S : Sx K RX7 cX7_least 5 (rmD 6)) {r : Int32} {M : Mem} (rt : RtI K a cX7_least r M) : ∀ (fu : Nat) (x1 : Int32) (x2 : Int32) (x4 : Int32), f_X7_least_25 a.1 n2 M fu x1 x2 x4 = some r → Go K 5 a M 25 [(0, .ref (a.2 50)), (1, .int x1), (2, .int x2), (3, .ref (a.2 n2)), (4, .int x4)] [] := by
  intro fu
  induction fu with
  | zero => intro x1 x2 x4 hf; exact absurd hf (by simp [f_X7_least_25])
  | succ fu ih =>
    intro x1 x2 x4 hf
    rw [f_X7_least_25] at hf
    refine g_iload 4 S dX7_least_25 rfl ?_
    refine g_bipush (v := 99) S dX7_least_27 rfl ?_
    refine g_icmp_gt (tgt := 53) S dX7_least_29 (by decide) hf (fun c hf => ?_) (fun c hf => ?_)
    · refine g_bipush (v := (-2)) S dX7_least_53 rfl ?_
      exact g_iretP rt hf dX7_least_55
    · refine g_aload_n 0 S dX7_least_32 rfl ?_
      refine g_iload_n 1 S dX7_least_33 rfl ?_
      refine g_aload_n 3 S dX7_least_34 rfl ?_
      refine g_iload 4 S dX7_least_35 rfl ?_
      obtain ⟨r4, hr4, hf⟩ := bd1_some hf
      refine g_cVI (st := []) S ob_50 rfl ok_X7_liftsOf lk_X7_176 (c_X7_liftsOf hn2 hr4) rfl rfl ⟨by decide, by decide⟩ (rmD_z _) (Nat.le_of_ble_eq_true rfl) dX7_least_37 ?_
      refine g_iload_n 2 S dX7_least_40 rfl ?_
      refine g_icmp_lt (tgt := 47) S dX7_least_41 (by decide) hf (fun c hf => ?_) (fun c hf => ?_)
      · refine g_iinc (v := (x4 + 1)) (lv' := [(4, .int (x4 + 1)), (0, .ref (a.2 50)), (1, .int x1), (2, .int x2), (3, .ref (a.2 n2))]) 4 S dX7_least_47 rfl rfl (by decide) rfl ?_
        refine g_goto (tgt := 25) S dX7_least_50 (by decide) ?_
        refine Go.sub [1, 2, 3, 4, 0] rfl ?_
        exact ih _ _ _ hf
      · refine g_iload 4 S dX7_least_44 rfl ?_
        exact g_iretP rt hf dX7_least_46
def f_X7_least (z : Nat → Nat) (M : Mem) (p1 : Int32) (p2 : Int32) : Option Int32 := bd1 (f_X7_lineAt z M p1) (fun r1 => mq r1 (some (-1)) (fun n2 => bd1 (f_X7_within z M p2 0 99999) (fun r3 => if r3 = true then f_X7_least_25 z n2 M 1000 p1 p2 0 else some (-1))))
theorem c_X7_least {l : Launch} {G : GG} {a : AA} {M : Mem} {p1 : Int32} {p2 : Int32} {r : Int32} (hf : f_X7_least a.1 M p1 p2 = some r) : CtI l G a yX7_least cX7_least 5 .int (rmD 6) [.ref (a.2 50), .int p1, .int p2] M r M := by
  refine ct_I (by decide) rfl rfl (own := RX7) (Nat.le_of_ble_eq_true rfl) (fun K hl hg S rt => ?_)
  subst hl; subst hg
  unfold f_X7_least at hf
  show Go K 5 a M 0 [(0, .ref (a.2 50)), (1, .int p1), (2, .int p2)] []
  refine g_aload_n 0 S dX7_least_0 rfl ?_
  refine g_iload_n 1 S dX7_least_1 rfl ?_
  obtain ⟨r1, hr1, hf⟩ := bd1_some hf
  refine g_cVQ (st := []) S ob_50 rfl ok_X7_lineAt lk_X7_150 (c_X7_lineAt hr1) rfl rfl ⟨by decide, by decide⟩ (rmD_z _) (Nat.le_of_ble_eq_true rfl) dX7_least_2 ?_
  rcases r1 with _ | n2
  · have hf := mq_n hf
    refine Go.st (st' := [.null]) rfl ?_
    refine g_astore_nN (lv' := [(3, .null), (0, .ref (a.2 50)), (1, .int p1), (2, .int p2)]) S dX7_least_5 (by decide) rfl ?_
    refine g_aload_nN 0 S dX7_least_6 rfl ?_
    refine g_ifnullN (tgt := 20) S dX7_least_7 (by decide) ?_
    refine g_iconst (v := (-1)) S dX7_least_20 rfl ?_
    exact g_iretP rt hf dX7_least_21
  · have hn2 := vd_X7_lineAt hr1
    have hf := mq_s hf
    refine Go.st (st' := [.ref (a.2 n2)]) rfl ?_
    refine g_astore_n (lv' := [(3, .ref (a.2 n2)), (0, .ref (a.2 50)), (1, .int p1), (2, .int p2)]) S dX7_least_5 (by decide) rfl ?_
    refine g_aload_n 0 S dX7_least_6 rfl ?_
    refine g_ifnull S dX7_least_7 ?_
    refine g_iload_n 3 S dX7_least_10 rfl ?_
    refine g_iconst (v := 0) S dX7_least_11 rfl ?_
    refine g_ldc S lc_X7_146 dX7_least_12 ?_
    obtain ⟨r3, hr3, hf⟩ := bd1_some hf
    refine g_cSI (st := []) S ok_X7_within lk_X7_99 (c_X7_within hr3) rfl rfl ⟨by decide, by decide⟩ (rmD_z _) (Nat.le_of_ble_eq_true rfl) dX7_least_14 ?_
    refine g_if_neB (tgt := 22) S dX7_least_17 (by decide) hf (fun c hf => ?_) (fun c hf => ?_)
    · refine g_iconst (v := 0) S dX7_least_22 rfl ?_
      refine g_istore (lv' := [(4, .int 0), (3, .ref (a.2 n2)), (0, .ref (a.2 50)), (1, .int p1), (2, .int p2)]) S dX7_least_23 (by decide) rfl ?_
      refine Go.sub [2, 3, 4, 1, 0] rfl ?_
      exact t_X7_least_25 hn2 S rt 1000 _ _ _ hf
    · refine g_iconst (v := (-1)) S dX7_least_20 rfl ?_
      exact g_iretP rt hf dX7_least_21
-- BridleBook.blow(II)I
theorem dX7_blow_0 : decode cX7_blow 0 = .ok (.iload_n 1, 1) := by decide +kernel
theorem dX7_blow_1 : decode cX7_blow 1 = .ok (.iconst 0, 1) := by decide +kernel
theorem dX7_blow_2 : decode cX7_blow 2 = .ok (.iconst 3, 1) := by decide +kernel
theorem dX7_blow_3 : decode cX7_blow 3 = .ok (.invokestatic 99, 3) := by decide +kernel
theorem dX7_blow_6 : decode cX7_blow 6 = .ok (.ifCond .eq 14, 3) := by decide +kernel
theorem dX7_blow_9 : decode cX7_blow 9 = .ok (.iload_n 2, 1) := by decide +kernel
theorem dX7_blow_10 : decode cX7_blow 10 = .ok (.iconst 0, 1) := by decide +kernel
theorem dX7_blow_11 : decode cX7_blow 11 = .ok (.sipush 200, 3) := by decide +kernel
theorem dX7_blow_14 : decode cX7_blow 14 = .ok (.invokestatic 99, 3) := by decide +kernel
theorem dX7_blow_17 : decode cX7_blow 17 = .ok (.ifCond .ne 5, 3) := by decide +kernel
theorem dX7_blow_20 : decode cX7_blow 20 = .ok (.iconst (-1), 1) := by decide +kernel
theorem dX7_blow_21 : decode cX7_blow 21 = .ok (.ireturn, 1) := by decide +kernel
theorem dX7_blow_22 : decode cX7_blow 22 = .ok (.bipush 10, 2) := by decide +kernel
theorem dX7_blow_24 : decode cX7_blow 24 = .ok (.aload_n 0, 1) := by decide +kernel
theorem dX7_blow_25 : decode cX7_blow 25 = .ok (.getfield 68, 3) := by decide +kernel
theorem dX7_blow_28 : decode cX7_blow 28 = .ok (.imul, 1) := by decide +kernel
theorem dX7_blow_29 : decode cX7_blow 29 = .ok (.aload_n 0, 1) := by decide +kernel
theorem dX7_blow_30 : decode cX7_blow 30 = .ok (.getfield 65, 3) := by decide +kernel
theorem dX7_blow_33 : decode cX7_blow 33 = .ok (.iadd, 1) := by decide +kernel
theorem dX7_blow_34 : decode cX7_blow 34 = .ok (.istore_n 3, 1) := by decide +kernel
theorem dX7_blow_35 : decode cX7_blow 35 = .ok (.aload_n 0, 1) := by decide +kernel
theorem dX7_blow_36 : decode cX7_blow 36 = .ok (.iload_n 1, 1) := by decide +kernel
theorem dX7_blow_37 : decode cX7_blow 37 = .ok (.putfield 65, 3) := by decide +kernel
theorem dX7_blow_40 : decode cX7_blow 40 = .ok (.aload_n 0, 1) := by decide +kernel
theorem dX7_blow_41 : decode cX7_blow 41 = .ok (.iload_n 2, 1) := by decide +kernel
theorem dX7_blow_42 : decode cX7_blow 42 = .ok (.putfield 68, 3) := by decide +kernel
theorem dX7_blow_45 : decode cX7_blow 45 = .ok (.iload_n 3, 1) := by decide +kernel
theorem dX7_blow_46 : decode cX7_blow 46 = .ok (.ireturn, 1) := by decide +kernel
def f_X7_blow (z : Nat → Nat) (M : Mem) (p1 : Int32) (p2 : Int32) : Option (Int32 × Mem) := bd1 (f_X7_within z M p1 0 3) (fun r1 => if r1 = true then bd1 (f_X7_within z M p2 0 200) (fun r2 => if r2 = true then some (((10 * (M 50 13)) + (M 50 12)), (mu (mu M 50 12 p1) 50 13 p2)) else some ((-1), M)) else some ((-1), M))
theorem c_X7_blow {l : Launch} {G : GG} {a : AA} {M : Mem} {p1 : Int32} {p2 : Int32} {r : Int32} {M' : Mem} (hf : f_X7_blow a.1 M p1 p2 = some (r, M')) : CtI l G a yX7_blow cX7_blow 4 .int (rmD 1) [.ref (a.2 50), .int p1, .int p2] M r M' := by
  refine ct_I (by decide) rfl rfl (own := RX7) (Nat.le_of_ble_eq_true rfl) (fun K hl hg S rt => ?_)
  subst hl; subst hg
  unfold f_X7_blow at hf
  show Go K 4 a M 0 [(0, .ref (a.2 50)), (1, .int p1), (2, .int p2)] []
  refine g_iload_n 1 S dX7_blow_0 rfl ?_
  refine g_iconst (v := 0) S dX7_blow_1 rfl ?_
  refine g_iconst (v := 3) S dX7_blow_2 rfl ?_
  obtain ⟨r1, hr1, hf⟩ := bd1_some hf
  refine g_cSI (st := []) S ok_X7_within lk_X7_99 (c_X7_within hr1) rfl rfl ⟨by decide, by decide⟩ (rmD_z _) (Nat.le_of_ble_eq_true rfl) dX7_blow_3 ?_
  refine g_if_eqB (tgt := 20) S dX7_blow_6 (by decide) hf (fun c hf => ?_) (fun c hf => ?_)
  · refine g_iload_n 2 S dX7_blow_9 rfl ?_
    refine g_iconst (v := 0) S dX7_blow_10 rfl ?_
    refine g_sipush (v := 200) S dX7_blow_11 rfl ?_
    obtain ⟨r2, hr2, hf⟩ := bd1_some hf
    refine g_cSI (st := []) S ok_X7_within lk_X7_99 (c_X7_within hr2) rfl rfl ⟨by decide, by decide⟩ (rmD_z _) (Nat.le_of_ble_eq_true rfl) dX7_blow_14 ?_
    refine g_if_neB (tgt := 22) S dX7_blow_17 (by decide) hf (fun c hf => ?_) (fun c hf => ?_)
    · refine g_bipush (v := 10) S dX7_blow_22 rfl ?_
      refine g_aload_n 0 S dX7_blow_24 rfl ?_
      refine g_get (v := .int (M 50 13)) S ob_50 rfl gi_X7 (by decide) lf_X7_68 rfl dX7_blow_25 ?_
      refine g_imul S dX7_blow_28 ?_
      refine g_aload_n 0 S dX7_blow_29 rfl ?_
      refine g_get (v := .int (M 50 12)) S ob_50 rfl gi_X7 (by decide) lf_X7_65 rfl dX7_blow_30 ?_
      refine g_iadd S dX7_blow_33 ?_
      refine g_istore_n (lv' := [(3, .int ((10 * (M 50 13)) + (M 50 12))), (0, .ref (a.2 50)), (1, .int p1), (2, .int p2)]) S dX7_blow_34 (by decide) rfl ?_
      refine g_aload_n 1 S dX7_blow_35 rfl ?_
      refine g_iload_n 2 S dX7_blow_36 rfl ?_
      refine g_put (ty := .int) S ob_50 rfl gi_X7 tyX7_ok nmX7 (by decide) lf_X7_65 rfl (by decide +kernel) rfl rfl (Nat.le_of_ble_eq_true rfl) rfl dX7_blow_37 ?_
      refine g_aload_n 1 S dX7_blow_40 rfl ?_
      refine g_iload_n 3 S dX7_blow_41 rfl ?_
      refine g_put (ty := .int) S ob_50 rfl gi_X7 tyX7_ok nmX7 (by decide) lf_X7_68 rfl (by decide +kernel) rfl rfl (Nat.le_of_ble_eq_true rfl) rfl dX7_blow_42 ?_
      refine g_iload_n 0 S dX7_blow_45 rfl ?_
      exact g_iretM rt hf dX7_blow_46
    · refine g_iconst (v := (-1)) S dX7_blow_20 rfl ?_
      exact g_iretM rt hf dX7_blow_21
  · refine g_iconst (v := (-1)) S dX7_blow_20 rfl ?_
    exact g_iretM rt hf dX7_blow_21
-- BridleBook.isPlace(I)Z
theorem dX7_isPlace_0 : decode cX7_isPlace 0 = .ok (.iload_n 0, 1) := by decide +kernel
theorem dX7_isPlace_1 : decode cX7_isPlace 1 = .ok (.iconst 0, 1) := by decide +kernel
theorem dX7_isPlace_2 : decode cX7_isPlace 2 = .ok (.ldc_w 271, 3) := by decide +kernel
theorem dX7_isPlace_5 : decode cX7_isPlace 5 = .ok (.invokestatic 99, 3) := by decide +kernel
theorem dX7_isPlace_8 : decode cX7_isPlace 8 = .ok (.ireturn, 1) := by decide +kernel
def f_X7_isPlace (z : Nat → Nat) (M : Mem) (p1 : Int32) : Option Bool := bd1 (f_X7_within z M p1 0 39999) (fun r1 => some r1)
theorem c_X7_isPlace {l : Launch} {G : GG} {a : AA} {M : Mem} {p1 : Int32} {r : Bool} (hf : f_X7_isPlace a.1 M p1 = some r) : CtI l G a yX7_isPlace cX7_isPlace 1 .boolean (rmD 1) [.int p1] M (b2i r) M := by
  refine ct_I (by decide) rfl (b2i_n _) (own := RX7) (Nat.le_of_ble_eq_true rfl) (fun K hl hg S rt => ?_)
  subst hl; subst hg
  unfold f_X7_isPlace at hf
  show Go K 1 a M 0 [(0, .int p1)] []
  refine g_iload_n 0 S dX7_isPlace_0 rfl ?_
  refine g_iconst (v := 0) S dX7_isPlace_1 rfl ?_
  refine g_ldcw S lc_X7_271 dX7_isPlace_2 ?_
  obtain ⟨r1, hr1, hf⟩ := bd1_some hf
  refine g_cSI (st := []) S ok_X7_within lk_X7_99 (c_X7_within hr1) rfl rfl ⟨by decide, by decide⟩ (rmD_z _) (Nat.le_of_ble_eq_true rfl) dX7_isPlace_5 ?_
  exact g_zretP rt hf dX7_isPlace_8 rfl
-- BridleBook.hasTreeAt(I)Z
theorem dX7_hasTreeAt_0 : decode cX7_hasTreeAt 0 = .ok (.iconst 0, 1) := by decide +kernel
theorem dX7_hasTreeAt_1 : decode cX7_hasTreeAt 1 = .ok (.istore_n 2, 1) := by decide +kernel
theorem dX7_hasTreeAt_2 : decode cX7_hasTreeAt 2 = .ok (.iload_n 2, 1) := by decide +kernel
theorem dX7_hasTreeAt_3 : decode cX7_hasTreeAt 3 = .ok (.aload_n 0, 1) := by decide +kernel
theorem dX7_hasTreeAt_4 : decode cX7_hasTreeAt 4 = .ok (.getfield 62, 3) := by decide +kernel
theorem dX7_hasTreeAt_7 : decode cX7_hasTreeAt 7 = .ok (.if_icmp .ge 21, 3) := by decide +kernel
theorem dX7_hasTreeAt_10 : decode cX7_hasTreeAt 10 = .ok (.aload_n 0, 1) := by decide +kernel
theorem dX7_hasTreeAt_11 : decode cX7_hasTreeAt 11 = .ok (.getfield 59, 3) := by decide +kernel
theorem dX7_hasTreeAt_14 : decode cX7_hasTreeAt 14 = .ok (.iload_n 2, 1) := by decide +kernel
theorem dX7_hasTreeAt_15 : decode cX7_hasTreeAt 15 = .ok (.iaload, 1) := by decide +kernel
theorem dX7_hasTreeAt_16 : decode cX7_hasTreeAt 16 = .ok (.iload_n 1, 1) := by decide +kernel
theorem dX7_hasTreeAt_17 : decode cX7_hasTreeAt 17 = .ok (.if_icmp .ne 5, 3) := by decide +kernel
theorem dX7_hasTreeAt_20 : decode cX7_hasTreeAt 20 = .ok (.iconst 1, 1) := by decide +kernel
theorem dX7_hasTreeAt_21 : decode cX7_hasTreeAt 21 = .ok (.ireturn, 1) := by decide +kernel
theorem dX7_hasTreeAt_22 : decode cX7_hasTreeAt 22 = .ok (.iinc 2 1, 3) := by decide +kernel
theorem dX7_hasTreeAt_25 : decode cX7_hasTreeAt 25 = .ok (.goto (-23), 3) := by decide +kernel
theorem dX7_hasTreeAt_28 : decode cX7_hasTreeAt 28 = .ok (.iconst 0, 1) := by decide +kernel
theorem dX7_hasTreeAt_29 : decode cX7_hasTreeAt 29 = .ok (.ireturn, 1) := by decide +kernel
def f_X7_hasTreeAt_2 (z : Nat → Nat) (M : Mem) : Nat → Int32 → Int32 → Option Bool
  | 0, _, _ => none
  | fu + 1, x1, x2 => if (M 50 11) ≤ x2 then some false else ck (inb x2 20) (if (M 61 (Int32.toNatClampNeg x2)) = x1 then some true else f_X7_hasTreeAt_2 z M fu x1 (x2 + 1))
theorem t_X7_hasTreeAt_2 {K : KK} {a : AA} (S : Sx K RX7 cX7_hasTreeAt 3 (rmD 0)) {r : Bool} {M : Mem} (rt : RtI K a cX7_hasTreeAt (b2i r) M) : ∀ (fu : Nat) (x1 : Int32) (x2 : Int32), f_X7_hasTreeAt_2 a.1 M fu x1 x2 = some r → Go K 3 a M 2 [(0, .ref (a.2 50)), (1, .int x1), (2, .int x2)] [] := by
  intro fu
  induction fu with
  | zero => intro x1 x2 hf; exact absurd hf (by simp [f_X7_hasTreeAt_2])
  | succ fu ih =>
    intro x1 x2 hf
    rw [f_X7_hasTreeAt_2] at hf
    refine g_iload_n 2 S dX7_hasTreeAt_2 rfl ?_
    refine g_aload_n 0 S dX7_hasTreeAt_3 rfl ?_
    refine g_get (v := .int (M 50 11)) S ob_50 rfl gi_X7 (by decide) lf_X7_62 rfl dX7_hasTreeAt_4 ?_
    refine g_icmp_ge (tgt := 28) S dX7_hasTreeAt_7 (by decide) hf (fun c hf => ?_) (fun c hf => ?_)
    · refine g_iconst (v := 0) S dX7_hasTreeAt_28 rfl ?_
      exact g_zretP rt hf dX7_hasTreeAt_29 rfl
    · refine g_aload_n 0 S dX7_hasTreeAt_10 rfl ?_
      refine g_get (v := .ref (a.2 61)) S ob_50 rfl gi_X7 (by decide) lf_X7_59 rfl dX7_hasTreeAt_11 ?_
      refine g_iload_n 2 S dX7_hasTreeAt_14 rfl ?_
      refine g_iald S ia_61 dX7_hasTreeAt_15 hf (fun hf => ?_)
      refine g_iload_n 1 S dX7_hasTreeAt_16 rfl ?_
      refine g_icmp_ne (tgt := 22) S dX7_hasTreeAt_17 (by decide) hf (fun c hf => ?_) (fun c hf => ?_)
      · refine g_iconst (v := 1) S dX7_hasTreeAt_20 rfl ?_
        exact g_zretP rt hf dX7_hasTreeAt_21 rfl
      · refine g_iinc (v := (x2 + 1)) (lv' := [(2, .int (x2 + 1)), (0, .ref (a.2 50)), (1, .int x1)]) 2 S dX7_hasTreeAt_22 rfl rfl (by decide) rfl ?_
        refine g_goto (tgt := 2) S dX7_hasTreeAt_25 (by decide) ?_
        refine Go.sub [1, 2, 0] rfl ?_
        exact ih _ _ hf
def f_X7_hasTreeAt (z : Nat → Nat) (M : Mem) (p1 : Int32) : Option Bool := f_X7_hasTreeAt_2 z M 1000 p1 0
theorem c_X7_hasTreeAt {l : Launch} {G : GG} {a : AA} {M : Mem} {p1 : Int32} {r : Bool} (hf : f_X7_hasTreeAt a.1 M p1 = some r) : CtI l G a yX7_hasTreeAt cX7_hasTreeAt 3 .boolean (rmD 0) [.ref (a.2 50), .int p1] M (b2i r) M := by
  refine ct_I (by decide) rfl (b2i_n _) (own := RX7) (Nat.le_of_ble_eq_true rfl) (fun K hl hg S rt => ?_)
  subst hl; subst hg
  unfold f_X7_hasTreeAt at hf
  show Go K 3 a M 0 [(0, .ref (a.2 50)), (1, .int p1)] []
  refine g_iconst (v := 0) S dX7_hasTreeAt_0 rfl ?_
  refine g_istore_n (lv' := [(2, .int 0), (0, .ref (a.2 50)), (1, .int p1)]) S dX7_hasTreeAt_1 (by decide) rfl ?_
  refine Go.sub [1, 2, 0] rfl ?_
  exact t_X7_hasTreeAt_2  S rt 1000 _ _ hf
