-- BridleBook.pull(III)I
theorem dX7_pull_0 : decode cX7_pull 0 = .ok (.aload_n 0, 1) := by decide +kernel
theorem dX7_pull_1 : decode cX7_pull 1 = .ok (.iload_n 1, 1) := by decide +kernel
theorem dX7_pull_2 : decode cX7_pull 2 = .ok (.invokevirtual 95, 3) := by decide +kernel
theorem dX7_pull_5 : decode cX7_pull 5 = .ok (.astore 4, 2) := by decide +kernel
theorem dX7_pull_7 : decode cX7_pull 7 = .ok (.aload 4, 2) := by decide +kernel
theorem dX7_pull_9 : decode cX7_pull 9 = .ok (.ifnull 19, 3) := by decide +kernel
theorem dX7_pull_12 : decode cX7_pull 12 = .ok (.iload_n 2, 1) := by decide +kernel
theorem dX7_pull_13 : decode cX7_pull 13 = .ok (.invokestatic 125, 3) := by decide +kernel
theorem dX7_pull_16 : decode cX7_pull 16 = .ok (.ifCond .eq 12, 3) := by decide +kernel
theorem dX7_pull_19 : decode cX7_pull 19 = .ok (.iload_n 3, 1) := by decide +kernel
theorem dX7_pull_20 : decode cX7_pull 20 = .ok (.iconst 0, 1) := by decide +kernel
theorem dX7_pull_21 : decode cX7_pull 21 = .ok (.iconst 1, 1) := by decide +kernel
theorem dX7_pull_22 : decode cX7_pull 22 = .ok (.invokestatic 99, 3) := by decide +kernel
theorem dX7_pull_25 : decode cX7_pull 25 = .ok (.ifCond .ne 6, 3) := by decide +kernel
theorem dX7_pull_28 : decode cX7_pull 28 = .ok (.ldc 111, 2) := by decide +kernel
theorem dX7_pull_30 : decode cX7_pull 30 = .ok (.ireturn, 1) := by decide +kernel
theorem dX7_pull_31 : decode cX7_pull 31 = .ok (.aload 4, 2) := by decide +kernel
theorem dX7_pull_33 : decode cX7_pull 33 = .ok (.aload_n 0, 1) := by decide +kernel
theorem dX7_pull_34 : decode cX7_pull 34 = .ok (.getfield 10, 3) := by decide +kernel
theorem dX7_pull_37 : decode cX7_pull 37 = .ok (.iload_n 2, 1) := by decide +kernel
theorem dX7_pull_38 : decode cX7_pull 38 = .ok (.aload 4, 2) := by decide +kernel
theorem dX7_pull_40 : decode cX7_pull 40 = .ok (.getfield 112, 3) := by decide +kernel
theorem dX7_pull_43 : decode cX7_pull 43 = .ok (.invokevirtual 139, 3) := by decide +kernel
theorem dX7_pull_46 : decode cX7_pull 46 = .ok (.istore 5, 2) := by decide +kernel
theorem dX7_pull_48 : decode cX7_pull 48 = .ok (.iload_n 3, 1) := by decide +kernel
theorem dX7_pull_49 : decode cX7_pull 49 = .ok (.ifCond .ne 18, 3) := by decide +kernel
theorem dX7_pull_52 : decode cX7_pull 52 = .ok (.aload 4, 2) := by decide +kernel
theorem dX7_pull_54 : decode cX7_pull 54 = .ok (.aload_n 0, 1) := by decide +kernel
theorem dX7_pull_55 : decode cX7_pull 55 = .ok (.getfield 10, 3) := by decide +kernel
theorem dX7_pull_58 : decode cX7_pull 58 = .ok (.iload_n 2, 1) := by decide +kernel
theorem dX7_pull_59 : decode cX7_pull 59 = .ok (.iload 5, 2) := by decide +kernel
theorem dX7_pull_61 : decode cX7_pull 61 = .ok (.invokevirtual 128, 3) := by decide +kernel
theorem dX7_pull_64 : decode cX7_pull 64 = .ok (.goto 15, 3) := by decide +kernel
theorem dX7_pull_67 : decode cX7_pull 67 = .ok (.aload 4, 2) := by decide +kernel
theorem dX7_pull_69 : decode cX7_pull 69 = .ok (.aload_n 0, 1) := by decide +kernel
theorem dX7_pull_70 : decode cX7_pull 70 = .ok (.getfield 10, 3) := by decide +kernel
theorem dX7_pull_73 : decode cX7_pull 73 = .ok (.iload_n 2, 1) := by decide +kernel
theorem dX7_pull_74 : decode cX7_pull 74 = .ok (.iload 5, 2) := by decide +kernel
theorem dX7_pull_76 : decode cX7_pull 76 = .ok (.invokevirtual 132, 3) := by decide +kernel
theorem dX7_pull_79 : decode cX7_pull 79 = .ok (.ireturn, 1) := by decide +kernel
def f_X7_pull (z : Nat → Nat) (M : Mem) (p1 : Int32) (p2 : Int32) (p3 : Int32) : Option Int32 := bd1 (f_X7_kiteAt z M p1) (fun r1 => mq r1 (some (-2000000000)) (fun n2 => bd1 (f_X7_isWind z M p2) (fun r3 => if r3 = true then bd1 (f_X7_within z M p3 0 1) (fun r4 => if r4 = true then bd1 (f_X2_standingAngle z n2 M p2 (M n2 4)) (fun r5 => if p3 = 0 then bd1 (f_X2_upAt z n2 M p2 r5) (fun r6 => some r6) else bd1 (f_X2_backAt z n2 M p2 r5) (fun r7 => some r7)) else some (-2000000000)) else some (-2000000000))))
theorem c_X7_pull {l : Launch} {G : GG} {a : AA} {M : Mem} {p1 : Int32} {p2 : Int32} {p3 : Int32} {r : Int32} (hf : f_X7_pull a.1 M p1 p2 p3 = some r) : CtI l G a yX7_pull cX7_pull 6 .int (rmD 5) [.ref (a.2 50), .int p1, .int p2, .int p3] M r M := by
  refine ct_I (by decide) rfl rfl (own := RX7) (Nat.le_of_ble_eq_true rfl) (fun K hl hg S rt => ?_)
  subst hl; subst hg
  unfold f_X7_pull at hf
  show Go K 6 a M 0 [(0, .ref (a.2 50)), (1, .int p1), (2, .int p2), (3, .int p3)] []
  refine g_aload_n 0 S dX7_pull_0 rfl ?_
  refine g_iload_n 1 S dX7_pull_1 rfl ?_
  obtain ⟨r1, hr1, hf⟩ := bd1_some hf
  refine g_cVQ (st := []) S ob_50 rfl ok_X7_kiteAt lk_X7_95 (c_X7_kiteAt hr1) rfl rfl ⟨by decide, by decide⟩ (rmD_z _) (Nat.le_of_ble_eq_true rfl) dX7_pull_2 ?_
  rcases r1 with _ | n2
  · have hf := mq_n hf
    refine Go.st (st' := [.null]) rfl ?_
    refine g_astoreN (lv' := [(4, .null), (0, .ref (a.2 50)), (1, .int p1), (2, .int p2), (3, .int p3)]) S dX7_pull_5 (by decide) rfl ?_
    refine g_aloadN 0 S dX7_pull_7 rfl ?_
    refine g_ifnullN (tgt := 28) S dX7_pull_9 (by decide) ?_
    refine g_ldc S lc_X7_111 dX7_pull_28 ?_
    exact g_iretP rt hf dX7_pull_30
  · have hn2 := vd_X7_kiteAt hr1
    have hf := mq_s hf
    refine Go.st (st' := [.ref (a.2 n2)]) rfl ?_
    refine g_astore (lv' := [(4, .ref (a.2 n2)), (0, .ref (a.2 50)), (1, .int p1), (2, .int p2), (3, .int p3)]) S dX7_pull_5 (by decide) rfl ?_
    refine g_aload 0 S dX7_pull_7 rfl ?_
    refine g_ifnull S dX7_pull_9 ?_
    refine g_iload_n 3 S dX7_pull_12 rfl ?_
    obtain ⟨r3, hr3, hf⟩ := bd1_some hf
    refine g_cSI (st := []) S ok_X7_isWind lk_X7_125 (c_X7_isWind hr3) rfl rfl ⟨by decide, by decide⟩ (rmD_z _) (Nat.le_of_ble_eq_true rfl) dX7_pull_13 ?_
    refine g_if_eqB (tgt := 28) S dX7_pull_16 (by decide) hf (fun c hf => ?_) (fun c hf => ?_)
    · refine g_iload_n 4 S dX7_pull_19 rfl ?_
      refine g_iconst (v := 0) S dX7_pull_20 rfl ?_
      refine g_iconst (v := 1) S dX7_pull_21 rfl ?_
      obtain ⟨r4, hr4, hf⟩ := bd1_some hf
      refine g_cSI (st := []) S ok_X7_within lk_X7_99 (c_X7_within hr4) rfl rfl ⟨by decide, by decide⟩ (rmD_z _) (Nat.le_of_ble_eq_true rfl) dX7_pull_22 ?_
      refine g_if_neB (tgt := 31) S dX7_pull_25 (by decide) hf (fun c hf => ?_) (fun c hf => ?_)
      · refine g_aload 0 S dX7_pull_31 rfl ?_
        refine g_aload_n 1 S dX7_pull_33 rfl ?_
        refine g_get (v := .ref (a.2 51)) S ob_50 rfl gi_X7 (by decide) lf_X7_10 rfl dX7_pull_34 ?_
        refine g_iload_n 3 S dX7_pull_37 rfl ?_
        refine g_aload 0 S dX7_pull_38 rfl ?_
        refine g_get (v := .int (M n2 4)) S (ob_K hn2) rfl gi_X2 (by decide) lf_X7_112 rfl dX7_pull_40 ?_
        obtain ⟨r5, hr5, hf⟩ := bd1_some hf
        refine g_cVI (st := []) S (ob_K hn2) rfl ok_X2_standingAngle lk_X7_139 (c_X2_standingAngle hn2 hr5) rfl rfl ⟨by decide, by decide⟩ (rmD_z _) (Nat.le_of_ble_eq_true rfl) dX7_pull_43 ?_
        refine g_istore (lv' := [(5, .int r5), (4, .ref (a.2 n2)), (0, .ref (a.2 50)), (1, .int p1), (2, .int p2), (3, .int p3)]) S dX7_pull_46 (by decide) rfl ?_
        refine g_iload_n 5 S dX7_pull_48 rfl ?_
        refine g_if_ne (tgt := 67) S dX7_pull_49 (by decide) hf (fun c hf => ?_) (fun c hf => ?_)
        · refine g_aload 1 S dX7_pull_52 rfl ?_
          refine g_aload_n 2 S dX7_pull_54 rfl ?_
          refine g_get (v := .ref (a.2 51)) S ob_50 rfl gi_X7 (by decide) lf_X7_10 rfl dX7_pull_55 ?_
          refine g_iload_n 4 S dX7_pull_58 rfl ?_
          refine g_iload 0 S dX7_pull_59 rfl ?_
          obtain ⟨r6, hr6, hf⟩ := bd1_some hf
          refine g_cVI (st := []) S (ob_K hn2) rfl ok_X2_upAt lk_X7_128 (c_X2_upAt hn2 hr6) rfl rfl ⟨by decide, by decide⟩ (rmD_z _) (Nat.le_of_ble_eq_true rfl) dX7_pull_61 ?_
          refine g_goto (tgt := 79) S dX7_pull_64 (by decide) ?_
          exact g_iretP rt hf dX7_pull_79
        · refine g_aload 1 S dX7_pull_67 rfl ?_
          refine g_aload_n 2 S dX7_pull_69 rfl ?_
          refine g_get (v := .ref (a.2 51)) S ob_50 rfl gi_X7 (by decide) lf_X7_10 rfl dX7_pull_70 ?_
          refine g_iload_n 4 S dX7_pull_73 rfl ?_
          refine g_iload 0 S dX7_pull_74 rfl ?_
          obtain ⟨r7, hr7, hf⟩ := bd1_some hf
          refine g_cVI (st := []) S (ob_K hn2) rfl ok_X2_backAt lk_X7_132 (c_X2_backAt hn2 hr7) rfl rfl ⟨by decide, by decide⟩ (rmD_z _) (Nat.le_of_ble_eq_true rfl) dX7_pull_76 ?_
          exact g_iretP rt hf dX7_pull_79
      · refine g_ldc S lc_X7_111 dX7_pull_28 ?_
        exact g_iretP rt hf dX7_pull_30
    · refine g_ldc S lc_X7_111 dX7_pull_28 ?_
      exact g_iretP rt hf dX7_pull_30
-- BridleBook.trim(IIII)I
theorem dX7_trim_0 : decode cX7_trim 0 = .ok (.aload_n 0, 1) := by decide +kernel
theorem dX7_trim_1 : decode cX7_trim 1 = .ok (.iload_n 1, 1) := by decide +kernel
theorem dX7_trim_2 : decode cX7_trim 2 = .ok (.invokevirtual 95, 3) := by decide +kernel
theorem dX7_trim_5 : decode cX7_trim 5 = .ok (.astore 5, 2) := by decide +kernel
theorem dX7_trim_7 : decode cX7_trim 7 = .ok (.aload 5, 2) := by decide +kernel
theorem dX7_trim_9 : decode cX7_trim 9 = .ok (.ifnull 31, 3) := by decide +kernel
theorem dX7_trim_12 : decode cX7_trim 12 = .ok (.iload_n 2, 1) := by decide +kernel
theorem dX7_trim_13 : decode cX7_trim 13 = .ok (.invokestatic 125, 3) := by decide +kernel
theorem dX7_trim_16 : decode cX7_trim 16 = .ok (.ifCond .eq 24, 3) := by decide +kernel
theorem dX7_trim_19 : decode cX7_trim 19 = .ok (.iload_n 3, 1) := by decide +kernel
theorem dX7_trim_20 : decode cX7_trim 20 = .ok (.invokestatic 115, 3) := by decide +kernel
theorem dX7_trim_23 : decode cX7_trim 23 = .ok (.ifCond .eq 17, 3) := by decide +kernel
theorem dX7_trim_26 : decode cX7_trim 26 = .ok (.iload 4, 2) := by decide +kernel
theorem dX7_trim_28 : decode cX7_trim 28 = .ok (.invokestatic 115, 3) := by decide +kernel
theorem dX7_trim_31 : decode cX7_trim 31 = .ok (.ifCond .eq 9, 3) := by decide +kernel
theorem dX7_trim_34 : decode cX7_trim 34 = .ok (.iload_n 3, 1) := by decide +kernel
theorem dX7_trim_35 : decode cX7_trim 35 = .ok (.iload 4, 2) := by decide +kernel
theorem dX7_trim_37 : decode cX7_trim 37 = .ok (.if_icmp .le 6, 3) := by decide +kernel
theorem dX7_trim_40 : decode cX7_trim 40 = .ok (.ldc 111, 2) := by decide +kernel
theorem dX7_trim_42 : decode cX7_trim 42 = .ok (.ireturn, 1) := by decide +kernel
theorem dX7_trim_43 : decode cX7_trim 43 = .ok (.bipush (-99), 2) := by decide +kernel
theorem dX7_trim_45 : decode cX7_trim 45 = .ok (.istore 6, 2) := by decide +kernel
theorem dX7_trim_47 : decode cX7_trim 47 = .ok (.iload 6, 2) := by decide +kernel
theorem dX7_trim_49 : decode cX7_trim 49 = .ok (.bipush 99, 2) := by decide +kernel
theorem dX7_trim_51 : decode cX7_trim 51 = .ok (.if_icmp .gt 61, 3) := by decide +kernel
theorem dX7_trim_54 : decode cX7_trim 54 = .ok (.aload 5, 2) := by decide +kernel
theorem dX7_trim_56 : decode cX7_trim 56 = .ok (.aload_n 0, 1) := by decide +kernel
theorem dX7_trim_57 : decode cX7_trim 57 = .ok (.getfield 10, 3) := by decide +kernel
theorem dX7_trim_60 : decode cX7_trim 60 = .ok (.iload_n 2, 1) := by decide +kernel
theorem dX7_trim_61 : decode cX7_trim 61 = .ok (.iload 6, 2) := by decide +kernel
theorem dX7_trim_63 : decode cX7_trim 63 = .ok (.invokevirtual 139, 3) := by decide +kernel
theorem dX7_trim_66 : decode cX7_trim 66 = .ok (.istore 7, 2) := by decide +kernel
theorem dX7_trim_68 : decode cX7_trim 68 = .ok (.iload 7, 2) := by decide +kernel
theorem dX7_trim_70 : decode cX7_trim 70 = .ok (.bipush (-2), 2) := by decide +kernel
theorem dX7_trim_72 : decode cX7_trim 72 = .ok (.if_icmp .eq 34, 3) := by decide +kernel
theorem dX7_trim_75 : decode cX7_trim 75 = .ok (.iload 7, 2) := by decide +kernel
theorem dX7_trim_77 : decode cX7_trim 77 = .ok (.iload_n 3, 1) := by decide +kernel
theorem dX7_trim_78 : decode cX7_trim 78 = .ok (.iload 4, 2) := by decide +kernel
theorem dX7_trim_80 : decode cX7_trim 80 = .ok (.invokestatic 99, 3) := by decide +kernel
theorem dX7_trim_83 : decode cX7_trim 83 = .ok (.ifCond .eq 23, 3) := by decide +kernel
theorem dX7_trim_86 : decode cX7_trim 86 = .ok (.aload 5, 2) := by decide +kernel
theorem dX7_trim_88 : decode cX7_trim 88 = .ok (.aload_n 0, 1) := by decide +kernel
theorem dX7_trim_89 : decode cX7_trim 89 = .ok (.getfield 10, 3) := by decide +kernel
theorem dX7_trim_92 : decode cX7_trim 92 = .ok (.iload_n 2, 1) := by decide +kernel
theorem dX7_trim_93 : decode cX7_trim 93 = .ok (.iload 7, 2) := by decide +kernel
theorem dX7_trim_95 : decode cX7_trim 95 = .ok (.iload 6, 2) := by decide +kernel
theorem dX7_trim_97 : decode cX7_trim 97 = .ok (.invokevirtual 142, 3) := by decide +kernel
theorem dX7_trim_100 : decode cX7_trim 100 = .ok (.ifCond .eq 6, 3) := by decide +kernel
theorem dX7_trim_103 : decode cX7_trim 103 = .ok (.iload 6, 2) := by decide +kernel
theorem dX7_trim_105 : decode cX7_trim 105 = .ok (.ireturn, 1) := by decide +kernel
theorem dX7_trim_106 : decode cX7_trim 106 = .ok (.iinc 6 1, 3) := by decide +kernel
theorem dX7_trim_109 : decode cX7_trim 109 = .ok (.goto (-62), 3) := by decide +kernel
theorem dX7_trim_112 : decode cX7_trim 112 = .ok (.ldc 111, 2) := by decide +kernel
theorem dX7_trim_114 : decode cX7_trim 114 = .ok (.ireturn, 1) := by decide +kernel
def f_X7_trim_47 (z : Nat → Nat) (n2 : Nat) (M : Mem) : Nat → Int32 → Int32 → Int32 → Int32 → Option Int32
  | 0, _, _, _, _ => none
  | fu + 1, x2, x3, x4, x6 => if 99 < x6 then some (-2000000000) else bd1 (f_X2_standingAngle z n2 M x2 x6) (fun r6 => if r6 = (-2) then f_X7_trim_47 z n2 M fu x2 x3 x4 (x6 + 1) else bd1 (f_X7_within z M r6 x3 x4) (fun r7 => if r7 = true then bd1 (f_X2_isSteadyAt z n2 M x2 r6 x6) (fun r8 => if r8 = true then some x6 else f_X7_trim_47 z n2 M fu x2 x3 x4 (x6 + 1)) else f_X7_trim_47 z n2 M fu x2 x3 x4 (x6 + 1)))
theorem t_X7_trim_47 {K : KK} {a : AA} {n2 : Nat} (hn2 : vK a.1 n2) (S : Sx K RX7 cX7_trim 8 (rmD 5)) {r : Int32} {M : Mem} (rt : RtI K a cX7_trim r M) : ∀ (fu : Nat) (x2 : Int32) (x3 : Int32) (x4 : Int32) (x6 : Int32), f_X7_trim_47 a.1 n2 M fu x2 x3 x4 x6 = some r → Go K 8 a M 47 [(0, .ref (a.2 50)), (2, .int x2), (3, .int x3), (4, .int x4), (5, .ref (a.2 n2)), (6, .int x6)] [] := by
  intro fu
  induction fu with
  | zero => intro x2 x3 x4 x6 hf; exact absurd hf (by simp [f_X7_trim_47])
  | succ fu ih =>
    intro x2 x3 x4 x6 hf
    rw [f_X7_trim_47] at hf
    refine g_iload 5 S dX7_trim_47 rfl ?_
    refine g_bipush (v := 99) S dX7_trim_49 rfl ?_
    refine g_icmp_gt (tgt := 112) S dX7_trim_51 (by decide) hf (fun c hf => ?_) (fun c hf => ?_)
    · refine g_ldc S lc_X7_111 dX7_trim_112 ?_
      exact g_iretP rt hf dX7_trim_114
    · refine g_aload 4 S dX7_trim_54 rfl ?_
      refine g_aload_n 0 S dX7_trim_56 rfl ?_
      refine g_get (v := .ref (a.2 51)) S ob_50 rfl gi_X7 (by decide) lf_X7_10 rfl dX7_trim_57 ?_
      refine g_iload_n 1 S dX7_trim_60 rfl ?_
      refine g_iload 5 S dX7_trim_61 rfl ?_
      obtain ⟨r6, hr6, hf⟩ := bd1_some hf
      refine g_cVI (st := []) S (ob_K hn2) rfl ok_X2_standingAngle lk_X7_139 (c_X2_standingAngle hn2 hr6) rfl rfl ⟨by decide, by decide⟩ (rmD_z _) (Nat.le_of_ble_eq_true rfl) dX7_trim_63 ?_
      refine g_istore (lv' := [(7, .int r6), (0, .ref (a.2 50)), (2, .int x2), (3, .int x3), (4, .int x4), (5, .ref (a.2 n2)), (6, .int x6)]) S dX7_trim_66 (by decide) rfl ?_
      refine g_iload 0 S dX7_trim_68 rfl ?_
      refine g_bipush (v := (-2)) S dX7_trim_70 rfl ?_
      refine g_icmp_eq (tgt := 106) S dX7_trim_72 (by decide) hf (fun c hf => ?_) (fun c hf => ?_)
      · refine g_iinc (v := (x6 + 1)) (lv' := [(6, .int (x6 + 1)), (7, .int r6), (0, .ref (a.2 50)), (2, .int x2), (3, .int x3), (4, .int x4), (5, .ref (a.2 n2))]) 6 S dX7_trim_106 rfl rfl (by decide) rfl ?_
        refine g_goto (tgt := 47) S dX7_trim_109 (by decide) ?_
        refine Go.sub [2, 3, 4, 5, 6, 0] rfl ?_
        exact ih _ _ _ _ hf
      · refine g_iload 0 S dX7_trim_75 rfl ?_
        refine g_iload_n 3 S dX7_trim_77 rfl ?_
        refine g_iload 4 S dX7_trim_78 rfl ?_
        obtain ⟨r7, hr7, hf⟩ := bd1_some hf
        refine g_cSI (st := []) S ok_X7_within lk_X7_99 (c_X7_within hr7) rfl rfl ⟨by decide, by decide⟩ (rmD_z _) (Nat.le_of_ble_eq_true rfl) dX7_trim_80 ?_
        refine g_if_eqB (tgt := 106) S dX7_trim_83 (by decide) hf (fun c hf => ?_) (fun c hf => ?_)
        · refine g_aload 5 S dX7_trim_86 rfl ?_
          refine g_aload_n 1 S dX7_trim_88 rfl ?_
          refine g_get (v := .ref (a.2 51)) S ob_50 rfl gi_X7 (by decide) lf_X7_10 rfl dX7_trim_89 ?_
          refine g_iload_n 2 S dX7_trim_92 rfl ?_
          refine g_iload 0 S dX7_trim_93 rfl ?_
          refine g_iload 6 S dX7_trim_95 rfl ?_
          obtain ⟨r8, hr8, hf⟩ := bd1_some hf
          refine g_cVI (st := []) S (ob_K hn2) rfl ok_X2_isSteadyAt lk_X7_142 (c_X2_isSteadyAt hn2 hr8) rfl rfl ⟨by decide, by decide⟩ (rmD_z _) (Nat.le_of_ble_eq_true rfl) dX7_trim_97 ?_
          refine g_if_eqB (tgt := 106) S dX7_trim_100 (by decide) hf (fun c hf => ?_) (fun c hf => ?_)
          · refine g_iload 6 S dX7_trim_103 rfl ?_
            exact g_iretP rt hf dX7_trim_105
          · refine g_iinc (v := (x6 + 1)) (lv' := [(6, .int (x6 + 1)), (7, .int r6), (0, .ref (a.2 50)), (2, .int x2), (3, .int x3), (4, .int x4), (5, .ref (a.2 n2))]) 6 S dX7_trim_106 rfl rfl (by decide) rfl ?_
            refine g_goto (tgt := 47) S dX7_trim_109 (by decide) ?_
            refine Go.sub [2, 3, 4, 5, 6, 0] rfl ?_
            exact ih _ _ _ _ hf
        · refine g_iinc (v := (x6 + 1)) (lv' := [(6, .int (x6 + 1)), (7, .int r6), (0, .ref (a.2 50)), (2, .int x2), (3, .int x3), (4, .int x4), (5, .ref (a.2 n2))]) 6 S dX7_trim_106 rfl rfl (by decide) rfl ?_
          refine g_goto (tgt := 47) S dX7_trim_109 (by decide) ?_
          refine Go.sub [2, 3, 4, 5, 6, 0] rfl ?_
          exact ih _ _ _ _ hf
def f_X7_trim (z : Nat → Nat) (M : Mem) (p1 : Int32) (p2 : Int32) (p3 : Int32) (p4 : Int32) : Option Int32 := bd1 (f_X7_kiteAt z M p1) (fun r1 => mq r1 (some (-2000000000)) (fun n2 => bd1 (f_X7_isWind z M p2) (fun r3 => if r3 = true then bd1 (f_X7_isAngle z M p3) (fun r4 => if r4 = true then bd1 (f_X7_isAngle z M p4) (fun r5 => if r5 = true then if p3 ≤ p4 then f_X7_trim_47 z n2 M 1000 p2 p3 p4 (-99) else some (-2000000000) else some (-2000000000)) else some (-2000000000)) else some (-2000000000))))
theorem c_X7_trim {l : Launch} {G : GG} {a : AA} {M : Mem} {p1 : Int32} {p2 : Int32} {p3 : Int32} {p4 : Int32} {r : Int32} (hf : f_X7_trim a.1 M p1 p2 p3 p4 = some r) : CtI l G a yX7_trim cX7_trim 8 .int (rmD 5) [.ref (a.2 50), .int p1, .int p2, .int p3, .int p4] M r M := by
  refine ct_I (by decide) rfl rfl (own := RX7) (Nat.le_of_ble_eq_true rfl) (fun K hl hg S rt => ?_)
  subst hl; subst hg
  unfold f_X7_trim at hf
  show Go K 8 a M 0 [(0, .ref (a.2 50)), (1, .int p1), (2, .int p2), (3, .int p3), (4, .int p4)] []
  refine g_aload_n 0 S dX7_trim_0 rfl ?_
  refine g_iload_n 1 S dX7_trim_1 rfl ?_
  obtain ⟨r1, hr1, hf⟩ := bd1_some hf
  refine g_cVQ (st := []) S ob_50 rfl ok_X7_kiteAt lk_X7_95 (c_X7_kiteAt hr1) rfl rfl ⟨by decide, by decide⟩ (rmD_z _) (Nat.le_of_ble_eq_true rfl) dX7_trim_2 ?_
  rcases r1 with _ | n2
  · have hf := mq_n hf
    refine Go.st (st' := [.null]) rfl ?_
    refine g_astoreN (lv' := [(5, .null), (0, .ref (a.2 50)), (1, .int p1), (2, .int p2), (3, .int p3), (4, .int p4)]) S dX7_trim_5 (by decide) rfl ?_
    refine g_aloadN 0 S dX7_trim_7 rfl ?_
    refine g_ifnullN (tgt := 40) S dX7_trim_9 (by decide) ?_
    refine g_ldc S lc_X7_111 dX7_trim_40 ?_
    exact g_iretP rt hf dX7_trim_42
  · have hn2 := vd_X7_kiteAt hr1
    have hf := mq_s hf
    refine Go.st (st' := [.ref (a.2 n2)]) rfl ?_
    refine g_astore (lv' := [(5, .ref (a.2 n2)), (0, .ref (a.2 50)), (1, .int p1), (2, .int p2), (3, .int p3), (4, .int p4)]) S dX7_trim_5 (by decide) rfl ?_
    refine g_aload 0 S dX7_trim_7 rfl ?_
    refine g_ifnull S dX7_trim_9 ?_
    refine g_iload_n 3 S dX7_trim_12 rfl ?_
    obtain ⟨r3, hr3, hf⟩ := bd1_some hf
    refine g_cSI (st := []) S ok_X7_isWind lk_X7_125 (c_X7_isWind hr3) rfl rfl ⟨by decide, by decide⟩ (rmD_z _) (Nat.le_of_ble_eq_true rfl) dX7_trim_13 ?_
    refine g_if_eqB (tgt := 40) S dX7_trim_16 (by decide) hf (fun c hf => ?_) (fun c hf => ?_)
    · refine g_iload_n 4 S dX7_trim_19 rfl ?_
      obtain ⟨r4, hr4, hf⟩ := bd1_some hf
      refine g_cSI (st := []) S ok_X7_isAngle lk_X7_115 (c_X7_isAngle hr4) rfl rfl ⟨by decide, by decide⟩ (rmD_z _) (Nat.le_of_ble_eq_true rfl) dX7_trim_20 ?_
      refine g_if_eqB (tgt := 40) S dX7_trim_23 (by decide) hf (fun c hf => ?_) (fun c hf => ?_)
      · refine g_iload 5 S dX7_trim_26 rfl ?_
        obtain ⟨r5, hr5, hf⟩ := bd1_some hf
        refine g_cSI (st := []) S ok_X7_isAngle lk_X7_115 (c_X7_isAngle hr5) rfl rfl ⟨by decide, by decide⟩ (rmD_z _) (Nat.le_of_ble_eq_true rfl) dX7_trim_28 ?_
        refine g_if_eqB (tgt := 40) S dX7_trim_31 (by decide) hf (fun c hf => ?_) (fun c hf => ?_)
        · refine g_iload_n 4 S dX7_trim_34 rfl ?_
          refine g_iload 5 S dX7_trim_35 rfl ?_
          refine g_icmp_le (tgt := 43) S dX7_trim_37 (by decide) hf (fun c hf => ?_) (fun c hf => ?_)
          · refine g_bipush (v := (-99)) S dX7_trim_43 rfl ?_
            refine g_istore (lv' := [(6, .int (-99)), (5, .ref (a.2 n2)), (0, .ref (a.2 50)), (1, .int p1), (2, .int p2), (3, .int p3), (4, .int p4)]) S dX7_trim_45 (by decide) rfl ?_
            refine Go.sub [2, 4, 5, 6, 1, 0] rfl ?_
            exact t_X7_trim_47 hn2 S rt 1000 _ _ _ _ hf
          · refine g_ldc S lc_X7_111 dX7_trim_40 ?_
            exact g_iretP rt hf dX7_trim_42
        · refine g_ldc S lc_X7_111 dX7_trim_40 ?_
          exact g_iretP rt hf dX7_trim_42
      · refine g_ldc S lc_X7_111 dX7_trim_40 ?_
        exact g_iretP rt hf dX7_trim_42
    · refine g_ldc S lc_X7_111 dX7_trim_40 ?_
      exact g_iretP rt hf dX7_trim_42
-- BridleBook.wind(II)I
theorem dX7_wind_0 : decode cX7_wind 0 = .ok (.iload_n 1, 1) := by decide +kernel
theorem dX7_wind_1 : decode cX7_wind 1 = .ok (.iconst 0, 1) := by decide +kernel
theorem dX7_wind_2 : decode cX7_wind 2 = .ok (.bipush 19, 2) := by decide +kernel
theorem dX7_wind_4 : decode cX7_wind 4 = .ok (.invokestatic 99, 3) := by decide +kernel
theorem dX7_wind_7 : decode cX7_wind 7 = .ok (.ifCond .eq 10, 3) := by decide +kernel
theorem dX7_wind_10 : decode cX7_wind 10 = .ok (.iload_n 2, 1) := by decide +kernel
theorem dX7_wind_11 : decode cX7_wind 11 = .ok (.invokestatic 125, 3) := by decide +kernel
theorem dX7_wind_14 : decode cX7_wind 14 = .ok (.ifCond .ne 5, 3) := by decide +kernel
theorem dX7_wind_17 : decode cX7_wind 17 = .ok (.iconst (-1), 1) := by decide +kernel
theorem dX7_wind_18 : decode cX7_wind 18 = .ok (.ireturn, 1) := by decide +kernel
theorem dX7_wind_19 : decode cX7_wind 19 = .ok (.aload_n 0, 1) := by decide +kernel
theorem dX7_wind_20 : decode cX7_wind 20 = .ok (.getfield 26, 3) := by decide +kernel
theorem dX7_wind_23 : decode cX7_wind 23 = .ok (.iload_n 1, 1) := by decide +kernel
theorem dX7_wind_24 : decode cX7_wind 24 = .ok (.iaload, 1) := by decide +kernel
theorem dX7_wind_25 : decode cX7_wind 25 = .ok (.istore_n 3, 1) := by decide +kernel
theorem dX7_wind_26 : decode cX7_wind 26 = .ok (.aload_n 0, 1) := by decide +kernel
theorem dX7_wind_27 : decode cX7_wind 27 = .ok (.getfield 26, 3) := by decide +kernel
theorem dX7_wind_30 : decode cX7_wind 30 = .ok (.iload_n 1, 1) := by decide +kernel
theorem dX7_wind_31 : decode cX7_wind 31 = .ok (.iload_n 2, 1) := by decide +kernel
theorem dX7_wind_32 : decode cX7_wind 32 = .ok (.iastore, 1) := by decide +kernel
theorem dX7_wind_33 : decode cX7_wind 33 = .ok (.iload_n 3, 1) := by decide +kernel
theorem dX7_wind_34 : decode cX7_wind 34 = .ok (.ireturn, 1) := by decide +kernel
def f_X7_wind (z : Nat → Nat) (M : Mem) (p1 : Int32) (p2 : Int32) : Option (Int32 × Mem) := bd1 (f_X7_within z M p1 0 19) (fun r1 => if r1 = true then bd1 (f_X7_isWind z M p2) (fun r2 => if r2 = true then ck (inb p1 20) (ck (inb p1 20) (some ((M 54 (Int32.toNatClampNeg p1)), (mu M 54 (Int32.toNatClampNeg p1) p2)))) else some ((-1), M)) else some ((-1), M))
theorem c_X7_wind {l : Launch} {G : GG} {a : AA} {M : Mem} {p1 : Int32} {p2 : Int32} {r : Int32} {M' : Mem} (hf : f_X7_wind a.1 M p1 p2 = some (r, M')) : CtI l G a yX7_wind cX7_wind 4 .int (rmD 2) [.ref (a.2 50), .int p1, .int p2] M r M' := by
  refine ct_I (by decide) rfl rfl (own := RX7) (Nat.le_of_ble_eq_true rfl) (fun K hl hg S rt => ?_)
  subst hl; subst hg
  unfold f_X7_wind at hf
  show Go K 4 a M 0 [(0, .ref (a.2 50)), (1, .int p1), (2, .int p2)] []
  refine g_iload_n 1 S dX7_wind_0 rfl ?_
  refine g_iconst (v := 0) S dX7_wind_1 rfl ?_
  refine g_bipush (v := 19) S dX7_wind_2 rfl ?_
  obtain ⟨r1, hr1, hf⟩ := bd1_some hf
  refine g_cSI (st := []) S ok_X7_within lk_X7_99 (c_X7_within hr1) rfl rfl ⟨by decide, by decide⟩ (rmD_z _) (Nat.le_of_ble_eq_true rfl) dX7_wind_4 ?_
  refine g_if_eqB (tgt := 17) S dX7_wind_7 (by decide) hf (fun c hf => ?_) (fun c hf => ?_)
  · refine g_iload_n 2 S dX7_wind_10 rfl ?_
    obtain ⟨r2, hr2, hf⟩ := bd1_some hf
    refine g_cSI (st := []) S ok_X7_isWind lk_X7_125 (c_X7_isWind hr2) rfl rfl ⟨by decide, by decide⟩ (rmD_z _) (Nat.le_of_ble_eq_true rfl) dX7_wind_11 ?_
    refine g_if_neB (tgt := 19) S dX7_wind_14 (by decide) hf (fun c hf => ?_) (fun c hf => ?_)
    · refine g_aload_n 0 S dX7_wind_19 rfl ?_
      refine g_get (v := .ref (a.2 54)) S ob_50 rfl gi_X7 (by decide) lf_X7_26 rfl dX7_wind_20 ?_
      refine g_iload_n 1 S dX7_wind_23 rfl ?_
      refine g_iald S ia_54 dX7_wind_24 hf (fun hf => ?_)
      refine g_istore_n (lv' := [(3, .int (M 54 (Int32.toNatClampNeg p1))), (0, .ref (a.2 50)), (1, .int p1), (2, .int p2)]) S dX7_wind_25 (by decide) rfl ?_
      refine g_aload_n 1 S dX7_wind_26 rfl ?_
      refine g_get (v := .ref (a.2 54)) S ob_50 rfl gi_X7 (by decide) lf_X7_26 rfl dX7_wind_27 ?_
      refine g_iload_n 2 S dX7_wind_30 rfl ?_
      refine g_iload_n 3 S dX7_wind_31 rfl ?_
      refine g_iast S ia_54 dX7_wind_32 hf (fun hf => ?_)
      refine g_iload_n 0 S dX7_wind_33 rfl ?_
      exact g_iretM rt hf dX7_wind_34
    · refine g_iconst (v := (-1)) S dX7_wind_17 rfl ?_
      exact g_iretM rt hf dX7_wind_18
  · refine g_iconst (v := (-1)) S dX7_wind_17 rfl ?_
    exact g_iretM rt hf dX7_wind_18
-- BridleBook.lineAt(I)LBridleBook$Line;
theorem dX7_lineAt_0 : decode cX7_lineAt 0 = .ok (.iload_n 1, 1) := by decide +kernel
theorem dX7_lineAt_1 : decode cX7_lineAt 1 = .ok (.iconst 0, 1) := by decide +kernel
theorem dX7_lineAt_2 : decode cX7_lineAt 2 = .ok (.aload_n 0, 1) := by decide +kernel
theorem dX7_lineAt_3 : decode cX7_lineAt 3 = .ok (.getfield 36, 3) := by decide +kernel
theorem dX7_lineAt_6 : decode cX7_lineAt 6 = .ok (.iconst 1, 1) := by decide +kernel
theorem dX7_lineAt_7 : decode cX7_lineAt 7 = .ok (.isub, 1) := by decide +kernel
theorem dX7_lineAt_8 : decode cX7_lineAt 8 = .ok (.invokestatic 99, 3) := by decide +kernel
theorem dX7_lineAt_11 : decode cX7_lineAt 11 = .ok (.ifCond .eq 12, 3) := by decide +kernel
theorem dX7_lineAt_14 : decode cX7_lineAt 14 = .ok (.aload_n 0, 1) := by decide +kernel
theorem dX7_lineAt_15 : decode cX7_lineAt 15 = .ok (.getfield 32, 3) := by decide +kernel
theorem dX7_lineAt_18 : decode cX7_lineAt 18 = .ok (.iload_n 1, 1) := by decide +kernel
theorem dX7_lineAt_19 : decode cX7_lineAt 19 = .ok (.aaload, 1) := by decide +kernel
theorem dX7_lineAt_20 : decode cX7_lineAt 20 = .ok (.goto 4, 3) := by decide +kernel
theorem dX7_lineAt_23 : decode cX7_lineAt 23 = .ok (.aconst_null, 1) := by decide +kernel
theorem dX7_lineAt_24 : decode cX7_lineAt 24 = .ok (.areturn, 1) := by decide +kernel
def f_X7_lineAt (z : Nat → Nat) (M : Mem) (p1 : Int32) : Option (Option Nat) := bd1 (f_X7_within z M p1 0 ((M 50 5) - 1)) (fun r1 => if r1 = true then ck (inb p1 10) (if (Int32.toNatClampNeg p1) < z 1 then some (some (200 + 2 * (Int32.toNatClampNeg p1))) else some none) else some none)
theorem c_X7_lineAt {l : Launch} {G : GG} {a : AA} {M : Mem} {p1 : Int32} {r : Option Nat} (hf : f_X7_lineAt a.1 M p1 = some r) : CtQ l G a yX7_lineAt cX7_lineAt 2 "BridleBook$Line" (rmD 1) [.ref (a.2 50), .int p1] M r M := by
  refine ct_Q (by decide) rfl (own := RX7) (Nat.le_of_ble_eq_true rfl) (fun K hl hg S rt => ?_)
  subst hl; subst hg
  unfold f_X7_lineAt at hf
  show Go K 2 a M 0 [(0, .ref (a.2 50)), (1, .int p1)] []
  refine g_iload_n 1 S dX7_lineAt_0 rfl ?_
  refine g_iconst (v := 0) S dX7_lineAt_1 rfl ?_
  refine g_aload_n 0 S dX7_lineAt_2 rfl ?_
  refine g_get (v := .int (M 50 5)) S ob_50 rfl gi_X7 (by decide) lf_X7_36 rfl dX7_lineAt_3 ?_
  refine g_iconst (v := 1) S dX7_lineAt_6 rfl ?_
  refine g_isub S dX7_lineAt_7 ?_
  obtain ⟨r1, hr1, hf⟩ := bd1_some hf
  refine g_cSI (st := []) S ok_X7_within lk_X7_99 (c_X7_within hr1) rfl rfl ⟨by decide, by decide⟩ (rmD_z _) (Nat.le_of_ble_eq_true rfl) dX7_lineAt_8 ?_
  refine g_if_eqB (tgt := 23) S dX7_lineAt_11 (by decide) hf (fun c hf => ?_) (fun c hf => ?_)
  · refine g_aload_n 0 S dX7_lineAt_14 rfl ?_
    refine g_get (v := .ref (a.2 55)) S ob_50 rfl gi_X7 (by decide) lf_X7_32 rfl dX7_lineAt_15 ?_
    refine g_iload_n 1 S dX7_lineAt_18 rfl ?_
    refine g_aald (t0 := 3) (base := 200) (step := 2) (cnt := a.1 1) S (in_fix (by decide)) rfl rfl dX7_lineAt_19 hf (fun c hf => ?_) (fun c hf => ?_)
    · refine g_goto (tgt := 24) S dX7_lineAt_20 (by decide) ?_
      exact g_aretS rt hf dX7_lineAt_24
    · refine g_goto (tgt := 24) S dX7_lineAt_20 (by decide) ?_
      exact g_aretN rt hf dX7_lineAt_24
  · refine g_null S dX7_lineAt_23 ?_
    exact g_aretN rt hf dX7_lineAt_24
theorem vd_X7_lineAt {z : Nat → Nat} {M : Mem} {p1 : Int32} {n : Nat} (h : f_X7_lineAt z M p1 = some (some n)) : vL z n := by
  unfold f_X7_lineAt at h
  obtain ⟨r, -, h⟩ := bd1_some h
  refine sp_if h (fun _ h => ?_) (fun _ h => ?_)
  · obtain ⟨h2, h⟩ := ck_some h
    refine sp_if h (fun c h => ?_) (fun _ h => ?_)
    · cases h
      exact ⟨p1.toNatClampNeg, c, by have := in_lt h2; omega, rfl⟩
    · cases h
  · cases h
-- BridleBook.kitesOn(I)I
theorem dX7_kitesOn_0 : decode cX7_kitesOn 0 = .ok (.iconst 0, 1) := by decide +kernel
theorem dX7_kitesOn_1 : decode cX7_kitesOn 1 = .ok (.istore_n 2, 1) := by decide +kernel
theorem dX7_kitesOn_2 : decode cX7_kitesOn 2 = .ok (.iconst 0, 1) := by decide +kernel
theorem dX7_kitesOn_3 : decode cX7_kitesOn 3 = .ok (.istore_n 3, 1) := by decide +kernel
theorem dX7_kitesOn_4 : decode cX7_kitesOn 4 = .ok (.iload_n 3, 1) := by decide +kernel
theorem dX7_kitesOn_5 : decode cX7_kitesOn 5 = .ok (.aload_n 0, 1) := by decide +kernel
theorem dX7_kitesOn_6 : decode cX7_kitesOn 6 = .ok (.getfield 22, 3) := by decide +kernel
theorem dX7_kitesOn_9 : decode cX7_kitesOn 9 = .ok (.if_icmp .ge 33, 3) := by decide +kernel
theorem dX7_kitesOn_12 : decode cX7_kitesOn 12 = .ok (.aload_n 0, 1) := by decide +kernel
theorem dX7_kitesOn_13 : decode cX7_kitesOn 13 = .ok (.iload_n 3, 1) := by decide +kernel
theorem dX7_kitesOn_14 : decode cX7_kitesOn 14 = .ok (.invokevirtual 95, 3) := by decide +kernel
theorem dX7_kitesOn_17 : decode cX7_kitesOn 17 = .ok (.astore 4, 2) := by decide +kernel
theorem dX7_kitesOn_19 : decode cX7_kitesOn 19 = .ok (.aload 4, 2) := by decide +kernel
theorem dX7_kitesOn_21 : decode cX7_kitesOn 21 = .ok (.ifnull 15, 3) := by decide +kernel
theorem dX7_kitesOn_24 : decode cX7_kitesOn 24 = .ok (.aload 4, 2) := by decide +kernel
theorem dX7_kitesOn_26 : decode cX7_kitesOn 26 = .ok (.getfield 157, 3) := by decide +kernel
theorem dX7_kitesOn_29 : decode cX7_kitesOn 29 = .ok (.iload_n 1, 1) := by decide +kernel
theorem dX7_kitesOn_30 : decode cX7_kitesOn 30 = .ok (.if_icmp .ne 6, 3) := by decide +kernel
theorem dX7_kitesOn_33 : decode cX7_kitesOn 33 = .ok (.iinc 2 1, 3) := by decide +kernel
theorem dX7_kitesOn_36 : decode cX7_kitesOn 36 = .ok (.iinc 3 1, 3) := by decide +kernel
theorem dX7_kitesOn_39 : decode cX7_kitesOn 39 = .ok (.goto (-35), 3) := by decide +kernel
theorem dX7_kitesOn_42 : decode cX7_kitesOn 42 = .ok (.iload_n 2, 1) := by decide +kernel
theorem dX7_kitesOn_43 : decode cX7_kitesOn 43 = .ok (.ireturn, 1) := by decide +kernel
def f_X7_kitesOn_4 (z : Nat → Nat) (M : Mem) : Nat → Int32 → Int32 → Int32 → Option Int32
  | 0, _, _, _ => none
  | fu + 1, x1, x2, x3 => if (M 50 2) ≤ x3 then some x2 else bd1 (f_X7_kiteAt z M x3) (fun r1 => mq r1 (f_X7_kitesOn_4 z M fu x1 x2 (x3 + 1)) (fun n2 => if (M n2 5) = x1 then f_X7_kitesOn_4 z M fu x1 (x2 + 1) (x3 + 1) else f_X7_kitesOn_4 z M fu x1 x2 (x3 + 1)))
theorem t_X7_kitesOn_4 {K : KK} {a : AA} (S : Sx K RX7 cX7_kitesOn 5 (rmD 2)) {r : Int32} {M : Mem} (rt : RtI K a cX7_kitesOn r M) : ∀ (fu : Nat) (x1 : Int32) (x2 : Int32) (x3 : Int32), f_X7_kitesOn_4 a.1 M fu x1 x2 x3 = some r → Go K 5 a M 4 [(0, .ref (a.2 50)), (1, .int x1), (2, .int x2), (3, .int x3)] [] := by
  intro fu
  induction fu with
  | zero => intro x1 x2 x3 hf; exact absurd hf (by simp [f_X7_kitesOn_4])
  | succ fu ih =>
    intro x1 x2 x3 hf
    rw [f_X7_kitesOn_4] at hf
    refine g_iload_n 3 S dX7_kitesOn_4 rfl ?_
    refine g_aload_n 0 S dX7_kitesOn_5 rfl ?_
    refine g_get (v := .int (M 50 2)) S ob_50 rfl gi_X7 (by decide) lf_X7_22 rfl dX7_kitesOn_6 ?_
    refine g_icmp_ge (tgt := 42) S dX7_kitesOn_9 (by decide) hf (fun c hf => ?_) (fun c hf => ?_)
    · refine g_iload_n 2 S dX7_kitesOn_42 rfl ?_
      exact g_iretP rt hf dX7_kitesOn_43
    · refine g_aload_n 0 S dX7_kitesOn_12 rfl ?_
      refine g_iload_n 3 S dX7_kitesOn_13 rfl ?_
      obtain ⟨r1, hr1, hf⟩ := bd1_some hf
      refine g_cVQ (st := []) S ob_50 rfl ok_X7_kiteAt lk_X7_95 (c_X7_kiteAt hr1) rfl rfl ⟨by decide, by decide⟩ (rmD_z _) (Nat.le_of_ble_eq_true rfl) dX7_kitesOn_14 ?_
      rcases r1 with _ | n2
      · have hf := mq_n hf
        refine Go.st (st' := [.null]) rfl ?_
        refine g_astoreN (lv' := [(4, .null), (0, .ref (a.2 50)), (1, .int x1), (2, .int x2), (3, .int x3)]) S dX7_kitesOn_17 (by decide) rfl ?_
        refine g_aloadN 0 S dX7_kitesOn_19 rfl ?_
        refine g_ifnullN (tgt := 36) S dX7_kitesOn_21 (by decide) ?_
        refine g_iinc (v := (x3 + 1)) (lv' := [(3, .int (x3 + 1)), (4, .null), (0, .ref (a.2 50)), (1, .int x1), (2, .int x2)]) 4 S dX7_kitesOn_36 rfl rfl (by decide) rfl ?_
        refine g_goto (tgt := 4) S dX7_kitesOn_39 (by decide) ?_
        refine Go.sub [2, 3, 4, 0] rfl ?_
        exact ih _ _ _ hf
      · have hn2 := vd_X7_kiteAt hr1
        have hf := mq_s hf
        refine Go.st (st' := [.ref (a.2 n2)]) rfl ?_
        refine g_astore (lv' := [(4, .ref (a.2 n2)), (0, .ref (a.2 50)), (1, .int x1), (2, .int x2), (3, .int x3)]) S dX7_kitesOn_17 (by decide) rfl ?_
        refine g_aload 0 S dX7_kitesOn_19 rfl ?_
        refine g_ifnull S dX7_kitesOn_21 ?_
        refine g_aload 0 S dX7_kitesOn_24 rfl ?_
        refine g_get (v := .int (M n2 5)) S (ob_K hn2) rfl gi_X2 (by decide) lf_X7_157 rfl dX7_kitesOn_26 ?_
        refine g_iload_n 2 S dX7_kitesOn_29 rfl ?_
        refine g_icmp_ne (tgt := 36) S dX7_kitesOn_30 (by decide) hf (fun c hf => ?_) (fun c hf => ?_)
        · refine g_iinc (v := (x2 + 1)) (lv' := [(2, .int (x2 + 1)), (4, .ref (a.2 n2)), (0, .ref (a.2 50)), (1, .int x1), (3, .int x3)]) 3 S dX7_kitesOn_33 rfl rfl (by decide) rfl ?_
          refine g_iinc (v := (x3 + 1)) (lv' := [(3, .int (x3 + 1)), (2, .int (x2 + 1)), (4, .ref (a.2 n2)), (0, .ref (a.2 50)), (1, .int x1)]) 4 S dX7_kitesOn_36 rfl rfl (by decide) rfl ?_
          refine g_goto (tgt := 4) S dX7_kitesOn_39 (by decide) ?_
          refine Go.sub [3, 4, 1, 0] rfl ?_
          exact ih _ _ _ hf
        · refine g_iinc (v := (x3 + 1)) (lv' := [(3, .int (x3 + 1)), (4, .ref (a.2 n2)), (0, .ref (a.2 50)), (1, .int x1), (2, .int x2)]) 4 S dX7_kitesOn_36 rfl rfl (by decide) rfl ?_
          refine g_goto (tgt := 4) S dX7_kitesOn_39 (by decide) ?_
          refine Go.sub [2, 3, 4, 0] rfl ?_
          exact ih _ _ _ hf
def f_X7_kitesOn (z : Nat → Nat) (M : Mem) (p1 : Int32) : Option Int32 := f_X7_kitesOn_4 z M 1000 p1 0 0
theorem c_X7_kitesOn {l : Launch} {G : GG} {a : AA} {M : Mem} {p1 : Int32} {r : Int32} (hf : f_X7_kitesOn a.1 M p1 = some r) : CtI l G a yX7_kitesOn cX7_kitesOn 5 .int (rmD 2) [.ref (a.2 50), .int p1] M r M := by
  refine ct_I (by decide) rfl rfl (own := RX7) (Nat.le_of_ble_eq_true rfl) (fun K hl hg S rt => ?_)
  subst hl; subst hg
  unfold f_X7_kitesOn at hf
  show Go K 5 a M 0 [(0, .ref (a.2 50)), (1, .int p1)] []
  refine g_iconst (v := 0) S dX7_kitesOn_0 rfl ?_
  refine g_istore_n (lv' := [(2, .int 0), (0, .ref (a.2 50)), (1, .int p1)]) S dX7_kitesOn_1 (by decide) rfl ?_
  refine g_iconst (v := 0) S dX7_kitesOn_2 rfl ?_
  refine g_istore_n (lv' := [(3, .int 0), (2, .int 0), (0, .ref (a.2 50)), (1, .int p1)]) S dX7_kitesOn_3 (by decide) rfl ?_
  refine Go.sub [2, 3, 1, 0] rfl ?_
  exact t_X7_kitesOn_4  S rt 1000 _ _ _ hf
-- BridleBook.tie(III)I
theorem dX7_tie_0 : decode cX7_tie 0 = .ok (.aload_n 0, 1) := by decide +kernel
theorem dX7_tie_1 : decode cX7_tie 1 = .ok (.iload_n 1, 1) := by decide +kernel
theorem dX7_tie_2 : decode cX7_tie 2 = .ok (.invokevirtual 95, 3) := by decide +kernel
theorem dX7_tie_5 : decode cX7_tie 5 = .ok (.astore 4, 2) := by decide +kernel
theorem dX7_tie_7 : decode cX7_tie 7 = .ok (.aload_n 0, 1) := by decide +kernel
theorem dX7_tie_8 : decode cX7_tie 8 = .ok (.iload_n 2, 1) := by decide +kernel
theorem dX7_tie_9 : decode cX7_tie 9 = .ok (.invokevirtual 150, 3) := by decide +kernel
theorem dX7_tie_12 : decode cX7_tie 12 = .ok (.astore 5, 2) := by decide +kernel
theorem dX7_tie_14 : decode cX7_tie 14 = .ok (.aload 4, 2) := by decide +kernel
theorem dX7_tie_16 : decode cX7_tie 16 = .ok (.ifnull 21, 3) := by decide +kernel
theorem dX7_tie_19 : decode cX7_tie 19 = .ok (.aload 5, 2) := by decide +kernel
theorem dX7_tie_21 : decode cX7_tie 21 = .ok (.ifnull 16, 3) := by decide +kernel
theorem dX7_tie_24 : decode cX7_tie 24 = .ok (.iload_n 3, 1) := by decide +kernel
theorem dX7_tie_25 : decode cX7_tie 25 = .ok (.iconst 1, 1) := by decide +kernel
theorem dX7_tie_26 : decode cX7_tie 26 = .ok (.aload 5, 2) := by decide +kernel
theorem dX7_tie_28 : decode cX7_tie 28 = .ok (.getfield 154, 3) := by decide +kernel
theorem dX7_tie_31 : decode cX7_tie 31 = .ok (.invokestatic 99, 3) := by decide +kernel
theorem dX7_tie_34 : decode cX7_tie 34 = .ok (.ifCond .ne 5, 3) := by decide +kernel
theorem dX7_tie_37 : decode cX7_tie 37 = .ok (.iconst (-1), 1) := by decide +kernel
theorem dX7_tie_38 : decode cX7_tie 38 = .ok (.ireturn, 1) := by decide +kernel
theorem dX7_tie_39 : decode cX7_tie 39 = .ok (.aload 4, 2) := by decide +kernel
theorem dX7_tie_41 : decode cX7_tie 41 = .ok (.getfield 157, 3) := by decide +kernel
theorem dX7_tie_44 : decode cX7_tie 44 = .ok (.iconst (-1), 1) := by decide +kernel
theorem dX7_tie_45 : decode cX7_tie 45 = .ok (.if_icmp .eq 6, 3) := by decide +kernel
theorem dX7_tie_48 : decode cX7_tie 48 = .ok (.bipush (-2), 2) := by decide +kernel
theorem dX7_tie_50 : decode cX7_tie 50 = .ok (.ireturn, 1) := by decide +kernel
theorem dX7_tie_51 : decode cX7_tie 51 = .ok (.aload 4, 2) := by decide +kernel
theorem dX7_tie_53 : decode cX7_tie 53 = .ok (.iload_n 2, 1) := by decide +kernel
theorem dX7_tie_54 : decode cX7_tie 54 = .ok (.putfield 157, 3) := by decide +kernel
theorem dX7_tie_57 : decode cX7_tie 57 = .ok (.aload 4, 2) := by decide +kernel
theorem dX7_tie_59 : decode cX7_tie 59 = .ok (.iload_n 3, 1) := by decide +kernel
theorem dX7_tie_60 : decode cX7_tie 60 = .ok (.putfield 160, 3) := by decide +kernel
theorem dX7_tie_63 : decode cX7_tie 63 = .ok (.aload_n 0, 1) := by decide +kernel
theorem dX7_tie_64 : decode cX7_tie 64 = .ok (.iload_n 2, 1) := by decide +kernel
theorem dX7_tie_65 : decode cX7_tie 65 = .ok (.invokevirtual 163, 3) := by decide +kernel
theorem dX7_tie_68 : decode cX7_tie 68 = .ok (.ireturn, 1) := by decide +kernel
def f_X7_tie (z : Nat → Nat) (M : Mem) (p1 : Int32) (p2 : Int32) (p3 : Int32) : Option (Int32 × Mem) := bd1 (f_X7_kiteAt z M p1) (fun r1 => mq r1 (bd1 (f_X7_lineAt z M p2) (fun r3 => mq r3 (some ((-1), M)) (fun n4 => some ((-1), M)))) (fun n2 => bd1 (f_X7_lineAt z M p2) (fun r5 => mq r5 (some ((-1), M)) (fun n6 => bd1 (f_X7_within z M p3 1 (M n6 0)) (fun r7 => if r7 = true then if (M n2 5) = (-1) then bd1 (f_X7_kitesOn z (mu (mu M n2 5 p2) n2 6 p3) p2) (fun r8 => some (r8, (mu (mu M n2 5 p2) n2 6 p3))) else some ((-2), M) else some ((-1), M))))))
theorem c_X7_tie {l : Launch} {G : GG} {a : AA} {M : Mem} {p1 : Int32} {p2 : Int32} {p3 : Int32} {r : Int32} {M' : Mem} (hf : f_X7_tie a.1 M p1 p2 p3 = some (r, M')) : CtI l G a yX7_tie cX7_tie 6 .int (rmD 3) [.ref (a.2 50), .int p1, .int p2, .int p3] M r M' := by
  refine ct_I (by decide) rfl rfl (own := RX7) (Nat.le_of_ble_eq_true rfl) (fun K hl hg S rt => ?_)
  subst hl; subst hg
  unfold f_X7_tie at hf
  show Go K 6 a M 0 [(0, .ref (a.2 50)), (1, .int p1), (2, .int p2), (3, .int p3)] []
  refine g_aload_n 0 S dX7_tie_0 rfl ?_
  refine g_iload_n 1 S dX7_tie_1 rfl ?_
  obtain ⟨r1, hr1, hf⟩ := bd1_some hf
  refine g_cVQ (st := []) S ob_50 rfl ok_X7_kiteAt lk_X7_95 (c_X7_kiteAt hr1) rfl rfl ⟨by decide, by decide⟩ (rmD_z _) (Nat.le_of_ble_eq_true rfl) dX7_tie_2 ?_
  rcases r1 with _ | n2
  · have hf := mq_n hf
    refine Go.st (st' := [.null]) rfl ?_
    refine g_astoreN (lv' := [(4, .null), (0, .ref (a.2 50)), (1, .int p1), (2, .int p2), (3, .int p3)]) S dX7_tie_5 (by decide) rfl ?_
    refine g_aload_n 1 S dX7_tie_7 rfl ?_
    refine g_iload_n 3 S dX7_tie_8 rfl ?_
    obtain ⟨r3, hr3, hf⟩ := bd1_some hf
    refine g_cVQ (st := []) S ob_50 rfl ok_X7_lineAt lk_X7_150 (c_X7_lineAt hr3) rfl rfl ⟨by decide, by decide⟩ (rmD_z _) (Nat.le_of_ble_eq_true rfl) dX7_tie_9 ?_
    rcases r3 with _ | n4
    · have hf := mq_n hf
      refine Go.st (st' := [.null]) rfl ?_
      refine g_astoreN (lv' := [(5, .null), (4, .null), (0, .ref (a.2 50)), (1, .int p1), (2, .int p2), (3, .int p3)]) S dX7_tie_12 (by decide) rfl ?_
      refine g_aloadN 1 S dX7_tie_14 rfl ?_
      refine g_ifnullN (tgt := 37) S dX7_tie_16 (by decide) ?_
      refine g_iconst (v := (-1)) S dX7_tie_37 rfl ?_
      exact g_iretM rt hf dX7_tie_38
    · have hn4 := vd_X7_lineAt hr3
      have hf := mq_s hf
      refine Go.st (st' := [.ref (a.2 n4)]) rfl ?_
      refine g_astore (lv' := [(5, .ref (a.2 n4)), (4, .null), (0, .ref (a.2 50)), (1, .int p1), (2, .int p2), (3, .int p3)]) S dX7_tie_12 (by decide) rfl ?_
      refine g_aloadN 1 S dX7_tie_14 rfl ?_
      refine g_ifnullN (tgt := 37) S dX7_tie_16 (by decide) ?_
      refine g_iconst (v := (-1)) S dX7_tie_37 rfl ?_
      exact g_iretM rt hf dX7_tie_38
  · have hn2 := vd_X7_kiteAt hr1
    have hf := mq_s hf
    refine Go.st (st' := [.ref (a.2 n2)]) rfl ?_
    refine g_astore (lv' := [(4, .ref (a.2 n2)), (0, .ref (a.2 50)), (1, .int p1), (2, .int p2), (3, .int p3)]) S dX7_tie_5 (by decide) rfl ?_
    refine g_aload_n 1 S dX7_tie_7 rfl ?_
    refine g_iload_n 3 S dX7_tie_8 rfl ?_
    obtain ⟨r5, hr5, hf⟩ := bd1_some hf
    refine g_cVQ (st := []) S ob_50 rfl ok_X7_lineAt lk_X7_150 (c_X7_lineAt hr5) rfl rfl ⟨by decide, by decide⟩ (rmD_z _) (Nat.le_of_ble_eq_true rfl) dX7_tie_9 ?_
    rcases r5 with _ | n6
    · have hf := mq_n hf
      refine Go.st (st' := [.null]) rfl ?_
      refine g_astoreN (lv' := [(5, .null), (4, .ref (a.2 n2)), (0, .ref (a.2 50)), (1, .int p1), (2, .int p2), (3, .int p3)]) S dX7_tie_12 (by decide) rfl ?_
      refine g_aload 1 S dX7_tie_14 rfl ?_
      refine g_ifnull S dX7_tie_16 ?_
      refine g_aloadN 0 S dX7_tie_19 rfl ?_
      refine g_ifnullN (tgt := 37) S dX7_tie_21 (by decide) ?_
      refine g_iconst (v := (-1)) S dX7_tie_37 rfl ?_
      exact g_iretM rt hf dX7_tie_38
    · have hn6 := vd_X7_lineAt hr5
      have hf := mq_s hf
      refine Go.st (st' := [.ref (a.2 n6)]) rfl ?_
      refine g_astore (lv' := [(5, .ref (a.2 n6)), (4, .ref (a.2 n2)), (0, .ref (a.2 50)), (1, .int p1), (2, .int p2), (3, .int p3)]) S dX7_tie_12 (by decide) rfl ?_
      refine g_aload 1 S dX7_tie_14 rfl ?_
      refine g_ifnull S dX7_tie_16 ?_
      refine g_aload 0 S dX7_tie_19 rfl ?_
      refine g_ifnull S dX7_tie_21 ?_
      refine g_iload_n 5 S dX7_tie_24 rfl ?_
      refine g_iconst (v := 1) S dX7_tie_25 rfl ?_
      refine g_aload 0 S dX7_tie_26 rfl ?_
      refine g_get (v := .int (M n6 0)) S (ob_L hn6) rfl gi_X3 (by decide) lf_X7_154 rfl dX7_tie_28 ?_
      obtain ⟨r7, hr7, hf⟩ := bd1_some hf
      refine g_cSI (st := []) S ok_X7_within lk_X7_99 (c_X7_within hr7) rfl rfl ⟨by decide, by decide⟩ (rmD_z _) (Nat.le_of_ble_eq_true rfl) dX7_tie_31 ?_
      refine g_if_neB (tgt := 39) S dX7_tie_34 (by decide) hf (fun c hf => ?_) (fun c hf => ?_)
      · refine g_aload 1 S dX7_tie_39 rfl ?_
        refine g_get (v := .int (M n2 5)) S (ob_K hn2) rfl gi_X2 (by decide) lf_X7_157 rfl dX7_tie_41 ?_
        refine g_iconst (v := (-1)) S dX7_tie_44 rfl ?_
        refine g_icmp_eq (tgt := 51) S dX7_tie_45 (by decide) hf (fun c hf => ?_) (fun c hf => ?_)
        · refine g_aload 1 S dX7_tie_51 rfl ?_
          refine g_iload_n 4 S dX7_tie_53 rfl ?_
          refine g_put (ty := .int) S (ob_K hn2) rfl gi_X2 tyX2_ok nmX2 (by decide) lf_X7_157 rfl (by decide +kernel) rfl rfl (Nat.le_of_ble_eq_true rfl) rfl dX7_tie_54 ?_
          refine g_aload 1 S dX7_tie_57 rfl ?_
          refine g_iload_n 5 S dX7_tie_59 rfl ?_
          refine g_put (ty := .int) S (ob_K hn2) rfl gi_X2 tyX2_ok nmX2 (by decide) lf_X7_160 rfl (by decide +kernel) rfl rfl (Nat.le_of_ble_eq_true rfl) rfl dX7_tie_60 ?_
          refine g_aload_n 2 S dX7_tie_63 rfl ?_
          refine g_iload_n 4 S dX7_tie_64 rfl ?_
          obtain ⟨r8, hr8, hf⟩ := bd1_some hf
          refine g_cVI (st := []) S ob_50 rfl ok_X7_kitesOn lk_X7_163 (c_X7_kitesOn hr8) rfl rfl ⟨by decide, by decide⟩ (rmD_z _) (Nat.le_of_ble_eq_true rfl) dX7_tie_65 ?_
          exact g_iretM rt hf dX7_tie_68
        · refine g_bipush (v := (-2)) S dX7_tie_48 rfl ?_
          exact g_iretM rt hf dX7_tie_50
      · refine g_iconst (v := (-1)) S dX7_tie_37 rfl ?_
        exact g_iretM rt hf dX7_tie_38
-- BridleBook.untie(I)I
theorem dX7_untie_0 : decode cX7_untie 0 = .ok (.aload_n 0, 1) := by decide +kernel
theorem dX7_untie_1 : decode cX7_untie 1 = .ok (.iload_n 1, 1) := by decide +kernel
theorem dX7_untie_2 : decode cX7_untie 2 = .ok (.invokevirtual 95, 3) := by decide +kernel
theorem dX7_untie_5 : decode cX7_untie 5 = .ok (.astore_n 2, 1) := by decide +kernel
theorem dX7_untie_6 : decode cX7_untie 6 = .ok (.aload_n 2, 1) := by decide +kernel
theorem dX7_untie_7 : decode cX7_untie 7 = .ok (.ifnonnull 5, 3) := by decide +kernel
theorem dX7_untie_10 : decode cX7_untie 10 = .ok (.iconst (-1), 1) := by decide +kernel
theorem dX7_untie_11 : decode cX7_untie 11 = .ok (.ireturn, 1) := by decide +kernel
theorem dX7_untie_12 : decode cX7_untie 12 = .ok (.aload_n 2, 1) := by decide +kernel
theorem dX7_untie_13 : decode cX7_untie 13 = .ok (.getfield 157, 3) := by decide +kernel
theorem dX7_untie_16 : decode cX7_untie 16 = .ok (.iconst (-1), 1) := by decide +kernel
theorem dX7_untie_17 : decode cX7_untie 17 = .ok (.if_icmp .ne 6, 3) := by decide +kernel
theorem dX7_untie_20 : decode cX7_untie 20 = .ok (.bipush (-2), 2) := by decide +kernel
theorem dX7_untie_22 : decode cX7_untie 22 = .ok (.ireturn, 1) := by decide +kernel
theorem dX7_untie_23 : decode cX7_untie 23 = .ok (.aload_n 2, 1) := by decide +kernel
theorem dX7_untie_24 : decode cX7_untie 24 = .ok (.getfield 157, 3) := by decide +kernel
theorem dX7_untie_27 : decode cX7_untie 27 = .ok (.istore_n 3, 1) := by decide +kernel
theorem dX7_untie_28 : decode cX7_untie 28 = .ok (.aload_n 2, 1) := by decide +kernel
theorem dX7_untie_29 : decode cX7_untie 29 = .ok (.iconst (-1), 1) := by decide +kernel
theorem dX7_untie_30 : decode cX7_untie 30 = .ok (.putfield 157, 3) := by decide +kernel
theorem dX7_untie_33 : decode cX7_untie 33 = .ok (.iload_n 3, 1) := by decide +kernel
theorem dX7_untie_34 : decode cX7_untie 34 = .ok (.ireturn, 1) := by decide +kernel
def f_X7_untie (z : Nat → Nat) (M : Mem) (p1 : Int32) : Option (Int32 × Mem) := bd1 (f_X7_kiteAt z M p1) (fun r1 => mq r1 (some ((-1), M)) (fun n2 => if (M n2 5) = (-1) then some ((-2), M) else some ((M n2 5), (mu M n2 5 (-1)))))
theorem c_X7_untie {l : Launch} {G : GG} {a : AA} {M : Mem} {p1 : Int32} {r : Int32} {M' : Mem} (hf : f_X7_untie a.1 M p1 = some (r, M')) : CtI l G a yX7_untie cX7_untie 4 .int (rmD 2) [.ref (a.2 50), .int p1] M r M' := by
  refine ct_I (by decide) rfl rfl (own := RX7) (Nat.le_of_ble_eq_true rfl) (fun K hl hg S rt => ?_)
  subst hl; subst hg
  unfold f_X7_untie at hf
  show Go K 4 a M 0 [(0, .ref (a.2 50)), (1, .int p1)] []
  refine g_aload_n 0 S dX7_untie_0 rfl ?_
  refine g_iload_n 1 S dX7_untie_1 rfl ?_
  obtain ⟨r1, hr1, hf⟩ := bd1_some hf
  refine g_cVQ (st := []) S ob_50 rfl ok_X7_kiteAt lk_X7_95 (c_X7_kiteAt hr1) rfl rfl ⟨by decide, by decide⟩ (rmD_z _) (Nat.le_of_ble_eq_true rfl) dX7_untie_2 ?_
  rcases r1 with _ | n2
  · have hf := mq_n hf
    refine Go.st (st' := [.null]) rfl ?_
    refine g_astore_nN (lv' := [(2, .null), (0, .ref (a.2 50)), (1, .int p1)]) S dX7_untie_5 (by decide) rfl ?_
    refine g_aload_nN 0 S dX7_untie_6 rfl ?_
    refine g_ifnonnullN S dX7_untie_7 ?_
    refine g_iconst (v := (-1)) S dX7_untie_10 rfl ?_
    exact g_iretM rt hf dX7_untie_11
  · have hn2 := vd_X7_kiteAt hr1
    have hf := mq_s hf
    refine Go.st (st' := [.ref (a.2 n2)]) rfl ?_
    refine g_astore_n (lv' := [(2, .ref (a.2 n2)), (0, .ref (a.2 50)), (1, .int p1)]) S dX7_untie_5 (by decide) rfl ?_
    refine g_aload_n 0 S dX7_untie_6 rfl ?_
    refine g_ifnonnull (tgt := 12) S dX7_untie_7 (by decide) ?_
    refine g_aload_n 0 S dX7_untie_12 rfl ?_
    refine g_get (v := .int (M n2 5)) S (ob_K hn2) rfl gi_X2 (by decide) lf_X7_157 rfl dX7_untie_13 ?_
    refine g_iconst (v := (-1)) S dX7_untie_16 rfl ?_
    refine g_icmp_ne (tgt := 23) S dX7_untie_17 (by decide) hf (fun c hf => ?_) (fun c hf => ?_)
    · refine g_bipush (v := (-2)) S dX7_untie_20 rfl ?_
      exact g_iretM rt hf dX7_untie_22
    · refine g_aload_n 0 S dX7_untie_23 rfl ?_
      refine g_get (v := .int (M n2 5)) S (ob_K hn2) rfl gi_X2 (by decide) lf_X7_157 rfl dX7_untie_24 ?_
      refine g_istore_n (lv' := [(3, .int (M n2 5)), (2, .ref (a.2 n2)), (0, .ref (a.2 50)), (1, .int p1)]) S dX7_untie_27 (by decide) rfl ?_
      refine g_aload_n 1 S dX7_untie_28 rfl ?_
      refine g_iconst (v := (-1)) S dX7_untie_29 rfl ?_
      refine g_put (ty := .int) S (ob_K hn2) rfl gi_X2 tyX2_ok nmX2 (by decide) lf_X7_157 rfl (by decide +kernel) rfl rfl (Nat.le_of_ble_eq_true rfl) rfl dX7_untie_30 ?_
      refine g_iload_n 0 S dX7_untie_33 rfl ?_
      exact g_iretM rt hf dX7_untie_34
-- BridleBook.weaken(II)I
theorem dX7_weaken_0 : decode cX7_weaken 0 = .ok (.aload_n 0, 1) := by decide +kernel
theorem dX7_weaken_1 : decode cX7_weaken 1 = .ok (.iload_n 1, 1) := by decide +kernel
theorem dX7_weaken_2 : decode cX7_weaken 2 = .ok (.invokevirtual 150, 3) := by decide +kernel
theorem dX7_weaken_5 : decode cX7_weaken 5 = .ok (.astore_n 3, 1) := by decide +kernel
theorem dX7_weaken_6 : decode cX7_weaken 6 = .ok (.aload_n 3, 1) := by decide +kernel
theorem dX7_weaken_7 : decode cX7_weaken 7 = .ok (.ifnull 23, 3) := by decide +kernel
theorem dX7_weaken_10 : decode cX7_weaken 10 = .ok (.iload_n 2, 1) := by decide +kernel
theorem dX7_weaken_11 : decode cX7_weaken 11 = .ok (.iconst 1, 1) := by decide +kernel
theorem dX7_weaken_12 : decode cX7_weaken 12 = .ok (.aload_n 3, 1) := by decide +kernel
theorem dX7_weaken_13 : decode cX7_weaken 13 = .ok (.getfield 154, 3) := by decide +kernel
theorem dX7_weaken_16 : decode cX7_weaken 16 = .ok (.invokestatic 99, 3) := by decide +kernel
theorem dX7_weaken_19 : decode cX7_weaken 19 = .ok (.ifCond .eq 11, 3) := by decide +kernel
theorem dX7_weaken_22 : decode cX7_weaken 22 = .ok (.aload_n 3, 1) := by decide +kernel
theorem dX7_weaken_23 : decode cX7_weaken 23 = .ok (.iload_n 2, 1) := by decide +kernel
theorem dX7_weaken_24 : decode cX7_weaken 24 = .ok (.invokevirtual 167, 3) := by decide +kernel
theorem dX7_weaken_27 : decode cX7_weaken 27 = .ok (.ifCond .eq 5, 3) := by decide +kernel
theorem dX7_weaken_30 : decode cX7_weaken 30 = .ok (.iconst (-1), 1) := by decide +kernel
theorem dX7_weaken_31 : decode cX7_weaken 31 = .ok (.ireturn, 1) := by decide +kernel
theorem dX7_weaken_32 : decode cX7_weaken 32 = .ok (.aload_n 3, 1) := by decide +kernel
theorem dX7_weaken_33 : decode cX7_weaken 33 = .ok (.iload_n 2, 1) := by decide +kernel
theorem dX7_weaken_34 : decode cX7_weaken 34 = .ok (.invokevirtual 170, 3) := by decide +kernel
theorem dX7_weaken_37 : decode cX7_weaken 37 = .ok (.ireturn, 1) := by decide +kernel
def f_X7_weaken (z : Nat → Nat) (M : Mem) (p1 : Int32) (p2 : Int32) : Option (Int32 × Mem) := bd1 (f_X7_lineAt z M p1) (fun r1 => mq r1 (some ((-1), M)) (fun n2 => bd1 (f_X7_within z M p2 1 (M n2 0)) (fun r3 => if r3 = true then bd1 (f_X3_hasKnotAt z n2 M p2) (fun r4 => if r4 = true then some ((-1), M) else bd2 (f_X3_addKnot z n2 M p2) (fun r5 M6 => some (r5, M6))) else some ((-1), M))))
theorem c_X7_weaken {l : Launch} {G : GG} {a : AA} {M : Mem} {p1 : Int32} {p2 : Int32} {r : Int32} {M' : Mem} (hf : f_X7_weaken a.1 M p1 p2 = some (r, M')) : CtI l G a yX7_weaken cX7_weaken 4 .int (rmD 2) [.ref (a.2 50), .int p1, .int p2] M r M' := by
  refine ct_I (by decide) rfl rfl (own := RX7) (Nat.le_of_ble_eq_true rfl) (fun K hl hg S rt => ?_)
  subst hl; subst hg
  unfold f_X7_weaken at hf
  show Go K 4 a M 0 [(0, .ref (a.2 50)), (1, .int p1), (2, .int p2)] []
  refine g_aload_n 0 S dX7_weaken_0 rfl ?_
  refine g_iload_n 1 S dX7_weaken_1 rfl ?_
  obtain ⟨r1, hr1, hf⟩ := bd1_some hf
  refine g_cVQ (st := []) S ob_50 rfl ok_X7_lineAt lk_X7_150 (c_X7_lineAt hr1) rfl rfl ⟨by decide, by decide⟩ (rmD_z _) (Nat.le_of_ble_eq_true rfl) dX7_weaken_2 ?_
  rcases r1 with _ | n2
  · have hf := mq_n hf
    refine Go.st (st' := [.null]) rfl ?_
    refine g_astore_nN (lv' := [(3, .null), (0, .ref (a.2 50)), (1, .int p1), (2, .int p2)]) S dX7_weaken_5 (by decide) rfl ?_
    refine g_aload_nN 0 S dX7_weaken_6 rfl ?_
    refine g_ifnullN (tgt := 30) S dX7_weaken_7 (by decide) ?_
    refine g_iconst (v := (-1)) S dX7_weaken_30 rfl ?_
    exact g_iretM rt hf dX7_weaken_31
  · have hn2 := vd_X7_lineAt hr1
    have hf := mq_s hf
    refine Go.st (st' := [.ref (a.2 n2)]) rfl ?_
    refine g_astore_n (lv' := [(3, .ref (a.2 n2)), (0, .ref (a.2 50)), (1, .int p1), (2, .int p2)]) S dX7_weaken_5 (by decide) rfl ?_
    refine g_aload_n 0 S dX7_weaken_6 rfl ?_
    refine g_ifnull S dX7_weaken_7 ?_
    refine g_iload_n 3 S dX7_weaken_10 rfl ?_
    refine g_iconst (v := 1) S dX7_weaken_11 rfl ?_
    refine g_aload_n 0 S dX7_weaken_12 rfl ?_
    refine g_get (v := .int (M n2 0)) S (ob_L hn2) rfl gi_X3 (by decide) lf_X7_154 rfl dX7_weaken_13 ?_
    obtain ⟨r3, hr3, hf⟩ := bd1_some hf
    refine g_cSI (st := []) S ok_X7_within lk_X7_99 (c_X7_within hr3) rfl rfl ⟨by decide, by decide⟩ (rmD_z _) (Nat.le_of_ble_eq_true rfl) dX7_weaken_16 ?_
    refine g_if_eqB (tgt := 30) S dX7_weaken_19 (by decide) hf (fun c hf => ?_) (fun c hf => ?_)
    · refine g_aload_n 0 S dX7_weaken_22 rfl ?_
      refine g_iload_n 3 S dX7_weaken_23 rfl ?_
      obtain ⟨r4, hr4, hf⟩ := bd1_some hf
      refine g_cVI (st := []) S (ob_L hn2) rfl ok_X3_hasKnotAt lk_X7_167 (c_X3_hasKnotAt hn2 hr4) rfl rfl ⟨by decide, by decide⟩ (rmD_z _) (Nat.le_of_ble_eq_true rfl) dX7_weaken_24 ?_
      refine g_if_eqB (tgt := 32) S dX7_weaken_27 (by decide) hf (fun c hf => ?_) (fun c hf => ?_)
      · refine g_iconst (v := (-1)) S dX7_weaken_30 rfl ?_
        exact g_iretM rt hf dX7_weaken_31
      · refine g_aload_n 0 S dX7_weaken_32 rfl ?_
        refine g_iload_n 3 S dX7_weaken_33 rfl ?_
        obtain ⟨r5, M6, hr5, hf⟩ := bd2_some hf
        refine g_cVI (st := []) S (ob_L hn2) rfl ok_X3_addKnot lk_X7_170 (c_X3_addKnot hn2 hr5) rfl rfl ⟨by decide, by decide⟩ (rmD_z _) (Nat.le_of_ble_eq_true rfl) dX7_weaken_34 ?_
        exact g_iretM rt hf dX7_weaken_37
    · refine g_iconst (v := (-1)) S dX7_weaken_30 rfl ?_
      exact g_iretM rt hf dX7_weaken_31
-- BridleBook.windAt(I)I
theorem dX7_windAt_0 : decode cX7_windAt 0 = .ok (.iconst 0, 1) := by decide +kernel
theorem dX7_windAt_1 : decode cX7_windAt 1 = .ok (.iload_n 1, 1) := by decide +kernel
theorem dX7_windAt_2 : decode cX7_windAt 2 = .ok (.bipush 10, 2) := by decide +kernel
theorem dX7_windAt_4 : decode cX7_windAt 4 = .ok (.idiv, 1) := by decide +kernel
theorem dX7_windAt_5 : decode cX7_windAt 5 = .ok (.bipush 19, 2) := by decide +kernel
theorem dX7_windAt_7 : decode cX7_windAt 7 = .ok (.invokestatic 272, 3) := by decide +kernel
theorem dX7_windAt_10 : decode cX7_windAt 10 = .ok (.invokestatic 277, 3) := by decide +kernel
theorem dX7_windAt_13 : decode cX7_windAt 13 = .ok (.istore_n 2, 1) := by decide +kernel
theorem dX7_windAt_14 : decode cX7_windAt 14 = .ok (.aload_n 0, 1) := by decide +kernel
theorem dX7_windAt_15 : decode cX7_windAt 15 = .ok (.getfield 26, 3) := by decide +kernel
theorem dX7_windAt_18 : decode cX7_windAt 18 = .ok (.iload_n 2, 1) := by decide +kernel
theorem dX7_windAt_19 : decode cX7_windAt 19 = .ok (.iaload, 1) := by decide +kernel
theorem dX7_windAt_20 : decode cX7_windAt 20 = .ok (.ireturn, 1) := by decide +kernel
def f_X7_windAt (z : Nat → Nat) (M : Mem) (p1 : Int32) : Option Int32 := ck (inb (imax 0 (imin (p1 / 10) 19)) 20) (some (M 54 (Int32.toNatClampNeg (imax 0 (imin (p1 / 10) 19)))))
theorem c_X7_windAt {l : Launch} {G : GG} {a : AA} {M : Mem} {p1 : Int32} {r : Int32} (hf : f_X7_windAt a.1 M p1 = some r) : CtI l G a yX7_windAt cX7_windAt 3 .int (rmD 1) [.ref (a.2 50), .int p1] M r M := by
  refine ct_I (by decide) rfl rfl (own := RX7) (Nat.le_of_ble_eq_true rfl) (fun K hl hg S rt => ?_)
  subst hl; subst hg
  unfold f_X7_windAt at hf
  show Go K 3 a M 0 [(0, .ref (a.2 50)), (1, .int p1)] []
  refine g_iconst (v := 0) S dX7_windAt_0 rfl ?_
  refine g_iload_n 1 S dX7_windAt_1 rfl ?_
  refine g_bipush (v := 10) S dX7_windAt_2 rfl ?_
  refine g_idiv S dX7_windAt_4 (by decide) ?_
  refine g_bipush (v := 19) S dX7_windAt_5 rfl ?_
  refine g_mmin S lk_X7_272 (by decide) (Nat.le_of_ble_eq_true rfl) dX7_windAt_7 ?_
  refine g_mmax S lk_X7_277 (by decide) (Nat.le_of_ble_eq_true rfl) dX7_windAt_10 ?_
  refine g_istore_n (lv' := [(2, .int (imax 0 (imin (p1 / 10) 19))), (0, .ref (a.2 50)), (1, .int p1)]) S dX7_windAt_13 (by decide) rfl ?_
  refine g_aload_n 1 S dX7_windAt_14 rfl ?_
  refine g_get (v := .ref (a.2 54)) S ob_50 rfl gi_X7 (by decide) lf_X7_26 rfl dX7_windAt_15 ?_
  refine g_iload_n 0 S dX7_windAt_18 rfl ?_
  refine g_iald S ia_54 dX7_windAt_19 hf (fun hf => ?_)
  exact g_iretP rt hf dX7_windAt_20
-- BridleBook.liftsOf(ILBridleBook$Line;I)I
theorem dX7_liftsOf_0 : decode cX7_liftsOf 0 = .ok (.aload_n 2, 1) := by decide +kernel
theorem dX7_liftsOf_1 : decode cX7_liftsOf 1 = .ok (.getfield 154, 3) := by decide +kernel
theorem dX7_liftsOf_4 : decode cX7_liftsOf 4 = .ok (.ineg, 1) := by decide +kernel
theorem dX7_liftsOf_5 : decode cX7_liftsOf 5 = .ok (.aload_n 2, 1) := by decide +kernel
theorem dX7_liftsOf_6 : decode cX7_liftsOf 6 = .ok (.getfield 280, 3) := by decide +kernel
theorem dX7_liftsOf_9 : decode cX7_liftsOf 9 = .ok (.imul, 1) := by decide +kernel
theorem dX7_liftsOf_10 : decode cX7_liftsOf 10 = .ok (.istore 4, 2) := by decide +kernel
theorem dX7_liftsOf_12 : decode cX7_liftsOf 12 = .ok (.iconst 0, 1) := by decide +kernel
theorem dX7_liftsOf_13 : decode cX7_liftsOf 13 = .ok (.istore 5, 2) := by decide +kernel
theorem dX7_liftsOf_15 : decode cX7_liftsOf 15 = .ok (.iload 5, 2) := by decide +kernel
theorem dX7_liftsOf_17 : decode cX7_liftsOf 17 = .ok (.aload_n 0, 1) := by decide +kernel
theorem dX7_liftsOf_18 : decode cX7_liftsOf 18 = .ok (.getfield 22, 3) := by decide +kernel
theorem dX7_liftsOf_21 : decode cX7_liftsOf 21 = .ok (.if_icmp .ge 83, 3) := by decide +kernel
theorem dX7_liftsOf_24 : decode cX7_liftsOf 24 = .ok (.aload_n 0, 1) := by decide +kernel
theorem dX7_liftsOf_25 : decode cX7_liftsOf 25 = .ok (.iload 5, 2) := by decide +kernel
theorem dX7_liftsOf_27 : decode cX7_liftsOf 27 = .ok (.invokevirtual 95, 3) := by decide +kernel
theorem dX7_liftsOf_30 : decode cX7_liftsOf 30 = .ok (.astore 6, 2) := by decide +kernel
theorem dX7_liftsOf_32 : decode cX7_liftsOf 32 = .ok (.aload 6, 2) := by decide +kernel
theorem dX7_liftsOf_34 : decode cX7_liftsOf 34 = .ok (.ifnull 64, 3) := by decide +kernel
theorem dX7_liftsOf_37 : decode cX7_liftsOf 37 = .ok (.aload 6, 2) := by decide +kernel
theorem dX7_liftsOf_39 : decode cX7_liftsOf 39 = .ok (.getfield 157, 3) := by decide +kernel
theorem dX7_liftsOf_42 : decode cX7_liftsOf 42 = .ok (.iload_n 1, 1) := by decide +kernel
theorem dX7_liftsOf_43 : decode cX7_liftsOf 43 = .ok (.if_icmp .ne 55, 3) := by decide +kernel
theorem dX7_liftsOf_46 : decode cX7_liftsOf 46 = .ok (.iload_n 3, 1) := by decide +kernel
theorem dX7_liftsOf_47 : decode cX7_liftsOf 47 = .ok (.iconst (-1), 1) := by decide +kernel
theorem dX7_liftsOf_48 : decode cX7_liftsOf 48 = .ok (.if_icmp .ne 15, 3) := by decide +kernel
theorem dX7_liftsOf_51 : decode cX7_liftsOf 51 = .ok (.aload_n 0, 1) := by decide +kernel
theorem dX7_liftsOf_52 : decode cX7_liftsOf 52 = .ok (.aload 6, 2) := by decide +kernel
theorem dX7_liftsOf_54 : decode cX7_liftsOf 54 = .ok (.getfield 160, 3) := by decide +kernel
theorem dX7_liftsOf_57 : decode cX7_liftsOf 57 = .ok (.invokevirtual 283, 3) := by decide +kernel
theorem dX7_liftsOf_60 : decode cX7_liftsOf 60 = .ok (.goto 4, 3) := by decide +kernel
theorem dX7_liftsOf_63 : decode cX7_liftsOf 63 = .ok (.iload_n 3, 1) := by decide +kernel
theorem dX7_liftsOf_64 : decode cX7_liftsOf 64 = .ok (.istore 7, 2) := by decide +kernel
theorem dX7_liftsOf_66 : decode cX7_liftsOf 66 = .ok (.iload 4, 2) := by decide +kernel
theorem dX7_liftsOf_68 : decode cX7_liftsOf 68 = .ok (.aload 6, 2) := by decide +kernel
theorem dX7_liftsOf_70 : decode cX7_liftsOf 70 = .ok (.aload_n 0, 1) := by decide +kernel
theorem dX7_liftsOf_71 : decode cX7_liftsOf 71 = .ok (.getfield 10, 3) := by decide +kernel
theorem dX7_liftsOf_74 : decode cX7_liftsOf 74 = .ok (.iload 7, 2) := by decide +kernel
theorem dX7_liftsOf_76 : decode cX7_liftsOf 76 = .ok (.aload 6, 2) := by decide +kernel
theorem dX7_liftsOf_78 : decode cX7_liftsOf 78 = .ok (.aload_n 0, 1) := by decide +kernel
theorem dX7_liftsOf_79 : decode cX7_liftsOf 79 = .ok (.getfield 10, 3) := by decide +kernel
theorem dX7_liftsOf_82 : decode cX7_liftsOf 82 = .ok (.iload 7, 2) := by decide +kernel
theorem dX7_liftsOf_84 : decode cX7_liftsOf 84 = .ok (.aload 6, 2) := by decide +kernel
theorem dX7_liftsOf_86 : decode cX7_liftsOf 86 = .ok (.getfield 112, 3) := by decide +kernel
theorem dX7_liftsOf_89 : decode cX7_liftsOf 89 = .ok (.invokevirtual 139, 3) := by decide +kernel
theorem dX7_liftsOf_92 : decode cX7_liftsOf 92 = .ok (.invokevirtual 128, 3) := by decide +kernel
theorem dX7_liftsOf_95 : decode cX7_liftsOf 95 = .ok (.iadd, 1) := by decide +kernel
theorem dX7_liftsOf_96 : decode cX7_liftsOf 96 = .ok (.istore 4, 2) := by decide +kernel
theorem dX7_liftsOf_98 : decode cX7_liftsOf 98 = .ok (.iinc 5 1, 3) := by decide +kernel
theorem dX7_liftsOf_101 : decode cX7_liftsOf 101 = .ok (.goto (-86), 3) := by decide +kernel
theorem dX7_liftsOf_104 : decode cX7_liftsOf 104 = .ok (.iload 4, 2) := by decide +kernel
theorem dX7_liftsOf_106 : decode cX7_liftsOf 106 = .ok (.ireturn, 1) := by decide +kernel
def f_X7_liftsOf_15 (z : Nat → Nat) (u2 : Nat) (M : Mem) : Nat → Int32 → Int32 → Int32 → Int32 → Option Int32
  | 0, _, _, _, _ => none
  | fu + 1, x1, x3, x4, x5 => if (M 50 2) ≤ x5 then some x4 else bd1 (f_X7_kiteAt z M x5) (fun r1 => mq r1 (f_X7_liftsOf_15 z u2 M fu x1 x3 x4 (x5 + 1)) (fun n2 => if (M n2 5) = x1 then if x3 = (-1) then bd1 (f_X7_windAt z M (M n2 6)) (fun r3 => bd1 (f_X2_standingAngle z n2 M r3 (M n2 4)) (fun r4 => bd1 (f_X2_upAt z n2 M r3 r4) (fun r5 => f_X7_liftsOf_15 z u2 M fu x1 x3 (x4 + r5) (x5 + 1)))) else bd1 (f_X2_standingAngle z n2 M x3 (M n2 4)) (fun r6 => bd1 (f_X2_upAt z n2 M x3 r6) (fun r7 => f_X7_liftsOf_15 z u2 M fu x1 x3 (x4 + r7) (x5 + 1))) else f_X7_liftsOf_15 z u2 M fu x1 x3 x4 (x5 + 1)))
theorem t_X7_liftsOf_15 {K : KK} {a : AA} {u2 : Nat} (hu2 : vL a.1 u2) (S : Sx K RX7 cX7_liftsOf 8 (rmD 5)) {r : Int32} {M : Mem} (rt : RtI K a cX7_liftsOf r M) : ∀ (fu : Nat) (x1 : Int32) (x3 : Int32) (x4 : Int32) (x5 : Int32), f_X7_liftsOf_15 a.1 u2 M fu x1 x3 x4 x5 = some r → Go K 8 a M 15 [(0, .ref (a.2 50)), (1, .int x1), (3, .int x3), (4, .int x4), (5, .int x5)] [] := by
  intro fu
  induction fu with
  | zero => intro x1 x3 x4 x5 hf; exact absurd hf (by simp [f_X7_liftsOf_15])
  | succ fu ih =>
    intro x1 x3 x4 x5 hf
    rw [f_X7_liftsOf_15] at hf
    refine g_iload 4 S dX7_liftsOf_15 rfl ?_
    refine g_aload_n 0 S dX7_liftsOf_17 rfl ?_
    refine g_get (v := .int (M 50 2)) S ob_50 rfl gi_X7 (by decide) lf_X7_22 rfl dX7_liftsOf_18 ?_
    refine g_icmp_ge (tgt := 104) S dX7_liftsOf_21 (by decide) hf (fun c hf => ?_) (fun c hf => ?_)
    · refine g_iload 3 S dX7_liftsOf_104 rfl ?_
      exact g_iretP rt hf dX7_liftsOf_106
    · refine g_aload_n 0 S dX7_liftsOf_24 rfl ?_
      refine g_iload 4 S dX7_liftsOf_25 rfl ?_
      obtain ⟨r1, hr1, hf⟩ := bd1_some hf
      refine g_cVQ (st := []) S ob_50 rfl ok_X7_kiteAt lk_X7_95 (c_X7_kiteAt hr1) rfl rfl ⟨by decide, by decide⟩ (rmD_z _) (Nat.le_of_ble_eq_true rfl) dX7_liftsOf_27 ?_
      rcases r1 with _ | n2
      · have hf := mq_n hf
        refine Go.st (st' := [.null]) rfl ?_
        refine g_astoreN (lv' := [(6, .null), (0, .ref (a.2 50)), (1, .int x1), (3, .int x3), (4, .int x4), (5, .int x5)]) S dX7_liftsOf_30 (by decide) rfl ?_
        refine g_aloadN 0 S dX7_liftsOf_32 rfl ?_
        refine g_ifnullN (tgt := 98) S dX7_liftsOf_34 (by decide) ?_
        refine g_iinc (v := (x5 + 1)) (lv' := [(5, .int (x5 + 1)), (6, .null), (0, .ref (a.2 50)), (1, .int x1), (3, .int x3), (4, .int x4)]) 5 S dX7_liftsOf_98 rfl rfl (by decide) rfl ?_
        refine g_goto (tgt := 15) S dX7_liftsOf_101 (by decide) ?_
        refine Go.sub [2, 3, 4, 5, 0] rfl ?_
        exact ih _ _ _ _ hf
      · have hn2 := vd_X7_kiteAt hr1
        have hf := mq_s hf
        refine Go.st (st' := [.ref (a.2 n2)]) rfl ?_
        refine g_astore (lv' := [(6, .ref (a.2 n2)), (0, .ref (a.2 50)), (1, .int x1), (3, .int x3), (4, .int x4), (5, .int x5)]) S dX7_liftsOf_30 (by decide) rfl ?_
        refine g_aload 0 S dX7_liftsOf_32 rfl ?_
        refine g_ifnull S dX7_liftsOf_34 ?_
        refine g_aload 0 S dX7_liftsOf_37 rfl ?_
        refine g_get (v := .int (M n2 5)) S (ob_K hn2) rfl gi_X2 (by decide) lf_X7_157 rfl dX7_liftsOf_39 ?_
        refine g_iload_n 2 S dX7_liftsOf_42 rfl ?_
        refine g_icmp_ne (tgt := 98) S dX7_liftsOf_43 (by decide) hf (fun c hf => ?_) (fun c hf => ?_)
        · refine g_iload_n 3 S dX7_liftsOf_46 rfl ?_
          refine g_iconst (v := (-1)) S dX7_liftsOf_47 rfl ?_
          refine g_icmp_ne (tgt := 63) S dX7_liftsOf_48 (by decide) hf (fun c hf => ?_) (fun c hf => ?_)
          · refine g_aload_n 1 S dX7_liftsOf_51 rfl ?_
            refine g_aload 0 S dX7_liftsOf_52 rfl ?_
            refine g_get (v := .int (M n2 6)) S (ob_K hn2) rfl gi_X2 (by decide) lf_X7_160 rfl dX7_liftsOf_54 ?_
            obtain ⟨r3, hr3, hf⟩ := bd1_some hf
            refine g_cVI (st := []) S ob_50 rfl ok_X7_windAt lk_X7_283 (c_X7_windAt hr3) rfl rfl ⟨by decide, by decide⟩ (rmD_z _) (Nat.le_of_ble_eq_true rfl) dX7_liftsOf_57 ?_
            refine g_goto (tgt := 64) S dX7_liftsOf_60 (by decide) ?_
            refine g_istore (lv' := [(7, .int r3), (6, .ref (a.2 n2)), (0, .ref (a.2 50)), (1, .int x1), (3, .int x3), (4, .int x4), (5, .int x5)]) S dX7_liftsOf_64 (by decide) rfl ?_
            refine g_iload 5 S dX7_liftsOf_66 rfl ?_
            refine g_aload 1 S dX7_liftsOf_68 rfl ?_
            refine g_aload_n 2 S dX7_liftsOf_70 rfl ?_
            refine g_get (v := .ref (a.2 51)) S ob_50 rfl gi_X7 (by decide) lf_X7_10 rfl dX7_liftsOf_71 ?_
            refine g_iload 0 S dX7_liftsOf_74 rfl ?_
            refine g_aload 1 S dX7_liftsOf_76 rfl ?_
            refine g_aload_n 2 S dX7_liftsOf_78 rfl ?_
            refine g_get (v := .ref (a.2 51)) S ob_50 rfl gi_X7 (by decide) lf_X7_10 rfl dX7_liftsOf_79 ?_
            refine g_iload 0 S dX7_liftsOf_82 rfl ?_
            refine g_aload 1 S dX7_liftsOf_84 rfl ?_
            refine g_get (v := .int (M n2 4)) S (ob_K hn2) rfl gi_X2 (by decide) lf_X7_112 rfl dX7_liftsOf_86 ?_
            obtain ⟨r4, hr4, hf⟩ := bd1_some hf
            refine g_cVI (st := [.int r3, .ref (a.2 51), .ref (a.2 n2), .int x4]) S (ob_K hn2) rfl ok_X2_standingAngle lk_X7_139 (c_X2_standingAngle hn2 hr4) rfl rfl ⟨by decide, by decide⟩ (rmD_z _) (Nat.le_of_ble_eq_true rfl) dX7_liftsOf_89 ?_
            obtain ⟨r5, hr5, hf⟩ := bd1_some hf
            refine g_cVI (st := [.int x4]) S (ob_K hn2) rfl ok_X2_upAt lk_X7_128 (c_X2_upAt hn2 hr5) rfl rfl ⟨by decide, by decide⟩ (rmD_z _) (Nat.le_of_ble_eq_true rfl) dX7_liftsOf_92 ?_
            refine g_iadd S dX7_liftsOf_95 ?_
            refine g_istore (lv' := [(4, .int (x4 + r5)), (7, .int r3), (6, .ref (a.2 n2)), (0, .ref (a.2 50)), (1, .int x1), (3, .int x3), (5, .int x5)]) S dX7_liftsOf_96 (by decide) rfl ?_
            refine g_iinc (v := (x5 + 1)) (lv' := [(5, .int (x5 + 1)), (4, .int (x4 + r5)), (7, .int r3), (6, .ref (a.2 n2)), (0, .ref (a.2 50)), (1, .int x1), (3, .int x3)]) 6 S dX7_liftsOf_98 rfl rfl (by decide) rfl ?_
            refine g_goto (tgt := 15) S dX7_liftsOf_101 (by decide) ?_
            refine Go.sub [4, 5, 6, 1, 0] rfl ?_
            exact ih _ _ _ _ hf
          · refine g_iload_n 3 S dX7_liftsOf_63 rfl ?_
            refine g_istore (lv' := [(7, .int x3), (6, .ref (a.2 n2)), (0, .ref (a.2 50)), (1, .int x1), (3, .int x3), (4, .int x4), (5, .int x5)]) S dX7_liftsOf_64 (by decide) rfl ?_
            refine g_iload 5 S dX7_liftsOf_66 rfl ?_
            refine g_aload 1 S dX7_liftsOf_68 rfl ?_
            refine g_aload_n 2 S dX7_liftsOf_70 rfl ?_
            refine g_get (v := .ref (a.2 51)) S ob_50 rfl gi_X7 (by decide) lf_X7_10 rfl dX7_liftsOf_71 ?_
            refine g_iload 0 S dX7_liftsOf_74 rfl ?_
            refine g_aload 1 S dX7_liftsOf_76 rfl ?_
            refine g_aload_n 2 S dX7_liftsOf_78 rfl ?_
            refine g_get (v := .ref (a.2 51)) S ob_50 rfl gi_X7 (by decide) lf_X7_10 rfl dX7_liftsOf_79 ?_
            refine g_iload 0 S dX7_liftsOf_82 rfl ?_
            refine g_aload 1 S dX7_liftsOf_84 rfl ?_
            refine g_get (v := .int (M n2 4)) S (ob_K hn2) rfl gi_X2 (by decide) lf_X7_112 rfl dX7_liftsOf_86 ?_
            obtain ⟨r6, hr6, hf⟩ := bd1_some hf
            refine g_cVI (st := [.int x3, .ref (a.2 51), .ref (a.2 n2), .int x4]) S (ob_K hn2) rfl ok_X2_standingAngle lk_X7_139 (c_X2_standingAngle hn2 hr6) rfl rfl ⟨by decide, by decide⟩ (rmD_z _) (Nat.le_of_ble_eq_true rfl) dX7_liftsOf_89 ?_
            obtain ⟨r7, hr7, hf⟩ := bd1_some hf
            refine g_cVI (st := [.int x4]) S (ob_K hn2) rfl ok_X2_upAt lk_X7_128 (c_X2_upAt hn2 hr7) rfl rfl ⟨by decide, by decide⟩ (rmD_z _) (Nat.le_of_ble_eq_true rfl) dX7_liftsOf_92 ?_
            refine g_iadd S dX7_liftsOf_95 ?_
            refine g_istore (lv' := [(4, .int (x4 + r7)), (7, .int x3), (6, .ref (a.2 n2)), (0, .ref (a.2 50)), (1, .int x1), (3, .int x3), (5, .int x5)]) S dX7_liftsOf_96 (by decide) rfl ?_
            refine g_iinc (v := (x5 + 1)) (lv' := [(5, .int (x5 + 1)), (4, .int (x4 + r7)), (7, .int x3), (6, .ref (a.2 n2)), (0, .ref (a.2 50)), (1, .int x1), (3, .int x3)]) 6 S dX7_liftsOf_98 rfl rfl (by decide) rfl ?_
            refine g_goto (tgt := 15) S dX7_liftsOf_101 (by decide) ?_
            refine Go.sub [4, 5, 6, 1, 0] rfl ?_
            exact ih _ _ _ _ hf
        · refine g_iinc (v := (x5 + 1)) (lv' := [(5, .int (x5 + 1)), (6, .ref (a.2 n2)), (0, .ref (a.2 50)), (1, .int x1), (3, .int x3), (4, .int x4)]) 5 S dX7_liftsOf_98 rfl rfl (by decide) rfl ?_
          refine g_goto (tgt := 15) S dX7_liftsOf_101 (by decide) ?_
          refine Go.sub [2, 3, 4, 5, 0] rfl ?_
          exact ih _ _ _ _ hf
def f_X7_liftsOf (z : Nat → Nat) (u2 : Nat) (M : Mem) (p1 : Int32) (p3 : Int32) : Option Int32 := f_X7_liftsOf_15 z u2 M 1000 p1 p3 ((-(M u2 0)) * (M u2 2)) 0
theorem c_X7_liftsOf {l : Launch} {G : GG} {a : AA} {u2 : Nat} (hu2 : vL a.1 u2) {M : Mem} {p1 : Int32} {p3 : Int32} {r : Int32} (hf : f_X7_liftsOf a.1 u2 M p1 p3 = some r) : CtI l G a yX7_liftsOf cX7_liftsOf 8 .int (rmD 5) [.ref (a.2 50), .int p1, .ref (a.2 u2), .int p3] M r M := by
  refine ct_I (by decide) rfl rfl (own := RX7) (Nat.le_of_ble_eq_true rfl) (fun K hl hg S rt => ?_)
  subst hl; subst hg
  unfold f_X7_liftsOf at hf
  show Go K 8 a M 0 [(0, .ref (a.2 50)), (1, .int p1), (2, .ref (a.2 u2)), (3, .int p3)] []
  refine g_aload_n 2 S dX7_liftsOf_0 rfl ?_
  refine g_get (v := .int (M u2 0)) S (ob_L hu2) rfl gi_X3 (by decide) lf_X7_154 rfl dX7_liftsOf_1 ?_
  refine g_ineg S dX7_liftsOf_4 ?_
  refine g_aload_n 2 S dX7_liftsOf_5 rfl ?_
  refine g_get (v := .int (M u2 2)) S (ob_L hu2) rfl gi_X3 (by decide) lf_X7_280 rfl dX7_liftsOf_6 ?_
  refine g_imul S dX7_liftsOf_9 ?_
  refine g_istore (lv' := [(4, .int ((-(M u2 0)) * (M u2 2))), (0, .ref (a.2 50)), (1, .int p1), (2, .ref (a.2 u2)), (3, .int p3)]) S dX7_liftsOf_10 (by decide) rfl ?_
  refine g_iconst (v := 0) S dX7_liftsOf_12 rfl ?_
  refine g_istore (lv' := [(5, .int 0), (4, .int ((-(M u2 0)) * (M u2 2))), (0, .ref (a.2 50)), (1, .int p1), (2, .ref (a.2 u2)), (3, .int p3)]) S dX7_liftsOf_13 (by decide) rfl ?_
  refine Go.sub [2, 3, 5, 1, 0] rfl ?_
  exact t_X7_liftsOf_15 hu2 S rt 1000 _ _ _ _ hf
