-- BridleBookModel.stands(II)I
theorem dX8_stands_0 : decode cX8_stands 0 = .ok (.aload_n 0, 1) := by decide +kernel
theorem dX8_stands_1 : decode cX8_stands 1 = .ok (.iload_n 1, 1) := by decide +kernel
theorem dX8_stands_2 : decode cX8_stands 2 = .ok (.invokevirtual 115, 3) := by decide +kernel
theorem dX8_stands_5 : decode cX8_stands 5 = .ok (.ifCond .eq 19, 3) := by decide +kernel
theorem dX8_stands_8 : decode cX8_stands 8 = .ok (.iload_n 2, 1) := by decide +kernel
theorem dX8_stands_9 : decode cX8_stands 9 = .ok (.invokestatic 127, 3) := by decide +kernel
theorem dX8_stands_12 : decode cX8_stands 12 = .ok (.ifCond .eq 12, 3) := by decide +kernel
theorem dX8_stands_15 : decode cX8_stands 15 = .ok (.aload_n 0, 1) := by decide +kernel
theorem dX8_stands_16 : decode cX8_stands 16 = .ok (.iload_n 1, 1) := by decide +kernel
theorem dX8_stands_17 : decode cX8_stands 17 = .ok (.iload_n 2, 1) := by decide +kernel
theorem dX8_stands_18 : decode cX8_stands 18 = .ok (.invokevirtual 140, 3) := by decide +kernel
theorem dX8_stands_21 : decode cX8_stands 21 = .ok (.goto 4, 3) := by decide +kernel
theorem dX8_stands_24 : decode cX8_stands 24 = .ok (.iconst (-1), 1) := by decide +kernel
theorem dX8_stands_25 : decode cX8_stands 25 = .ok (.ireturn, 1) := by decide +kernel
def f_X8_stands (z : Nat → Nat) (M : Mem) (p1 : Int32) (p2 : Int32) : Option Int32 := bd1 (f_X8_isKite z M p1) (fun r1 => if r1 = true then bd1 (f_X8_isWind z M p2) (fun r2 => if r2 = true then bd1 (f_X8_standsAt z M p1 p2) (fun r3 => some r3) else some (-1)) else some (-1))
theorem c_X8_stands {l : Launch} {G : GG} {a : AA} {M : Mem} {p1 : Int32} {p2 : Int32} {r : Int32} (hf : f_X8_stands a.1 M p1 p2 = some r) : CtI l G a yX8_stands cX8_stands 3 .int (rmD 2) [.ref (a.2 0), .int p1, .int p2] M r M := by
  refine ct_I (by decide) rfl rfl (own := RX8) (Nat.le_of_ble_eq_true rfl) (fun K hl hg S rt => ?_)
  subst hl; subst hg
  unfold f_X8_stands at hf
  show Go K 3 a M 0 [(0, .ref (a.2 0)), (1, .int p1), (2, .int p2)] []
  refine g_aload_n 0 S dX8_stands_0 rfl ?_
  refine g_iload_n 1 S dX8_stands_1 rfl ?_
  obtain ⟨r1, hr1, hf⟩ := bd1_some hf
  refine g_cVI (st := []) S ob_0 rfl ok_X8_isKite lk_X8_115 (c_X8_isKite hr1) rfl rfl ⟨by decide, by decide⟩ (rmD_z _) (Nat.le_of_ble_eq_true rfl) dX8_stands_2 ?_
  refine g_if_eqB (tgt := 24) S dX8_stands_5 (by decide) hf (fun c hf => ?_) (fun c hf => ?_)
  · refine g_iload_n 2 S dX8_stands_8 rfl ?_
    obtain ⟨r2, hr2, hf⟩ := bd1_some hf
    refine g_cSI (st := []) S ok_X8_isWind lk_X8_127 (c_X8_isWind hr2) rfl rfl ⟨by decide, by decide⟩ (rmD_z _) (Nat.le_of_ble_eq_true rfl) dX8_stands_9 ?_
    refine g_if_eqB (tgt := 24) S dX8_stands_12 (by decide) hf (fun c hf => ?_) (fun c hf => ?_)
    · refine g_aload_n 0 S dX8_stands_15 rfl ?_
      refine g_iload_n 1 S dX8_stands_16 rfl ?_
      refine g_iload_n 2 S dX8_stands_17 rfl ?_
      obtain ⟨r3, hr3, hf⟩ := bd1_some hf
      refine g_cVI (st := []) S ob_0 rfl ok_X8_standsAt lk_X8_140 (c_X8_standsAt hr3) rfl rfl ⟨by decide, by decide⟩ (rmD_z _) (Nat.le_of_ble_eq_true rfl) dX8_stands_18 ?_
      refine g_goto (tgt := 25) S dX8_stands_21 (by decide) ?_
      exact g_iretP rt hf dX8_stands_25
    · refine g_iconst (v := (-1)) S dX8_stands_24 rfl ?_
      exact g_iretP rt hf dX8_stands_25
  · refine g_iconst (v := (-1)) S dX8_stands_24 rfl ?_
    exact g_iretP rt hf dX8_stands_25
-- BridleBookModel.steady(II)I
theorem dX8_steady_0 : decode cX8_steady 0 = .ok (.aload_n 0, 1) := by decide +kernel
theorem dX8_steady_1 : decode cX8_steady 1 = .ok (.iload_n 1, 1) := by decide +kernel
theorem dX8_steady_2 : decode cX8_steady 2 = .ok (.invokevirtual 115, 3) := by decide +kernel
theorem dX8_steady_5 : decode cX8_steady 5 = .ok (.ifCond .eq 10, 3) := by decide +kernel
theorem dX8_steady_8 : decode cX8_steady 8 = .ok (.iload_n 2, 1) := by decide +kernel
theorem dX8_steady_9 : decode cX8_steady 9 = .ok (.invokestatic 127, 3) := by decide +kernel
theorem dX8_steady_12 : decode cX8_steady 12 = .ok (.ifCond .ne 5, 3) := by decide +kernel
theorem dX8_steady_15 : decode cX8_steady 15 = .ok (.iconst (-1), 1) := by decide +kernel
theorem dX8_steady_16 : decode cX8_steady 16 = .ok (.ireturn, 1) := by decide +kernel
theorem dX8_steady_17 : decode cX8_steady 17 = .ok (.aload_n 0, 1) := by decide +kernel
theorem dX8_steady_18 : decode cX8_steady 18 = .ok (.iload_n 1, 1) := by decide +kernel
theorem dX8_steady_19 : decode cX8_steady 19 = .ok (.iload_n 2, 1) := by decide +kernel
theorem dX8_steady_20 : decode cX8_steady 20 = .ok (.invokevirtual 140, 3) := by decide +kernel
theorem dX8_steady_23 : decode cX8_steady 23 = .ok (.istore_n 3, 1) := by decide +kernel
theorem dX8_steady_24 : decode cX8_steady 24 = .ok (.iload_n 3, 1) := by decide +kernel
theorem dX8_steady_25 : decode cX8_steady 25 = .ok (.ifCond .ge 8, 3) := by decide +kernel
theorem dX8_steady_28 : decode cX8_steady 28 = .ok (.bipush (-2), 2) := by decide +kernel
theorem dX8_steady_30 : decode cX8_steady 30 = .ok (.goto 18, 3) := by decide +kernel
theorem dX8_steady_33 : decode cX8_steady 33 = .ok (.aload_n 0, 1) := by decide +kernel
theorem dX8_steady_34 : decode cX8_steady 34 = .ok (.iload_n 1, 1) := by decide +kernel
theorem dX8_steady_35 : decode cX8_steady 35 = .ok (.iload_n 2, 1) := by decide +kernel
theorem dX8_steady_36 : decode cX8_steady 36 = .ok (.iload_n 3, 1) := by decide +kernel
theorem dX8_steady_37 : decode cX8_steady 37 = .ok (.invokevirtual 144, 3) := by decide +kernel
theorem dX8_steady_40 : decode cX8_steady 40 = .ok (.ifCond .eq 7, 3) := by decide +kernel
theorem dX8_steady_43 : decode cX8_steady 43 = .ok (.iconst 1, 1) := by decide +kernel
theorem dX8_steady_44 : decode cX8_steady 44 = .ok (.goto 4, 3) := by decide +kernel
theorem dX8_steady_47 : decode cX8_steady 47 = .ok (.iconst 0, 1) := by decide +kernel
theorem dX8_steady_48 : decode cX8_steady 48 = .ok (.ireturn, 1) := by decide +kernel
def f_X8_steady (z : Nat → Nat) (M : Mem) (p1 : Int32) (p2 : Int32) : Option Int32 := bd1 (f_X8_isKite z M p1) (fun r1 => if r1 = true then bd1 (f_X8_isWind z M p2) (fun r2 => if r2 = true then bd1 (f_X8_standsAt z M p1 p2) (fun r3 => if 0 ≤ r3 then bd1 (f_X8_isSteady z M p1 p2 r3) (fun r4 => if r4 = true then some 1 else some 0) else some (-2)) else some (-1)) else some (-1))
theorem c_X8_steady {l : Launch} {G : GG} {a : AA} {M : Mem} {p1 : Int32} {p2 : Int32} {r : Int32} (hf : f_X8_steady a.1 M p1 p2 = some r) : CtI l G a yX8_steady cX8_steady 4 .int (rmD 2) [.ref (a.2 0), .int p1, .int p2] M r M := by
  refine ct_I (by decide) rfl rfl (own := RX8) (Nat.le_of_ble_eq_true rfl) (fun K hl hg S rt => ?_)
  subst hl; subst hg
  unfold f_X8_steady at hf
  show Go K 4 a M 0 [(0, .ref (a.2 0)), (1, .int p1), (2, .int p2)] []
  refine g_aload_n 0 S dX8_steady_0 rfl ?_
  refine g_iload_n 1 S dX8_steady_1 rfl ?_
  obtain ⟨r1, hr1, hf⟩ := bd1_some hf
  refine g_cVI (st := []) S ob_0 rfl ok_X8_isKite lk_X8_115 (c_X8_isKite hr1) rfl rfl ⟨by decide, by decide⟩ (rmD_z _) (Nat.le_of_ble_eq_true rfl) dX8_steady_2 ?_
  refine g_if_eqB (tgt := 15) S dX8_steady_5 (by decide) hf (fun c hf => ?_) (fun c hf => ?_)
  · refine g_iload_n 2 S dX8_steady_8 rfl ?_
    obtain ⟨r2, hr2, hf⟩ := bd1_some hf
    refine g_cSI (st := []) S ok_X8_isWind lk_X8_127 (c_X8_isWind hr2) rfl rfl ⟨by decide, by decide⟩ (rmD_z _) (Nat.le_of_ble_eq_true rfl) dX8_steady_9 ?_
    refine g_if_neB (tgt := 17) S dX8_steady_12 (by decide) hf (fun c hf => ?_) (fun c hf => ?_)
    · refine g_aload_n 0 S dX8_steady_17 rfl ?_
      refine g_iload_n 1 S dX8_steady_18 rfl ?_
      refine g_iload_n 2 S dX8_steady_19 rfl ?_
      obtain ⟨r3, hr3, hf⟩ := bd1_some hf
      refine g_cVI (st := []) S ob_0 rfl ok_X8_standsAt lk_X8_140 (c_X8_standsAt hr3) rfl rfl ⟨by decide, by decide⟩ (rmD_z _) (Nat.le_of_ble_eq_true rfl) dX8_steady_20 ?_
      refine g_istore_n (lv' := [(3, .int r3), (0, .ref (a.2 0)), (1, .int p1), (2, .int p2)]) S dX8_steady_23 (by decide) rfl ?_
      refine g_iload_n 0 S dX8_steady_24 rfl ?_
      refine g_if_ge (tgt := 33) S dX8_steady_25 (by decide) hf (fun c hf => ?_) (fun c hf => ?_)
      · refine g_aload_n 1 S dX8_steady_33 rfl ?_
        refine g_iload_n 2 S dX8_steady_34 rfl ?_
        refine g_iload_n 3 S dX8_steady_35 rfl ?_
        refine g_iload_n 0 S dX8_steady_36 rfl ?_
        obtain ⟨r4, hr4, hf⟩ := bd1_some hf
        refine g_cVI (st := []) S ob_0 rfl ok_X8_isSteady lk_X8_144 (c_X8_isSteady hr4) rfl rfl ⟨by decide, by decide⟩ (rmD_z _) (Nat.le_of_ble_eq_true rfl) dX8_steady_37 ?_
        refine g_if_eqB (tgt := 47) S dX8_steady_40 (by decide) hf (fun c hf => ?_) (fun c hf => ?_)
        · refine g_iconst (v := 1) S dX8_steady_43 rfl ?_
          refine g_goto (tgt := 48) S dX8_steady_44 (by decide) ?_
          exact g_iretP rt hf dX8_steady_48
        · refine g_iconst (v := 0) S dX8_steady_47 rfl ?_
          exact g_iretP rt hf dX8_steady_48
      · refine g_bipush (v := (-2)) S dX8_steady_28 rfl ?_
        refine g_goto (tgt := 48) S dX8_steady_30 (by decide) ?_
        exact g_iretP rt hf dX8_steady_48
    · refine g_iconst (v := (-1)) S dX8_steady_15 rfl ?_
      exact g_iretP rt hf dX8_steady_16
  · refine g_iconst (v := (-1)) S dX8_steady_15 rfl ?_
    exact g_iretP rt hf dX8_steady_16
-- BridleBookModel.pullUp(II)I
theorem dX8_pullUp_0 : decode cX8_pullUp 0 = .ok (.aload_n 0, 1) := by decide +kernel
theorem dX8_pullUp_1 : decode cX8_pullUp 1 = .ok (.iload_n 1, 1) := by decide +kernel
theorem dX8_pullUp_2 : decode cX8_pullUp 2 = .ok (.iload_n 2, 1) := by decide +kernel
theorem dX8_pullUp_3 : decode cX8_pullUp 3 = .ok (.invokevirtual 140, 3) := by decide +kernel
theorem dX8_pullUp_6 : decode cX8_pullUp 6 = .ok (.istore_n 3, 1) := by decide +kernel
theorem dX8_pullUp_7 : decode cX8_pullUp 7 = .ok (.iload_n 3, 1) := by decide +kernel
theorem dX8_pullUp_8 : decode cX8_pullUp 8 = .ok (.ifCond .ge 12, 3) := by decide +kernel
theorem dX8_pullUp_11 : decode cX8_pullUp 11 = .ok (.aload_n 0, 1) := by decide +kernel
theorem dX8_pullUp_12 : decode cX8_pullUp 12 = .ok (.iload_n 1, 1) := by decide +kernel
theorem dX8_pullUp_13 : decode cX8_pullUp 13 = .ok (.invokevirtual 123, 3) := by decide +kernel
theorem dX8_pullUp_16 : decode cX8_pullUp 16 = .ok (.ineg, 1) := by decide +kernel
theorem dX8_pullUp_17 : decode cX8_pullUp 17 = .ok (.goto 10, 3) := by decide +kernel
theorem dX8_pullUp_20 : decode cX8_pullUp 20 = .ok (.aload_n 0, 1) := by decide +kernel
theorem dX8_pullUp_21 : decode cX8_pullUp 21 = .ok (.iload_n 1, 1) := by decide +kernel
theorem dX8_pullUp_22 : decode cX8_pullUp 22 = .ok (.iload_n 2, 1) := by decide +kernel
theorem dX8_pullUp_23 : decode cX8_pullUp 23 = .ok (.iload_n 3, 1) := by decide +kernel
theorem dX8_pullUp_24 : decode cX8_pullUp 24 = .ok (.invokevirtual 130, 3) := by decide +kernel
theorem dX8_pullUp_27 : decode cX8_pullUp 27 = .ok (.ireturn, 1) := by decide +kernel
def f_X8_pullUp (z : Nat → Nat) (M : Mem) (p1 : Int32) (p2 : Int32) : Option Int32 := bd1 (f_X8_standsAt z M p1 p2) (fun r1 => if 0 ≤ r1 then bd1 (f_X8_up z M p1 p2 r1) (fun r2 => some r2) else bd1 (f_X8_weightOf z M p1) (fun r3 => some (-r3)))
theorem c_X8_pullUp {l : Launch} {G : GG} {a : AA} {M : Mem} {p1 : Int32} {p2 : Int32} {r : Int32} (hf : f_X8_pullUp a.1 M p1 p2 = some r) : CtI l G a yX8_pullUp cX8_pullUp 4 .int (rmD 2) [.ref (a.2 0), .int p1, .int p2] M r M := by
  refine ct_I (by decide) rfl rfl (own := RX8) (Nat.le_of_ble_eq_true rfl) (fun K hl hg S rt => ?_)
  subst hl; subst hg
  unfold f_X8_pullUp at hf
  show Go K 4 a M 0 [(0, .ref (a.2 0)), (1, .int p1), (2, .int p2)] []
  refine g_aload_n 0 S dX8_pullUp_0 rfl ?_
  refine g_iload_n 1 S dX8_pullUp_1 rfl ?_
  refine g_iload_n 2 S dX8_pullUp_2 rfl ?_
  obtain ⟨r1, hr1, hf⟩ := bd1_some hf
  refine g_cVI (st := []) S ob_0 rfl ok_X8_standsAt lk_X8_140 (c_X8_standsAt hr1) rfl rfl ⟨by decide, by decide⟩ (rmD_z _) (Nat.le_of_ble_eq_true rfl) dX8_pullUp_3 ?_
  refine g_istore_n (lv' := [(3, .int r1), (0, .ref (a.2 0)), (1, .int p1), (2, .int p2)]) S dX8_pullUp_6 (by decide) rfl ?_
  refine g_iload_n 0 S dX8_pullUp_7 rfl ?_
  refine g_if_ge (tgt := 20) S dX8_pullUp_8 (by decide) hf (fun c hf => ?_) (fun c hf => ?_)
  · refine g_aload_n 1 S dX8_pullUp_20 rfl ?_
    refine g_iload_n 2 S dX8_pullUp_21 rfl ?_
    refine g_iload_n 3 S dX8_pullUp_22 rfl ?_
    refine g_iload_n 0 S dX8_pullUp_23 rfl ?_
    obtain ⟨r2, hr2, hf⟩ := bd1_some hf
    refine g_cVI (st := []) S ob_0 rfl ok_X8_up lk_X8_130 (c_X8_up hr2) rfl rfl ⟨by decide, by decide⟩ (rmD_z _) (Nat.le_of_ble_eq_true rfl) dX8_pullUp_24 ?_
    exact g_iretP rt hf dX8_pullUp_27
  · refine g_aload_n 1 S dX8_pullUp_11 rfl ?_
    refine g_iload_n 2 S dX8_pullUp_12 rfl ?_
    obtain ⟨r3, hr3, hf⟩ := bd1_some hf
    refine g_cVI (st := []) S ob_0 rfl ok_X8_weightOf lk_X8_123 (c_X8_weightOf hr3) rfl rfl ⟨by decide, by decide⟩ (rmD_z _) (Nat.le_of_ble_eq_true rfl) dX8_pullUp_13 ?_
    refine g_ineg S dX8_pullUp_16 ?_
    refine g_goto (tgt := 27) S dX8_pullUp_17 (by decide) ?_
    exact g_iretP rt hf dX8_pullUp_27
-- BridleBookModel.pullBack(II)I
theorem dX8_pullBack_0 : decode cX8_pullBack 0 = .ok (.aload_n 0, 1) := by decide +kernel
theorem dX8_pullBack_1 : decode cX8_pullBack 1 = .ok (.iload_n 1, 1) := by decide +kernel
theorem dX8_pullBack_2 : decode cX8_pullBack 2 = .ok (.iload_n 2, 1) := by decide +kernel
theorem dX8_pullBack_3 : decode cX8_pullBack 3 = .ok (.invokevirtual 140, 3) := by decide +kernel
theorem dX8_pullBack_6 : decode cX8_pullBack 6 = .ok (.istore_n 3, 1) := by decide +kernel
theorem dX8_pullBack_7 : decode cX8_pullBack 7 = .ok (.iload_n 3, 1) := by decide +kernel
theorem dX8_pullBack_8 : decode cX8_pullBack 8 = .ok (.ifCond .ge 7, 3) := by decide +kernel
theorem dX8_pullBack_11 : decode cX8_pullBack 11 = .ok (.iconst 0, 1) := by decide +kernel
theorem dX8_pullBack_12 : decode cX8_pullBack 12 = .ok (.goto 10, 3) := by decide +kernel
theorem dX8_pullBack_15 : decode cX8_pullBack 15 = .ok (.aload_n 0, 1) := by decide +kernel
theorem dX8_pullBack_16 : decode cX8_pullBack 16 = .ok (.iload_n 1, 1) := by decide +kernel
theorem dX8_pullBack_17 : decode cX8_pullBack 17 = .ok (.iload_n 2, 1) := by decide +kernel
theorem dX8_pullBack_18 : decode cX8_pullBack 18 = .ok (.iload_n 3, 1) := by decide +kernel
theorem dX8_pullBack_19 : decode cX8_pullBack 19 = .ok (.invokevirtual 134, 3) := by decide +kernel
theorem dX8_pullBack_22 : decode cX8_pullBack 22 = .ok (.ireturn, 1) := by decide +kernel
def f_X8_pullBack (z : Nat → Nat) (M : Mem) (p1 : Int32) (p2 : Int32) : Option Int32 := bd1 (f_X8_standsAt z M p1 p2) (fun r1 => if 0 ≤ r1 then bd1 (f_X8_back z M p1 p2 r1) (fun r2 => some r2) else some 0)
theorem c_X8_pullBack {l : Launch} {G : GG} {a : AA} {M : Mem} {p1 : Int32} {p2 : Int32} {r : Int32} (hf : f_X8_pullBack a.1 M p1 p2 = some r) : CtI l G a yX8_pullBack cX8_pullBack 4 .int (rmD 2) [.ref (a.2 0), .int p1, .int p2] M r M := by
  refine ct_I (by decide) rfl rfl (own := RX8) (Nat.le_of_ble_eq_true rfl) (fun K hl hg S rt => ?_)
  subst hl; subst hg
  unfold f_X8_pullBack at hf
  show Go K 4 a M 0 [(0, .ref (a.2 0)), (1, .int p1), (2, .int p2)] []
  refine g_aload_n 0 S dX8_pullBack_0 rfl ?_
  refine g_iload_n 1 S dX8_pullBack_1 rfl ?_
  refine g_iload_n 2 S dX8_pullBack_2 rfl ?_
  obtain ⟨r1, hr1, hf⟩ := bd1_some hf
  refine g_cVI (st := []) S ob_0 rfl ok_X8_standsAt lk_X8_140 (c_X8_standsAt hr1) rfl rfl ⟨by decide, by decide⟩ (rmD_z _) (Nat.le_of_ble_eq_true rfl) dX8_pullBack_3 ?_
  refine g_istore_n (lv' := [(3, .int r1), (0, .ref (a.2 0)), (1, .int p1), (2, .int p2)]) S dX8_pullBack_6 (by decide) rfl ?_
  refine g_iload_n 0 S dX8_pullBack_7 rfl ?_
  refine g_if_ge (tgt := 15) S dX8_pullBack_8 (by decide) hf (fun c hf => ?_) (fun c hf => ?_)
  · refine g_aload_n 1 S dX8_pullBack_15 rfl ?_
    refine g_iload_n 2 S dX8_pullBack_16 rfl ?_
    refine g_iload_n 3 S dX8_pullBack_17 rfl ?_
    refine g_iload_n 0 S dX8_pullBack_18 rfl ?_
    obtain ⟨r2, hr2, hf⟩ := bd1_some hf
    refine g_cVI (st := []) S ob_0 rfl ok_X8_back lk_X8_134 (c_X8_back hr2) rfl rfl ⟨by decide, by decide⟩ (rmD_z _) (Nat.le_of_ble_eq_true rfl) dX8_pullBack_19 ?_
    exact g_iretP rt hf dX8_pullBack_22
  · refine g_iconst (v := 0) S dX8_pullBack_11 rfl ?_
    refine g_goto (tgt := 22) S dX8_pullBack_12 (by decide) ?_
    exact g_iretP rt hf dX8_pullBack_22
-- BridleBookModel.pull(III)I
theorem dX8_pull_0 : decode cX8_pull 0 = .ok (.aload_n 0, 1) := by decide +kernel
theorem dX8_pull_1 : decode cX8_pull 1 = .ok (.iload_n 1, 1) := by decide +kernel
theorem dX8_pull_2 : decode cX8_pull 2 = .ok (.invokevirtual 115, 3) := by decide +kernel
theorem dX8_pull_5 : decode cX8_pull 5 = .ok (.ifCond .eq 19, 3) := by decide +kernel
theorem dX8_pull_8 : decode cX8_pull 8 = .ok (.iload_n 2, 1) := by decide +kernel
theorem dX8_pull_9 : decode cX8_pull 9 = .ok (.invokestatic 127, 3) := by decide +kernel
theorem dX8_pull_12 : decode cX8_pull 12 = .ok (.ifCond .eq 12, 3) := by decide +kernel
theorem dX8_pull_15 : decode cX8_pull 15 = .ok (.iload_n 3, 1) := by decide +kernel
theorem dX8_pull_16 : decode cX8_pull 16 = .ok (.iconst 0, 1) := by decide +kernel
theorem dX8_pull_17 : decode cX8_pull 17 = .ok (.iconst 1, 1) := by decide +kernel
theorem dX8_pull_18 : decode cX8_pull 18 = .ok (.invokestatic 111, 3) := by decide +kernel
theorem dX8_pull_21 : decode cX8_pull 21 = .ok (.ifCond .ne 8, 3) := by decide +kernel
theorem dX8_pull_24 : decode cX8_pull 24 = .ok (.ldc 119, 2) := by decide +kernel
theorem dX8_pull_26 : decode cX8_pull 26 = .ok (.goto 22, 3) := by decide +kernel
theorem dX8_pull_29 : decode cX8_pull 29 = .ok (.iload_n 3, 1) := by decide +kernel
theorem dX8_pull_30 : decode cX8_pull 30 = .ok (.ifCond .ne 12, 3) := by decide +kernel
theorem dX8_pull_33 : decode cX8_pull 33 = .ok (.aload_n 0, 1) := by decide +kernel
theorem dX8_pull_34 : decode cX8_pull 34 = .ok (.iload_n 1, 1) := by decide +kernel
theorem dX8_pull_35 : decode cX8_pull 35 = .ok (.iload_n 2, 1) := by decide +kernel
theorem dX8_pull_36 : decode cX8_pull 36 = .ok (.invokevirtual 147, 3) := by decide +kernel
theorem dX8_pull_39 : decode cX8_pull 39 = .ok (.goto 9, 3) := by decide +kernel
theorem dX8_pull_42 : decode cX8_pull 42 = .ok (.aload_n 0, 1) := by decide +kernel
theorem dX8_pull_43 : decode cX8_pull 43 = .ok (.iload_n 1, 1) := by decide +kernel
theorem dX8_pull_44 : decode cX8_pull 44 = .ok (.iload_n 2, 1) := by decide +kernel
theorem dX8_pull_45 : decode cX8_pull 45 = .ok (.invokevirtual 150, 3) := by decide +kernel
theorem dX8_pull_48 : decode cX8_pull 48 = .ok (.ireturn, 1) := by decide +kernel
def f_X8_pull (z : Nat → Nat) (M : Mem) (p1 : Int32) (p2 : Int32) (p3 : Int32) : Option Int32 := bd1 (f_X8_isKite z M p1) (fun r1 => if r1 = true then bd1 (f_X8_isWind z M p2) (fun r2 => if r2 = true then bd1 (f_X8_in z M p3 0 1) (fun r3 => if r3 = true then if p3 = 0 then bd1 (f_X8_pullUp z M p1 p2) (fun r4 => some r4) else bd1 (f_X8_pullBack z M p1 p2) (fun r5 => some r5) else some (-2000000000)) else some (-2000000000)) else some (-2000000000))
theorem c_X8_pull {l : Launch} {G : GG} {a : AA} {M : Mem} {p1 : Int32} {p2 : Int32} {p3 : Int32} {r : Int32} (hf : f_X8_pull a.1 M p1 p2 p3 = some r) : CtI l G a yX8_pull cX8_pull 4 .int (rmD 3) [.ref (a.2 0), .int p1, .int p2, .int p3] M r M := by
  refine ct_I (by decide) rfl rfl (own := RX8) (Nat.le_of_ble_eq_true rfl) (fun K hl hg S rt => ?_)
  subst hl; subst hg
  unfold f_X8_pull at hf
  show Go K 4 a M 0 [(0, .ref (a.2 0)), (1, .int p1), (2, .int p2), (3, .int p3)] []
  refine g_aload_n 0 S dX8_pull_0 rfl ?_
  refine g_iload_n 1 S dX8_pull_1 rfl ?_
  obtain ⟨r1, hr1, hf⟩ := bd1_some hf
  refine g_cVI (st := []) S ob_0 rfl ok_X8_isKite lk_X8_115 (c_X8_isKite hr1) rfl rfl ⟨by decide, by decide⟩ (rmD_z _) (Nat.le_of_ble_eq_true rfl) dX8_pull_2 ?_
  refine g_if_eqB (tgt := 24) S dX8_pull_5 (by decide) hf (fun c hf => ?_) (fun c hf => ?_)
  · refine g_iload_n 2 S dX8_pull_8 rfl ?_
    obtain ⟨r2, hr2, hf⟩ := bd1_some hf
    refine g_cSI (st := []) S ok_X8_isWind lk_X8_127 (c_X8_isWind hr2) rfl rfl ⟨by decide, by decide⟩ (rmD_z _) (Nat.le_of_ble_eq_true rfl) dX8_pull_9 ?_
    refine g_if_eqB (tgt := 24) S dX8_pull_12 (by decide) hf (fun c hf => ?_) (fun c hf => ?_)
    · refine g_iload_n 3 S dX8_pull_15 rfl ?_
      refine g_iconst (v := 0) S dX8_pull_16 rfl ?_
      refine g_iconst (v := 1) S dX8_pull_17 rfl ?_
      obtain ⟨r3, hr3, hf⟩ := bd1_some hf
      refine g_cSI (st := []) S ok_X8_in lk_X8_111 (c_X8_in hr3) rfl rfl ⟨by decide, by decide⟩ (rmD_z _) (Nat.le_of_ble_eq_true rfl) dX8_pull_18 ?_
      refine g_if_neB (tgt := 29) S dX8_pull_21 (by decide) hf (fun c hf => ?_) (fun c hf => ?_)
      · refine g_iload_n 3 S dX8_pull_29 rfl ?_
        refine g_if_ne (tgt := 42) S dX8_pull_30 (by decide) hf (fun c hf => ?_) (fun c hf => ?_)
        · refine g_aload_n 0 S dX8_pull_33 rfl ?_
          refine g_iload_n 1 S dX8_pull_34 rfl ?_
          refine g_iload_n 2 S dX8_pull_35 rfl ?_
          obtain ⟨r4, hr4, hf⟩ := bd1_some hf
          refine g_cVI (st := []) S ob_0 rfl ok_X8_pullUp lk_X8_147 (c_X8_pullUp hr4) rfl rfl ⟨by decide, by decide⟩ (rmD_z _) (Nat.le_of_ble_eq_true rfl) dX8_pull_36 ?_
          refine g_goto (tgt := 48) S dX8_pull_39 (by decide) ?_
          exact g_iretP rt hf dX8_pull_48
        · refine g_aload_n 0 S dX8_pull_42 rfl ?_
          refine g_iload_n 1 S dX8_pull_43 rfl ?_
          refine g_iload_n 2 S dX8_pull_44 rfl ?_
          obtain ⟨r5, hr5, hf⟩ := bd1_some hf
          refine g_cVI (st := []) S ob_0 rfl ok_X8_pullBack lk_X8_150 (c_X8_pullBack hr5) rfl rfl ⟨by decide, by decide⟩ (rmD_z _) (Nat.le_of_ble_eq_true rfl) dX8_pull_45 ?_
          exact g_iretP rt hf dX8_pull_48
      · refine g_ldc S lc_X8_119 dX8_pull_24 ?_
        refine g_goto (tgt := 48) S dX8_pull_26 (by decide) ?_
        exact g_iretP rt hf dX8_pull_48
    · refine g_ldc S lc_X8_119 dX8_pull_24 ?_
      refine g_goto (tgt := 48) S dX8_pull_26 (by decide) ?_
      exact g_iretP rt hf dX8_pull_48
  · refine g_ldc S lc_X8_119 dX8_pull_24 ?_
    refine g_goto (tgt := 48) S dX8_pull_26 (by decide) ?_
    exact g_iretP rt hf dX8_pull_48
-- BridleBookModel.trim(IIII)I
theorem dX8_trim_0 : decode cX8_trim 0 = .ok (.aload_n 0, 1) := by decide +kernel
theorem dX8_trim_1 : decode cX8_trim 1 = .ok (.iload_n 1, 1) := by decide +kernel
theorem dX8_trim_2 : decode cX8_trim 2 = .ok (.invokevirtual 115, 3) := by decide +kernel
theorem dX8_trim_5 : decode cX8_trim 5 = .ok (.ifCond .eq 31, 3) := by decide +kernel
theorem dX8_trim_8 : decode cX8_trim 8 = .ok (.iload_n 2, 1) := by decide +kernel
theorem dX8_trim_9 : decode cX8_trim 9 = .ok (.invokestatic 127, 3) := by decide +kernel
theorem dX8_trim_12 : decode cX8_trim 12 = .ok (.ifCond .eq 24, 3) := by decide +kernel
theorem dX8_trim_15 : decode cX8_trim 15 = .ok (.iload_n 3, 1) := by decide +kernel
theorem dX8_trim_16 : decode cX8_trim 16 = .ok (.invokestatic 120, 3) := by decide +kernel
theorem dX8_trim_19 : decode cX8_trim 19 = .ok (.ifCond .eq 17, 3) := by decide +kernel
theorem dX8_trim_22 : decode cX8_trim 22 = .ok (.iload 4, 2) := by decide +kernel
theorem dX8_trim_24 : decode cX8_trim 24 = .ok (.invokestatic 120, 3) := by decide +kernel
theorem dX8_trim_27 : decode cX8_trim 27 = .ok (.ifCond .eq 9, 3) := by decide +kernel
theorem dX8_trim_30 : decode cX8_trim 30 = .ok (.iload_n 3, 1) := by decide +kernel
theorem dX8_trim_31 : decode cX8_trim 31 = .ok (.iload 4, 2) := by decide +kernel
theorem dX8_trim_33 : decode cX8_trim 33 = .ok (.if_icmp .le 6, 3) := by decide +kernel
theorem dX8_trim_36 : decode cX8_trim 36 = .ok (.ldc 119, 2) := by decide +kernel
theorem dX8_trim_38 : decode cX8_trim 38 = .ok (.ireturn, 1) := by decide +kernel
theorem dX8_trim_39 : decode cX8_trim 39 = .ok (.aload_n 0, 1) := by decide +kernel
theorem dX8_trim_40 : decode cX8_trim 40 = .ok (.getfield 26, 3) := by decide +kernel
theorem dX8_trim_43 : decode cX8_trim 43 = .ok (.iload_n 1, 1) := by decide +kernel
theorem dX8_trim_44 : decode cX8_trim 44 = .ok (.iaload, 1) := by decide +kernel
theorem dX8_trim_45 : decode cX8_trim 45 = .ok (.istore 5, 2) := by decide +kernel
theorem dX8_trim_47 : decode cX8_trim 47 = .ok (.ldc 119, 2) := by decide +kernel
theorem dX8_trim_49 : decode cX8_trim 49 = .ok (.istore 6, 2) := by decide +kernel
theorem dX8_trim_51 : decode cX8_trim 51 = .ok (.bipush (-99), 2) := by decide +kernel
theorem dX8_trim_53 : decode cX8_trim 53 = .ok (.istore 7, 2) := by decide +kernel
theorem dX8_trim_55 : decode cX8_trim 55 = .ok (.iload 7, 2) := by decide +kernel
theorem dX8_trim_57 : decode cX8_trim 57 = .ok (.bipush 99, 2) := by decide +kernel
theorem dX8_trim_59 : decode cX8_trim 59 = .ok (.if_icmp .gt 58, 3) := by decide +kernel
theorem dX8_trim_62 : decode cX8_trim 62 = .ok (.iload 6, 2) := by decide +kernel
theorem dX8_trim_64 : decode cX8_trim 64 = .ok (.ldc 119, 2) := by decide +kernel
theorem dX8_trim_66 : decode cX8_trim 66 = .ok (.if_icmp .ne 51, 3) := by decide +kernel
theorem dX8_trim_69 : decode cX8_trim 69 = .ok (.aload_n 0, 1) := by decide +kernel
theorem dX8_trim_70 : decode cX8_trim 70 = .ok (.getfield 26, 3) := by decide +kernel
theorem dX8_trim_73 : decode cX8_trim 73 = .ok (.iload_n 1, 1) := by decide +kernel
theorem dX8_trim_74 : decode cX8_trim 74 = .ok (.iload 7, 2) := by decide +kernel
theorem dX8_trim_76 : decode cX8_trim 76 = .ok (.iastore, 1) := by decide +kernel
theorem dX8_trim_77 : decode cX8_trim 77 = .ok (.aload_n 0, 1) := by decide +kernel
theorem dX8_trim_78 : decode cX8_trim 78 = .ok (.iload_n 1, 1) := by decide +kernel
theorem dX8_trim_79 : decode cX8_trim 79 = .ok (.iload_n 2, 1) := by decide +kernel
theorem dX8_trim_80 : decode cX8_trim 80 = .ok (.invokevirtual 140, 3) := by decide +kernel
theorem dX8_trim_83 : decode cX8_trim 83 = .ok (.istore 8, 2) := by decide +kernel
theorem dX8_trim_85 : decode cX8_trim 85 = .ok (.iload 8, 2) := by decide +kernel
theorem dX8_trim_87 : decode cX8_trim 87 = .ok (.iload_n 3, 1) := by decide +kernel
theorem dX8_trim_88 : decode cX8_trim 88 = .ok (.iload 4, 2) := by decide +kernel
theorem dX8_trim_90 : decode cX8_trim 90 = .ok (.invokestatic 111, 3) := by decide +kernel
theorem dX8_trim_93 : decode cX8_trim 93 = .ok (.ifCond .eq 18, 3) := by decide +kernel
theorem dX8_trim_96 : decode cX8_trim 96 = .ok (.aload_n 0, 1) := by decide +kernel
theorem dX8_trim_97 : decode cX8_trim 97 = .ok (.iload_n 1, 1) := by decide +kernel
theorem dX8_trim_98 : decode cX8_trim 98 = .ok (.iload_n 2, 1) := by decide +kernel
theorem dX8_trim_99 : decode cX8_trim 99 = .ok (.iload 8, 2) := by decide +kernel
theorem dX8_trim_101 : decode cX8_trim 101 = .ok (.invokevirtual 144, 3) := by decide +kernel
theorem dX8_trim_104 : decode cX8_trim 104 = .ok (.ifCond .eq 7, 3) := by decide +kernel
theorem dX8_trim_107 : decode cX8_trim 107 = .ok (.iload 7, 2) := by decide +kernel
theorem dX8_trim_109 : decode cX8_trim 109 = .ok (.istore 6, 2) := by decide +kernel
theorem dX8_trim_111 : decode cX8_trim 111 = .ok (.iinc 7 1, 3) := by decide +kernel
theorem dX8_trim_114 : decode cX8_trim 114 = .ok (.goto (-59), 3) := by decide +kernel
theorem dX8_trim_117 : decode cX8_trim 117 = .ok (.aload_n 0, 1) := by decide +kernel
theorem dX8_trim_118 : decode cX8_trim 118 = .ok (.getfield 26, 3) := by decide +kernel
theorem dX8_trim_121 : decode cX8_trim 121 = .ok (.iload_n 1, 1) := by decide +kernel
theorem dX8_trim_122 : decode cX8_trim 122 = .ok (.iload 5, 2) := by decide +kernel
theorem dX8_trim_124 : decode cX8_trim 124 = .ok (.iastore, 1) := by decide +kernel
theorem dX8_trim_125 : decode cX8_trim 125 = .ok (.iload 6, 2) := by decide +kernel
theorem dX8_trim_127 : decode cX8_trim 127 = .ok (.ireturn, 1) := by decide +kernel
def f_X8_trim_55 (z : Nat → Nat) : Nat → Mem → Int32 → Int32 → Int32 → Int32 → Int32 → Int32 → Int32 → Option (Int32 × Mem)
  | 0, _, _, _, _, _, _, _, _ => none
  | fu + 1, M, x1, x2, x3, x4, x5, x6, x7 => if 99 < x7 then ck (inb x1 20) (some (x6, (mu M 6 (Int32.toNatClampNeg x1) x5))) else if x6 = (-2000000000) then ck (inb x1 20) (bd1 (f_X8_standsAt z (mu M 6 (Int32.toNatClampNeg x1) x7) x1 x2) (fun r5 => bd1 (f_X8_in z (mu M 6 (Int32.toNatClampNeg x1) x7) r5 x3 x4) (fun r6 => if r6 = true then bd1 (f_X8_isSteady z (mu M 6 (Int32.toNatClampNeg x1) x7) x1 x2 r5) (fun r7 => if r7 = true then f_X8_trim_55 z fu (mu M 6 (Int32.toNatClampNeg x1) x7) x1 x2 x3 x4 x5 x7 (x7 + 1) else f_X8_trim_55 z fu (mu M 6 (Int32.toNatClampNeg x1) x7) x1 x2 x3 x4 x5 x6 (x7 + 1)) else f_X8_trim_55 z fu (mu M 6 (Int32.toNatClampNeg x1) x7) x1 x2 x3 x4 x5 x6 (x7 + 1)))) else ck (inb x1 20) (some (x6, (mu M 6 (Int32.toNatClampNeg x1) x5)))
theorem t_X8_trim_55 {K : KK} {a : AA} (S : Sx K RX8 cX8_trim 9 (rmD 2)) {r : Int32} {M' : Mem} (rt : RtI K a cX8_trim r M') : ∀ (fu : Nat) (M : Mem) (x1 : Int32) (x2 : Int32) (x3 : Int32) (x4 : Int32) (x5 : Int32) (x6 : Int32) (x7 : Int32), f_X8_trim_55 a.1 fu M x1 x2 x3 x4 x5 x6 x7 = some (r, M') → Go K 9 a M 55 [(0, .ref (a.2 0)), (1, .int x1), (2, .int x2), (3, .int x3), (4, .int x4), (5, .int x5), (6, .int x6), (7, .int x7)] [] := by
  intro fu
  induction fu with
  | zero => intro M x1 x2 x3 x4 x5 x6 x7 hf; exact absurd hf (by simp [f_X8_trim_55])
  | succ fu ih =>
    intro M x1 x2 x3 x4 x5 x6 x7 hf
    rw [f_X8_trim_55] at hf
    refine g_iload 7 S dX8_trim_55 rfl ?_
    refine g_bipush (v := 99) S dX8_trim_57 rfl ?_
    refine g_icmp_gt (tgt := 117) S dX8_trim_59 (by decide) hf (fun c hf => ?_) (fun c hf => ?_)
    · refine g_aload_n 0 S dX8_trim_117 rfl ?_
      refine g_get (v := .ref (a.2 6)) S ob_0 rfl gi_X8 (by decide) lf_X8_26 rfl dX8_trim_118 ?_
      refine g_iload_n 1 S dX8_trim_121 rfl ?_
      refine g_iload 5 S dX8_trim_122 rfl ?_
      refine g_iast S ia_6 dX8_trim_124 hf (fun hf => ?_)
      refine g_iload 6 S dX8_trim_125 rfl ?_
      exact g_iretM rt hf dX8_trim_127
    · refine g_iload 6 S dX8_trim_62 rfl ?_
      refine g_ldc S lc_X8_119 dX8_trim_64 ?_
      refine g_icmp_ne (tgt := 117) S dX8_trim_66 (by decide) hf (fun c hf => ?_) (fun c hf => ?_)
      · refine g_aload_n 0 S dX8_trim_69 rfl ?_
        refine g_get (v := .ref (a.2 6)) S ob_0 rfl gi_X8 (by decide) lf_X8_26 rfl dX8_trim_70 ?_
        refine g_iload_n 1 S dX8_trim_73 rfl ?_
        refine g_iload 7 S dX8_trim_74 rfl ?_
        refine g_iast S ia_6 dX8_trim_76 hf (fun hf => ?_)
        refine g_aload_n 0 S dX8_trim_77 rfl ?_
        refine g_iload_n 1 S dX8_trim_78 rfl ?_
        refine g_iload_n 2 S dX8_trim_79 rfl ?_
        obtain ⟨r5, hr5, hf⟩ := bd1_some hf
        refine g_cVI (st := []) S ob_0 rfl ok_X8_standsAt lk_X8_140 (c_X8_standsAt hr5) rfl rfl ⟨by decide, by decide⟩ (rmD_z _) (Nat.le_of_ble_eq_true rfl) dX8_trim_80 ?_
        refine g_istore (lv' := [(8, .int r5), (0, .ref (a.2 0)), (1, .int x1), (2, .int x2), (3, .int x3), (4, .int x4), (5, .int x5), (6, .int x6), (7, .int x7)]) S dX8_trim_83 (by decide) rfl ?_
        refine g_iload 0 S dX8_trim_85 rfl ?_
        refine g_iload_n 4 S dX8_trim_87 rfl ?_
        refine g_iload 5 S dX8_trim_88 rfl ?_
        obtain ⟨r6, hr6, hf⟩ := bd1_some hf
        refine g_cSI (st := []) S ok_X8_in lk_X8_111 (c_X8_in hr6) rfl rfl ⟨by decide, by decide⟩ (rmD_z _) (Nat.le_of_ble_eq_true rfl) dX8_trim_90 ?_
        refine g_if_eqB (tgt := 111) S dX8_trim_93 (by decide) hf (fun c hf => ?_) (fun c hf => ?_)
        · refine g_aload_n 1 S dX8_trim_96 rfl ?_
          refine g_iload_n 2 S dX8_trim_97 rfl ?_
          refine g_iload_n 3 S dX8_trim_98 rfl ?_
          refine g_iload 0 S dX8_trim_99 rfl ?_
          obtain ⟨r7, hr7, hf⟩ := bd1_some hf
          refine g_cVI (st := []) S ob_0 rfl ok_X8_isSteady lk_X8_144 (c_X8_isSteady hr7) rfl rfl ⟨by decide, by decide⟩ (rmD_z _) (Nat.le_of_ble_eq_true rfl) dX8_trim_101 ?_
          refine g_if_eqB (tgt := 111) S dX8_trim_104 (by decide) hf (fun c hf => ?_) (fun c hf => ?_)
          · refine g_iload 8 S dX8_trim_107 rfl ?_
            refine g_istore (lv' := [(6, .int x7), (8, .int r5), (0, .ref (a.2 0)), (1, .int x1), (2, .int x2), (3, .int x3), (4, .int x4), (5, .int x5), (7, .int x7)]) S dX8_trim_109 (by decide) rfl ?_
            refine g_iinc (v := (x7 + 1)) (lv' := [(7, .int (x7 + 1)), (6, .int x7), (8, .int r5), (0, .ref (a.2 0)), (1, .int x1), (2, .int x2), (3, .int x3), (4, .int x4), (5, .int x5)]) 8 S dX8_trim_111 rfl rfl (by decide) rfl ?_
            refine g_goto (tgt := 55) S dX8_trim_114 (by decide) ?_
            refine Go.sub [3, 4, 5, 6, 7, 8, 1, 0] rfl ?_
            exact ih _ _ _ _ _ _ _ _ hf
          · refine g_iinc (v := (x7 + 1)) (lv' := [(7, .int (x7 + 1)), (8, .int r5), (0, .ref (a.2 0)), (1, .int x1), (2, .int x2), (3, .int x3), (4, .int x4), (5, .int x5), (6, .int x6)]) 8 S dX8_trim_111 rfl rfl (by decide) rfl ?_
            refine g_goto (tgt := 55) S dX8_trim_114 (by decide) ?_
            refine Go.sub [2, 3, 4, 5, 6, 7, 8, 0] rfl ?_
            exact ih _ _ _ _ _ _ _ _ hf
        · refine g_iinc (v := (x7 + 1)) (lv' := [(7, .int (x7 + 1)), (8, .int r5), (0, .ref (a.2 0)), (1, .int x1), (2, .int x2), (3, .int x3), (4, .int x4), (5, .int x5), (6, .int x6)]) 8 S dX8_trim_111 rfl rfl (by decide) rfl ?_
          refine g_goto (tgt := 55) S dX8_trim_114 (by decide) ?_
          refine Go.sub [2, 3, 4, 5, 6, 7, 8, 0] rfl ?_
          exact ih _ _ _ _ _ _ _ _ hf
      · refine g_aload_n 0 S dX8_trim_117 rfl ?_
        refine g_get (v := .ref (a.2 6)) S ob_0 rfl gi_X8 (by decide) lf_X8_26 rfl dX8_trim_118 ?_
        refine g_iload_n 1 S dX8_trim_121 rfl ?_
        refine g_iload 5 S dX8_trim_122 rfl ?_
        refine g_iast S ia_6 dX8_trim_124 hf (fun hf => ?_)
        refine g_iload 6 S dX8_trim_125 rfl ?_
        exact g_iretM rt hf dX8_trim_127
def f_X8_trim (z : Nat → Nat) (M : Mem) (p1 : Int32) (p2 : Int32) (p3 : Int32) (p4 : Int32) : Option (Int32 × Mem) := bd1 (f_X8_isKite z M p1) (fun r1 => if r1 = true then bd1 (f_X8_isWind z M p2) (fun r2 => if r2 = true then bd1 (f_X8_isAngle z M p3) (fun r3 => if r3 = true then bd1 (f_X8_isAngle z M p4) (fun r4 => if r4 = true then if p3 ≤ p4 then ck (inb p1 20) (f_X8_trim_55 z 1000 M p1 p2 p3 p4 (M 6 (Int32.toNatClampNeg p1)) (-2000000000) (-99)) else some ((-2000000000), M) else some ((-2000000000), M)) else some ((-2000000000), M)) else some ((-2000000000), M)) else some ((-2000000000), M))
theorem c_X8_trim {l : Launch} {G : GG} {a : AA} {M : Mem} {p1 : Int32} {p2 : Int32} {p3 : Int32} {p4 : Int32} {r : Int32} {M' : Mem} (hf : f_X8_trim a.1 M p1 p2 p3 p4 = some (r, M')) : CtI l G a yX8_trim cX8_trim 9 .int (rmD 2) [.ref (a.2 0), .int p1, .int p2, .int p3, .int p4] M r M' := by
  refine ct_I (by decide) rfl rfl (own := RX8) (Nat.le_of_ble_eq_true rfl) (fun K hl hg S rt => ?_)
  subst hl; subst hg
  unfold f_X8_trim at hf
  show Go K 9 a M 0 [(0, .ref (a.2 0)), (1, .int p1), (2, .int p2), (3, .int p3), (4, .int p4)] []
  refine g_aload_n 0 S dX8_trim_0 rfl ?_
  refine g_iload_n 1 S dX8_trim_1 rfl ?_
  obtain ⟨r1, hr1, hf⟩ := bd1_some hf
  refine g_cVI (st := []) S ob_0 rfl ok_X8_isKite lk_X8_115 (c_X8_isKite hr1) rfl rfl ⟨by decide, by decide⟩ (rmD_z _) (Nat.le_of_ble_eq_true rfl) dX8_trim_2 ?_
  refine g_if_eqB (tgt := 36) S dX8_trim_5 (by decide) hf (fun c hf => ?_) (fun c hf => ?_)
  · refine g_iload_n 2 S dX8_trim_8 rfl ?_
    obtain ⟨r2, hr2, hf⟩ := bd1_some hf
    refine g_cSI (st := []) S ok_X8_isWind lk_X8_127 (c_X8_isWind hr2) rfl rfl ⟨by decide, by decide⟩ (rmD_z _) (Nat.le_of_ble_eq_true rfl) dX8_trim_9 ?_
    refine g_if_eqB (tgt := 36) S dX8_trim_12 (by decide) hf (fun c hf => ?_) (fun c hf => ?_)
    · refine g_iload_n 3 S dX8_trim_15 rfl ?_
      obtain ⟨r3, hr3, hf⟩ := bd1_some hf
      refine g_cSI (st := []) S ok_X8_isAngle lk_X8_120 (c_X8_isAngle hr3) rfl rfl ⟨by decide, by decide⟩ (rmD_z _) (Nat.le_of_ble_eq_true rfl) dX8_trim_16 ?_
      refine g_if_eqB (tgt := 36) S dX8_trim_19 (by decide) hf (fun c hf => ?_) (fun c hf => ?_)
      · refine g_iload 4 S dX8_trim_22 rfl ?_
        obtain ⟨r4, hr4, hf⟩ := bd1_some hf
        refine g_cSI (st := []) S ok_X8_isAngle lk_X8_120 (c_X8_isAngle hr4) rfl rfl ⟨by decide, by decide⟩ (rmD_z _) (Nat.le_of_ble_eq_true rfl) dX8_trim_24 ?_
        refine g_if_eqB (tgt := 36) S dX8_trim_27 (by decide) hf (fun c hf => ?_) (fun c hf => ?_)
        · refine g_iload_n 3 S dX8_trim_30 rfl ?_
          refine g_iload 4 S dX8_trim_31 rfl ?_
          refine g_icmp_le (tgt := 39) S dX8_trim_33 (by decide) hf (fun c hf => ?_) (fun c hf => ?_)
          · refine g_aload_n 0 S dX8_trim_39 rfl ?_
            refine g_get (v := .ref (a.2 6)) S ob_0 rfl gi_X8 (by decide) lf_X8_26 rfl dX8_trim_40 ?_
            refine g_iload_n 1 S dX8_trim_43 rfl ?_
            refine g_iald S ia_6 dX8_trim_44 hf (fun hf => ?_)
            refine g_istore (lv' := [(5, .int (M 6 (Int32.toNatClampNeg p1))), (0, .ref (a.2 0)), (1, .int p1), (2, .int p2), (3, .int p3), (4, .int p4)]) S dX8_trim_45 (by decide) rfl ?_
            refine g_ldc S lc_X8_119 dX8_trim_47 ?_
            refine g_istore (lv' := [(6, .int (-2000000000)), (5, .int (M 6 (Int32.toNatClampNeg p1))), (0, .ref (a.2 0)), (1, .int p1), (2, .int p2), (3, .int p3), (4, .int p4)]) S dX8_trim_49 (by decide) rfl ?_
            refine g_bipush (v := (-99)) S dX8_trim_51 rfl ?_
            refine g_istore (lv' := [(7, .int (-99)), (6, .int (-2000000000)), (5, .int (M 6 (Int32.toNatClampNeg p1))), (0, .ref (a.2 0)), (1, .int p1), (2, .int p2), (3, .int p3), (4, .int p4)]) S dX8_trim_53 (by decide) rfl ?_
            refine Go.sub [3, 4, 5, 6, 7, 2, 1, 0] rfl ?_
            exact t_X8_trim_55  S rt 1000 _ _ _ _ _ _ _ _ hf
          · refine g_ldc S lc_X8_119 dX8_trim_36 ?_
            exact g_iretM rt hf dX8_trim_38
        · refine g_ldc S lc_X8_119 dX8_trim_36 ?_
          exact g_iretM rt hf dX8_trim_38
      · refine g_ldc S lc_X8_119 dX8_trim_36 ?_
        exact g_iretM rt hf dX8_trim_38
    · refine g_ldc S lc_X8_119 dX8_trim_36 ?_
      exact g_iretM rt hf dX8_trim_38
  · refine g_ldc S lc_X8_119 dX8_trim_36 ?_
    exact g_iretM rt hf dX8_trim_38
-- BridleBookModel.isLine(I)Z
theorem dX8_isLine_0 : decode cX8_isLine 0 = .ok (.iload_n 1, 1) := by decide +kernel
theorem dX8_isLine_1 : decode cX8_isLine 1 = .ok (.iconst 0, 1) := by decide +kernel
theorem dX8_isLine_2 : decode cX8_isLine 2 = .ok (.aload_n 0, 1) := by decide +kernel
theorem dX8_isLine_3 : decode cX8_isLine 3 = .ok (.getfield 153, 3) := by decide +kernel
theorem dX8_isLine_6 : decode cX8_isLine 6 = .ok (.iconst 1, 1) := by decide +kernel
theorem dX8_isLine_7 : decode cX8_isLine 7 = .ok (.isub, 1) := by decide +kernel
theorem dX8_isLine_8 : decode cX8_isLine 8 = .ok (.invokestatic 111, 3) := by decide +kernel
theorem dX8_isLine_11 : decode cX8_isLine 11 = .ok (.ireturn, 1) := by decide +kernel
def f_X8_isLine (z : Nat → Nat) (M : Mem) (p1 : Int32) : Option Bool := bd1 (f_X8_in z M p1 0 ((M 0 12) - 1)) (fun r1 => some r1)
theorem c_X8_isLine {l : Launch} {G : GG} {a : AA} {M : Mem} {p1 : Int32} {r : Bool} (hf : f_X8_isLine a.1 M p1 = some r) : CtI l G a yX8_isLine cX8_isLine 2 .boolean (rmD 1) [.ref (a.2 0), .int p1] M (b2i r) M := by
  refine ct_I (by decide) rfl (b2i_n _) (own := RX8) (Nat.le_of_ble_eq_true rfl) (fun K hl hg S rt => ?_)
  subst hl; subst hg
  unfold f_X8_isLine at hf
  show Go K 2 a M 0 [(0, .ref (a.2 0)), (1, .int p1)] []
  refine g_iload_n 1 S dX8_isLine_0 rfl ?_
  refine g_iconst (v := 0) S dX8_isLine_1 rfl ?_
  refine g_aload_n 0 S dX8_isLine_2 rfl ?_
  refine g_get (v := .int (M 0 12)) S ob_0 rfl gi_X8 (by decide) lf_X8_153 rfl dX8_isLine_3 ?_
  refine g_iconst (v := 1) S dX8_isLine_6 rfl ?_
  refine g_isub S dX8_isLine_7 ?_
  obtain ⟨r1, hr1, hf⟩ := bd1_some hf
  refine g_cSI (st := []) S ok_X8_in lk_X8_111 (c_X8_in hr1) rfl rfl ⟨by decide, by decide⟩ (rmD_z _) (Nat.le_of_ble_eq_true rfl) dX8_isLine_8 ?_
  exact g_zretP rt hf dX8_isLine_11 rfl
-- BridleBookModel.isStep(II)Z
theorem dX8_isStep_0 : decode cX8_isStep 0 = .ok (.iload_n 2, 1) := by decide +kernel
theorem dX8_isStep_1 : decode cX8_isStep 1 = .ok (.iconst 1, 1) := by decide +kernel
theorem dX8_isStep_2 : decode cX8_isStep 2 = .ok (.aload_n 0, 1) := by decide +kernel
theorem dX8_isStep_3 : decode cX8_isStep 3 = .ok (.getfield 44, 3) := by decide +kernel
theorem dX8_isStep_6 : decode cX8_isStep 6 = .ok (.iload_n 1, 1) := by decide +kernel
theorem dX8_isStep_7 : decode cX8_isStep 7 = .ok (.iaload, 1) := by decide +kernel
theorem dX8_isStep_8 : decode cX8_isStep 8 = .ok (.invokestatic 111, 3) := by decide +kernel
theorem dX8_isStep_11 : decode cX8_isStep 11 = .ok (.ireturn, 1) := by decide +kernel
def f_X8_isStep (z : Nat → Nat) (M : Mem) (p1 : Int32) (p2 : Int32) : Option Bool := ck (inb p1 10) (bd1 (f_X8_in z M p2 1 (M 13 (Int32.toNatClampNeg p1))) (fun r1 => some r1))
theorem c_X8_isStep {l : Launch} {G : GG} {a : AA} {M : Mem} {p1 : Int32} {p2 : Int32} {r : Bool} (hf : f_X8_isStep a.1 M p1 p2 = some r) : CtI l G a yX8_isStep cX8_isStep 3 .boolean (rmD 1) [.ref (a.2 0), .int p1, .int p2] M (b2i r) M := by
  refine ct_I (by decide) rfl (b2i_n _) (own := RX8) (Nat.le_of_ble_eq_true rfl) (fun K hl hg S rt => ?_)
  subst hl; subst hg
  unfold f_X8_isStep at hf
  show Go K 3 a M 0 [(0, .ref (a.2 0)), (1, .int p1), (2, .int p2)] []
  refine g_iload_n 2 S dX8_isStep_0 rfl ?_
  refine g_iconst (v := 1) S dX8_isStep_1 rfl ?_
  refine g_aload_n 0 S dX8_isStep_2 rfl ?_
  refine g_get (v := .ref (a.2 13)) S ob_0 rfl gi_X8 (by decide) lf_X8_44 rfl dX8_isStep_3 ?_
  refine g_iload_n 1 S dX8_isStep_6 rfl ?_
  refine g_iald S ia_13 dX8_isStep_7 hf (fun hf => ?_)
  obtain ⟨r1, hr1, hf⟩ := bd1_some hf
  refine g_cSI (st := []) S ok_X8_in lk_X8_111 (c_X8_in hr1) rfl rfl ⟨by decide, by decide⟩ (rmD_z _) (Nat.le_of_ble_eq_true rfl) dX8_isStep_8 ?_
  exact g_zretP rt hf dX8_isStep_11 rfl
-- BridleBookModel.wind(II)I
theorem dX8_wind_0 : decode cX8_wind 0 = .ok (.iload_n 1, 1) := by decide +kernel
theorem dX8_wind_1 : decode cX8_wind 1 = .ok (.iconst 0, 1) := by decide +kernel
theorem dX8_wind_2 : decode cX8_wind 2 = .ok (.bipush 19, 2) := by decide +kernel
theorem dX8_wind_4 : decode cX8_wind 4 = .ok (.invokestatic 111, 3) := by decide +kernel
theorem dX8_wind_7 : decode cX8_wind 7 = .ok (.ifCond .eq 10, 3) := by decide +kernel
theorem dX8_wind_10 : decode cX8_wind 10 = .ok (.iload_n 2, 1) := by decide +kernel
theorem dX8_wind_11 : decode cX8_wind 11 = .ok (.invokestatic 127, 3) := by decide +kernel
theorem dX8_wind_14 : decode cX8_wind 14 = .ok (.ifCond .ne 5, 3) := by decide +kernel
theorem dX8_wind_17 : decode cX8_wind 17 = .ok (.iconst (-1), 1) := by decide +kernel
theorem dX8_wind_18 : decode cX8_wind 18 = .ok (.ireturn, 1) := by decide +kernel
theorem dX8_wind_19 : decode cX8_wind 19 = .ok (.aload_n 0, 1) := by decide +kernel
theorem dX8_wind_20 : decode cX8_wind 20 = .ok (.getfield 41, 3) := by decide +kernel
theorem dX8_wind_23 : decode cX8_wind 23 = .ok (.iload_n 1, 1) := by decide +kernel
theorem dX8_wind_24 : decode cX8_wind 24 = .ok (.iaload, 1) := by decide +kernel
theorem dX8_wind_25 : decode cX8_wind 25 = .ok (.istore_n 3, 1) := by decide +kernel
theorem dX8_wind_26 : decode cX8_wind 26 = .ok (.aload_n 0, 1) := by decide +kernel
theorem dX8_wind_27 : decode cX8_wind 27 = .ok (.getfield 41, 3) := by decide +kernel
theorem dX8_wind_30 : decode cX8_wind 30 = .ok (.iload_n 1, 1) := by decide +kernel
theorem dX8_wind_31 : decode cX8_wind 31 = .ok (.iload_n 2, 1) := by decide +kernel
theorem dX8_wind_32 : decode cX8_wind 32 = .ok (.iastore, 1) := by decide +kernel
theorem dX8_wind_33 : decode cX8_wind 33 = .ok (.iload_n 3, 1) := by decide +kernel
theorem dX8_wind_34 : decode cX8_wind 34 = .ok (.ireturn, 1) := by decide +kernel
def f_X8_wind (z : Nat → Nat) (M : Mem) (p1 : Int32) (p2 : Int32) : Option (Int32 × Mem) := bd1 (f_X8_in z M p1 0 19) (fun r1 => if r1 = true then bd1 (f_X8_isWind z M p2) (fun r2 => if r2 = true then ck (inb p1 20) (ck (inb p1 20) (some ((M 11 (Int32.toNatClampNeg p1)), (mu M 11 (Int32.toNatClampNeg p1) p2)))) else some ((-1), M)) else some ((-1), M))
theorem c_X8_wind {l : Launch} {G : GG} {a : AA} {M : Mem} {p1 : Int32} {p2 : Int32} {r : Int32} {M' : Mem} (hf : f_X8_wind a.1 M p1 p2 = some (r, M')) : CtI l G a yX8_wind cX8_wind 4 .int (rmD 2) [.ref (a.2 0), .int p1, .int p2] M r M' := by
  refine ct_I (by decide) rfl rfl (own := RX8) (Nat.le_of_ble_eq_true rfl) (fun K hl hg S rt => ?_)
  subst hl; subst hg
  unfold f_X8_wind at hf
  show Go K 4 a M 0 [(0, .ref (a.2 0)), (1, .int p1), (2, .int p2)] []
  refine g_iload_n 1 S dX8_wind_0 rfl ?_
  refine g_iconst (v := 0) S dX8_wind_1 rfl ?_
  refine g_bipush (v := 19) S dX8_wind_2 rfl ?_
  obtain ⟨r1, hr1, hf⟩ := bd1_some hf
  refine g_cSI (st := []) S ok_X8_in lk_X8_111 (c_X8_in hr1) rfl rfl ⟨by decide, by decide⟩ (rmD_z _) (Nat.le_of_ble_eq_true rfl) dX8_wind_4 ?_
  refine g_if_eqB (tgt := 17) S dX8_wind_7 (by decide) hf (fun c hf => ?_) (fun c hf => ?_)
  · refine g_iload_n 2 S dX8_wind_10 rfl ?_
    obtain ⟨r2, hr2, hf⟩ := bd1_some hf
    refine g_cSI (st := []) S ok_X8_isWind lk_X8_127 (c_X8_isWind hr2) rfl rfl ⟨by decide, by decide⟩ (rmD_z _) (Nat.le_of_ble_eq_true rfl) dX8_wind_11 ?_
    refine g_if_neB (tgt := 19) S dX8_wind_14 (by decide) hf (fun c hf => ?_) (fun c hf => ?_)
    · refine g_aload_n 0 S dX8_wind_19 rfl ?_
      refine g_get (v := .ref (a.2 11)) S ob_0 rfl gi_X8 (by decide) lf_X8_41 rfl dX8_wind_20 ?_
      refine g_iload_n 1 S dX8_wind_23 rfl ?_
      refine g_iald S ia_11 dX8_wind_24 hf (fun hf => ?_)
      refine g_istore_n (lv' := [(3, .int (M 11 (Int32.toNatClampNeg p1))), (0, .ref (a.2 0)), (1, .int p1), (2, .int p2)]) S dX8_wind_25 (by decide) rfl ?_
      refine g_aload_n 1 S dX8_wind_26 rfl ?_
      refine g_get (v := .ref (a.2 11)) S ob_0 rfl gi_X8 (by decide) lf_X8_41 rfl dX8_wind_27 ?_
      refine g_iload_n 2 S dX8_wind_30 rfl ?_
      refine g_iload_n 3 S dX8_wind_31 rfl ?_
      refine g_iast S ia_11 dX8_wind_32 hf (fun hf => ?_)
      refine g_iload_n 0 S dX8_wind_33 rfl ?_
      exact g_iretM rt hf dX8_wind_34
    · refine g_iconst (v := (-1)) S dX8_wind_17 rfl ?_
      exact g_iretM rt hf dX8_wind_18
  · refine g_iconst (v := (-1)) S dX8_wind_17 rfl ?_
    exact g_iretM rt hf dX8_wind_18
-- BridleBookModel.line(III)I
theorem dX8_line_0 : decode cX8_line 0 = .ok (.iload_n 1, 1) := by decide +kernel
theorem dX8_line_1 : decode cX8_line 1 = .ok (.iconst 1, 1) := by decide +kernel
theorem dX8_line_2 : decode cX8_line 2 = .ok (.sipush 200, 3) := by decide +kernel
theorem dX8_line_5 : decode cX8_line 5 = .ok (.invokestatic 111, 3) := by decide +kernel
theorem dX8_line_8 : decode cX8_line 8 = .ok (.ifCond .eq 23, 3) := by decide +kernel
theorem dX8_line_11 : decode cX8_line 11 = .ok (.iload_n 2, 1) := by decide +kernel
theorem dX8_line_12 : decode cX8_line 12 = .ok (.iconst 1, 1) := by decide +kernel
theorem dX8_line_13 : decode cX8_line 13 = .ok (.ldc 156, 2) := by decide +kernel
theorem dX8_line_15 : decode cX8_line 15 = .ok (.invokestatic 111, 3) := by decide +kernel
theorem dX8_line_18 : decode cX8_line 18 = .ok (.ifCond .eq 13, 3) := by decide +kernel
theorem dX8_line_21 : decode cX8_line 21 = .ok (.iload_n 3, 1) := by decide +kernel
theorem dX8_line_22 : decode cX8_line 22 = .ok (.iconst 0, 1) := by decide +kernel
theorem dX8_line_23 : decode cX8_line 23 = .ok (.bipush 9, 2) := by decide +kernel
theorem dX8_line_25 : decode cX8_line 25 = .ok (.invokestatic 111, 3) := by decide +kernel
theorem dX8_line_28 : decode cX8_line 28 = .ok (.ifCond .ne 5, 3) := by decide +kernel
theorem dX8_line_31 : decode cX8_line 31 = .ok (.iconst (-1), 1) := by decide +kernel
theorem dX8_line_32 : decode cX8_line 32 = .ok (.ireturn, 1) := by decide +kernel
theorem dX8_line_33 : decode cX8_line 33 = .ok (.aload_n 0, 1) := by decide +kernel
theorem dX8_line_34 : decode cX8_line 34 = .ok (.getfield 153, 3) := by decide +kernel
theorem dX8_line_37 : decode cX8_line 37 = .ok (.bipush 10, 2) := by decide +kernel
theorem dX8_line_39 : decode cX8_line 39 = .ok (.if_icmp .ne 6, 3) := by decide +kernel
theorem dX8_line_42 : decode cX8_line 42 = .ok (.bipush (-3), 2) := by decide +kernel
theorem dX8_line_44 : decode cX8_line 44 = .ok (.ireturn, 1) := by decide +kernel
theorem dX8_line_45 : decode cX8_line 45 = .ok (.aload_n 0, 1) := by decide +kernel
theorem dX8_line_46 : decode cX8_line 46 = .ok (.getfield 44, 3) := by decide +kernel
theorem dX8_line_49 : decode cX8_line 49 = .ok (.aload_n 0, 1) := by decide +kernel
theorem dX8_line_50 : decode cX8_line 50 = .ok (.getfield 153, 3) := by decide +kernel
theorem dX8_line_53 : decode cX8_line 53 = .ok (.iload_n 1, 1) := by decide +kernel
theorem dX8_line_54 : decode cX8_line 54 = .ok (.iastore, 1) := by decide +kernel
theorem dX8_line_55 : decode cX8_line 55 = .ok (.aload_n 0, 1) := by decide +kernel
theorem dX8_line_56 : decode cX8_line 56 = .ok (.getfield 47, 3) := by decide +kernel
theorem dX8_line_59 : decode cX8_line 59 = .ok (.aload_n 0, 1) := by decide +kernel
theorem dX8_line_60 : decode cX8_line 60 = .ok (.getfield 153, 3) := by decide +kernel
theorem dX8_line_63 : decode cX8_line 63 = .ok (.iload_n 2, 1) := by decide +kernel
theorem dX8_line_64 : decode cX8_line 64 = .ok (.iastore, 1) := by decide +kernel
theorem dX8_line_65 : decode cX8_line 65 = .ok (.aload_n 0, 1) := by decide +kernel
theorem dX8_line_66 : decode cX8_line 66 = .ok (.getfield 50, 3) := by decide +kernel
theorem dX8_line_69 : decode cX8_line 69 = .ok (.aload_n 0, 1) := by decide +kernel
theorem dX8_line_70 : decode cX8_line 70 = .ok (.getfield 153, 3) := by decide +kernel
theorem dX8_line_73 : decode cX8_line 73 = .ok (.iload_n 3, 1) := by decide +kernel
theorem dX8_line_74 : decode cX8_line 74 = .ok (.iastore, 1) := by decide +kernel
theorem dX8_line_75 : decode cX8_line 75 = .ok (.aload_n 0, 1) := by decide +kernel
theorem dX8_line_76 : decode cX8_line 76 = .ok (.getfield 87, 3) := by decide +kernel
theorem dX8_line_79 : decode cX8_line 79 = .ok (.aload_n 0, 1) := by decide +kernel
theorem dX8_line_80 : decode cX8_line 80 = .ok (.getfield 153, 3) := by decide +kernel
theorem dX8_line_83 : decode cX8_line 83 = .ok (.iconst (-1), 1) := by decide +kernel
theorem dX8_line_84 : decode cX8_line 84 = .ok (.iastore, 1) := by decide +kernel
theorem dX8_line_85 : decode cX8_line 85 = .ok (.aload_n 0, 1) := by decide +kernel
theorem dX8_line_86 : decode cX8_line 86 = .ok (.dup, 1) := by decide +kernel
theorem dX8_line_87 : decode cX8_line 87 = .ok (.getfield 153, 3) := by decide +kernel
theorem dX8_line_90 : decode cX8_line 90 = .ok (.iconst 1, 1) := by decide +kernel
theorem dX8_line_91 : decode cX8_line 91 = .ok (.iadd, 1) := by decide +kernel
theorem dX8_line_92 : decode cX8_line 92 = .ok (.putfield 153, 3) := by decide +kernel
theorem dX8_line_95 : decode cX8_line 95 = .ok (.aload_n 0, 1) := by decide +kernel
theorem dX8_line_96 : decode cX8_line 96 = .ok (.getfield 153, 3) := by decide +kernel
theorem dX8_line_99 : decode cX8_line 99 = .ok (.iconst 1, 1) := by decide +kernel
theorem dX8_line_100 : decode cX8_line 100 = .ok (.isub, 1) := by decide +kernel
theorem dX8_line_101 : decode cX8_line 101 = .ok (.ireturn, 1) := by decide +kernel
def f_X8_line (z : Nat → Nat) (M : Mem) (p1 : Int32) (p2 : Int32) (p3 : Int32) : Option (Int32 × Mem) := bd1 (f_X8_in z M p1 1 200) (fun r1 => if r1 = true then bd1 (f_X8_in z M p2 1 99999) (fun r2 => if r2 = true then bd1 (f_X8_in z M p3 0 9) (fun r3 => if r3 = true then if (M 0 12) = 10 then some ((-3), M) else ck (inb (M 0 12) 10) (ck (inb ((mu M 13 (Int32.toNatClampNeg (M 0 12)) p1) 0 12) 10) (lt (mu (mu M 13 (Int32.toNatClampNeg (M 0 12)) p1) 14 (Int32.toNatClampNeg ((mu M 13 (Int32.toNatClampNeg (M 0 12)) p1) 0 12)) p2) (fun M4 => ck (inb (M4 0 12) 10) (ck (inb ((mu M4 15 (Int32.toNatClampNeg (M4 0 12)) p3) 0 12) 10) (lt (mu (mu M4 15 (Int32.toNatClampNeg (M4 0 12)) p3) 28 (Int32.toNatClampNeg ((mu M4 15 (Int32.toNatClampNeg (M4 0 12)) p3) 0 12)) (-1)) (fun M5 => some ((((mu M5 0 12 ((M5 0 12) + 1)) 0 12) - 1), (mu M5 0 12 ((M5 0 12) + 1))))))))) else some ((-1), M)) else some ((-1), M)) else some ((-1), M))
theorem c_X8_line {l : Launch} {G : GG} {a : AA} {M : Mem} {p1 : Int32} {p2 : Int32} {p3 : Int32} {r : Int32} {M' : Mem} (hf : f_X8_line a.1 M p1 p2 p3 = some (r, M')) : CtI l G a yX8_line cX8_line 4 .int (rmD 1) [.ref (a.2 0), .int p1, .int p2, .int p3] M r M' := by
  refine ct_I (by decide) rfl rfl (own := RX8) (Nat.le_of_ble_eq_true rfl) (fun K hl hg S rt => ?_)
  subst hl; subst hg
  unfold f_X8_line at hf
  show Go K 4 a M 0 [(0, .ref (a.2 0)), (1, .int p1), (2, .int p2), (3, .int p3)] []
  refine g_iload_n 1 S dX8_line_0 rfl ?_
  refine g_iconst (v := 1) S dX8_line_1 rfl ?_
  refine g_sipush (v := 200) S dX8_line_2 rfl ?_
  obtain ⟨r1, hr1, hf⟩ := bd1_some hf
  refine g_cSI (st := []) S ok_X8_in lk_X8_111 (c_X8_in hr1) rfl rfl ⟨by decide, by decide⟩ (rmD_z _) (Nat.le_of_ble_eq_true rfl) dX8_line_5 ?_
  refine g_if_eqB (tgt := 31) S dX8_line_8 (by decide) hf (fun c hf => ?_) (fun c hf => ?_)
  · refine g_iload_n 2 S dX8_line_11 rfl ?_
    refine g_iconst (v := 1) S dX8_line_12 rfl ?_
    refine g_ldc S lc_X8_156 dX8_line_13 ?_
    obtain ⟨r2, hr2, hf⟩ := bd1_some hf
    refine g_cSI (st := []) S ok_X8_in lk_X8_111 (c_X8_in hr2) rfl rfl ⟨by decide, by decide⟩ (rmD_z _) (Nat.le_of_ble_eq_true rfl) dX8_line_15 ?_
    refine g_if_eqB (tgt := 31) S dX8_line_18 (by decide) hf (fun c hf => ?_) (fun c hf => ?_)
    · refine g_iload_n 3 S dX8_line_21 rfl ?_
      refine g_iconst (v := 0) S dX8_line_22 rfl ?_
      refine g_bipush (v := 9) S dX8_line_23 rfl ?_
      obtain ⟨r3, hr3, hf⟩ := bd1_some hf
      refine g_cSI (st := []) S ok_X8_in lk_X8_111 (c_X8_in hr3) rfl rfl ⟨by decide, by decide⟩ (rmD_z _) (Nat.le_of_ble_eq_true rfl) dX8_line_25 ?_
      refine g_if_neB (tgt := 33) S dX8_line_28 (by decide) hf (fun c hf => ?_) (fun c hf => ?_)
      · refine g_aload_n 0 S dX8_line_33 rfl ?_
        refine g_get (v := .int (M 0 12)) S ob_0 rfl gi_X8 (by decide) lf_X8_153 rfl dX8_line_34 ?_
        refine g_bipush (v := 10) S dX8_line_37 rfl ?_
        refine g_icmp_ne (tgt := 45) S dX8_line_39 (by decide) hf (fun c hf => ?_) (fun c hf => ?_)
        · refine g_bipush (v := (-3)) S dX8_line_42 rfl ?_
          exact g_iretM rt hf dX8_line_44
        · refine g_aload_n 0 S dX8_line_45 rfl ?_
          refine g_get (v := .ref (a.2 13)) S ob_0 rfl gi_X8 (by decide) lf_X8_44 rfl dX8_line_46 ?_
          refine g_aload_n 0 S dX8_line_49 rfl ?_
          refine g_get (v := .int (M 0 12)) S ob_0 rfl gi_X8 (by decide) lf_X8_153 rfl dX8_line_50 ?_
          refine g_iload_n 1 S dX8_line_53 rfl ?_
          refine g_iast S ia_13 dX8_line_54 hf (fun hf => ?_)
          refine g_aload_n 0 S dX8_line_55 rfl ?_
          refine g_get (v := .ref (a.2 14)) S ob_0 rfl gi_X8 (by decide) lf_X8_47 rfl dX8_line_56 ?_
          refine g_aload_n 0 S dX8_line_59 rfl ?_
          refine g_get (v := .int ((mu M 13 (Int32.toNatClampNeg (M 0 12)) p1) 0 12)) S ob_0 rfl gi_X8 (by decide) lf_X8_153 rfl dX8_line_60 ?_
          refine g_iload_n 2 S dX8_line_63 rfl ?_
          refine g_iast S ia_14 dX8_line_64 hf (fun hf => ?_)
          obtain ⟨M4, eM4, hf⟩ := lt_some hf
          refine Go.M eM4 ?_
          refine g_aload_n 0 S dX8_line_65 rfl ?_
          refine g_get (v := .ref (a.2 15)) S ob_0 rfl gi_X8 (by decide) lf_X8_50 rfl dX8_line_66 ?_
          refine g_aload_n 0 S dX8_line_69 rfl ?_
          refine g_get (v := .int (M4 0 12)) S ob_0 rfl gi_X8 (by decide) lf_X8_153 rfl dX8_line_70 ?_
          refine g_iload_n 3 S dX8_line_73 rfl ?_
          refine g_iast S ia_15 dX8_line_74 hf (fun hf => ?_)
          refine g_aload_n 0 S dX8_line_75 rfl ?_
          refine g_get (v := .ref (a.2 28)) S ob_0 rfl gi_X8 (by decide) lf_X8_87 rfl dX8_line_76 ?_
          refine g_aload_n 0 S dX8_line_79 rfl ?_
          refine g_get (v := .int ((mu M4 15 (Int32.toNatClampNeg (M4 0 12)) p3) 0 12)) S ob_0 rfl gi_X8 (by decide) lf_X8_153 rfl dX8_line_80 ?_
          refine g_iconst (v := (-1)) S dX8_line_83 rfl ?_
          refine g_iast S ia_28 dX8_line_84 hf (fun hf => ?_)
          obtain ⟨M5, eM5, hf⟩ := lt_some hf
          refine Go.M eM5 ?_
          refine g_aload_n 0 S dX8_line_85 rfl ?_
          refine g_dup S dX8_line_86 rfl ?_
          refine g_get (v := .int (M5 0 12)) S ob_0 rfl gi_X8 (by decide) lf_X8_153 rfl dX8_line_87 ?_
          refine g_iconst (v := 1) S dX8_line_90 rfl ?_
          refine g_iadd S dX8_line_91 ?_
          refine g_put (ty := .int) S ob_0 rfl gi_X8 tyX8_ok nmX8 (by decide) lf_X8_153 rfl (by decide +kernel) rfl rfl (Nat.le_of_ble_eq_true rfl) rfl dX8_line_92 ?_
          refine g_aload_n 0 S dX8_line_95 rfl ?_
          refine g_get (v := .int ((mu M5 0 12 ((M5 0 12) + 1)) 0 12)) S ob_0 rfl gi_X8 (by decide) lf_X8_153 rfl dX8_line_96 ?_
          refine g_iconst (v := 1) S dX8_line_99 rfl ?_
          refine g_isub S dX8_line_100 ?_
          exact g_iretM rt hf dX8_line_101
      · refine g_iconst (v := (-1)) S dX8_line_31 rfl ?_
        exact g_iretM rt hf dX8_line_32
    · refine g_iconst (v := (-1)) S dX8_line_31 rfl ?_
      exact g_iretM rt hf dX8_line_32
  · refine g_iconst (v := (-1)) S dX8_line_31 rfl ?_
    exact g_iretM rt hf dX8_line_32
-- BridleBookModel.kitesOn(I)I
theorem dX8_kitesOn_0 : decode cX8_kitesOn 0 = .ok (.iconst 0, 1) := by decide +kernel
theorem dX8_kitesOn_1 : decode cX8_kitesOn 1 = .ok (.istore_n 2, 1) := by decide +kernel
theorem dX8_kitesOn_2 : decode cX8_kitesOn 2 = .ok (.iconst 0, 1) := by decide +kernel
theorem dX8_kitesOn_3 : decode cX8_kitesOn 3 = .ok (.istore_n 3, 1) := by decide +kernel
theorem dX8_kitesOn_4 : decode cX8_kitesOn 4 = .ok (.iload_n 3, 1) := by decide +kernel
theorem dX8_kitesOn_5 : decode cX8_kitesOn 5 = .ok (.aload_n 0, 1) := by decide +kernel
theorem dX8_kitesOn_6 : decode cX8_kitesOn 6 = .ok (.getfield 108, 3) := by decide +kernel
theorem dX8_kitesOn_9 : decode cX8_kitesOn 9 = .ok (.if_icmp .ge 27, 3) := by decide +kernel
theorem dX8_kitesOn_12 : decode cX8_kitesOn 12 = .ok (.iload_n 2, 1) := by decide +kernel
theorem dX8_kitesOn_13 : decode cX8_kitesOn 13 = .ok (.aload_n 0, 1) := by decide +kernel
theorem dX8_kitesOn_14 : decode cX8_kitesOn 14 = .ok (.getfield 29, 3) := by decide +kernel
theorem dX8_kitesOn_17 : decode cX8_kitesOn 17 = .ok (.iload_n 3, 1) := by decide +kernel
theorem dX8_kitesOn_18 : decode cX8_kitesOn 18 = .ok (.iaload, 1) := by decide +kernel
theorem dX8_kitesOn_19 : decode cX8_kitesOn 19 = .ok (.iload_n 1, 1) := by decide +kernel
theorem dX8_kitesOn_20 : decode cX8_kitesOn 20 = .ok (.if_icmp .ne 7, 3) := by decide +kernel
theorem dX8_kitesOn_23 : decode cX8_kitesOn 23 = .ok (.iconst 1, 1) := by decide +kernel
theorem dX8_kitesOn_24 : decode cX8_kitesOn 24 = .ok (.goto 4, 3) := by decide +kernel
theorem dX8_kitesOn_27 : decode cX8_kitesOn 27 = .ok (.iconst 0, 1) := by decide +kernel
theorem dX8_kitesOn_28 : decode cX8_kitesOn 28 = .ok (.iadd, 1) := by decide +kernel
theorem dX8_kitesOn_29 : decode cX8_kitesOn 29 = .ok (.istore_n 2, 1) := by decide +kernel
theorem dX8_kitesOn_30 : decode cX8_kitesOn 30 = .ok (.iinc 3 1, 3) := by decide +kernel
theorem dX8_kitesOn_33 : decode cX8_kitesOn 33 = .ok (.goto (-29), 3) := by decide +kernel
theorem dX8_kitesOn_36 : decode cX8_kitesOn 36 = .ok (.iload_n 2, 1) := by decide +kernel
theorem dX8_kitesOn_37 : decode cX8_kitesOn 37 = .ok (.ireturn, 1) := by decide +kernel
def f_X8_kitesOn_4 (z : Nat → Nat) (M : Mem) : Nat → Int32 → Int32 → Int32 → Option Int32
  | 0, _, _, _ => none
  | fu + 1, x1, x2, x3 => if (M 0 1) ≤ x3 then some x2 else ck (inb x3 20) (if (M 7 (Int32.toNatClampNeg x3)) = x1 then f_X8_kitesOn_4 z M fu x1 (x2 + 1) (x3 + 1) else f_X8_kitesOn_4 z M fu x1 (x2 + 0) (x3 + 1))
theorem t_X8_kitesOn_4 {K : KK} {a : AA} (S : Sx K RX8 cX8_kitesOn 4 (rmD 0)) {r : Int32} {M : Mem} (rt : RtI K a cX8_kitesOn r M) : ∀ (fu : Nat) (x1 : Int32) (x2 : Int32) (x3 : Int32), f_X8_kitesOn_4 a.1 M fu x1 x2 x3 = some r → Go K 4 a M 4 [(0, .ref (a.2 0)), (1, .int x1), (2, .int x2), (3, .int x3)] [] := by
  intro fu
  induction fu with
  | zero => intro x1 x2 x3 hf; exact absurd hf (by simp [f_X8_kitesOn_4])
  | succ fu ih =>
    intro x1 x2 x3 hf
    rw [f_X8_kitesOn_4] at hf
    refine g_iload_n 3 S dX8_kitesOn_4 rfl ?_
    refine g_aload_n 0 S dX8_kitesOn_5 rfl ?_
    refine g_get (v := .int (M 0 1)) S ob_0 rfl gi_X8 (by decide) lf_X8_108 rfl dX8_kitesOn_6 ?_
    refine g_icmp_ge (tgt := 36) S dX8_kitesOn_9 (by decide) hf (fun c hf => ?_) (fun c hf => ?_)
    · refine g_iload_n 2 S dX8_kitesOn_36 rfl ?_
      exact g_iretP rt hf dX8_kitesOn_37
    · refine g_iload_n 2 S dX8_kitesOn_12 rfl ?_
      refine g_aload_n 0 S dX8_kitesOn_13 rfl ?_
      refine g_get (v := .ref (a.2 7)) S ob_0 rfl gi_X8 (by decide) lf_X8_29 rfl dX8_kitesOn_14 ?_
      refine g_iload_n 3 S dX8_kitesOn_17 rfl ?_
      refine g_iald S ia_7 dX8_kitesOn_18 hf (fun hf => ?_)
      refine g_iload_n 1 S dX8_kitesOn_19 rfl ?_
      refine g_icmp_ne (tgt := 27) S dX8_kitesOn_20 (by decide) hf (fun c hf => ?_) (fun c hf => ?_)
      · refine g_iconst (v := 1) S dX8_kitesOn_23 rfl ?_
        refine g_goto (tgt := 28) S dX8_kitesOn_24 (by decide) ?_
        refine g_iadd S dX8_kitesOn_28 ?_
        refine g_istore_n (lv' := [(2, .int (x2 + 1)), (0, .ref (a.2 0)), (1, .int x1), (3, .int x3)]) S dX8_kitesOn_29 (by decide) rfl ?_
        refine g_iinc (v := (x3 + 1)) (lv' := [(3, .int (x3 + 1)), (2, .int (x2 + 1)), (0, .ref (a.2 0)), (1, .int x1)]) 3 S dX8_kitesOn_30 rfl rfl (by decide) rfl ?_
        refine g_goto (tgt := 4) S dX8_kitesOn_33 (by decide) ?_
        refine Go.sub [2, 3, 1, 0] rfl ?_
        exact ih _ _ _ hf
      · refine g_iconst (v := 0) S dX8_kitesOn_27 rfl ?_
        refine g_iadd S dX8_kitesOn_28 ?_
        refine g_istore_n (lv' := [(2, .int (x2 + 0)), (0, .ref (a.2 0)), (1, .int x1), (3, .int x3)]) S dX8_kitesOn_29 (by decide) rfl ?_
        refine g_iinc (v := (x3 + 1)) (lv' := [(3, .int (x3 + 1)), (2, .int (x2 + 0)), (0, .ref (a.2 0)), (1, .int x1)]) 3 S dX8_kitesOn_30 rfl rfl (by decide) rfl ?_
        refine g_goto (tgt := 4) S dX8_kitesOn_33 (by decide) ?_
        refine Go.sub [2, 3, 1, 0] rfl ?_
        exact ih _ _ _ hf
def f_X8_kitesOn (z : Nat → Nat) (M : Mem) (p1 : Int32) : Option Int32 := f_X8_kitesOn_4 z M 1000 p1 0 0
theorem c_X8_kitesOn {l : Launch} {G : GG} {a : AA} {M : Mem} {p1 : Int32} {r : Int32} (hf : f_X8_kitesOn a.1 M p1 = some r) : CtI l G a yX8_kitesOn cX8_kitesOn 4 .int (rmD 0) [.ref (a.2 0), .int p1] M r M := by
  refine ct_I (by decide) rfl rfl (own := RX8) (Nat.le_of_ble_eq_true rfl) (fun K hl hg S rt => ?_)
  subst hl; subst hg
  unfold f_X8_kitesOn at hf
  show Go K 4 a M 0 [(0, .ref (a.2 0)), (1, .int p1)] []
  refine g_iconst (v := 0) S dX8_kitesOn_0 rfl ?_
  refine g_istore_n (lv' := [(2, .int 0), (0, .ref (a.2 0)), (1, .int p1)]) S dX8_kitesOn_1 (by decide) rfl ?_
  refine g_iconst (v := 0) S dX8_kitesOn_2 rfl ?_
  refine g_istore_n (lv' := [(3, .int 0), (2, .int 0), (0, .ref (a.2 0)), (1, .int p1)]) S dX8_kitesOn_3 (by decide) rfl ?_
  refine Go.sub [2, 3, 1, 0] rfl ?_
  exact t_X8_kitesOn_4  S rt 1000 _ _ _ hf
-- BridleBookModel.tie(III)I
theorem dX8_tie_0 : decode cX8_tie 0 = .ok (.aload_n 0, 1) := by decide +kernel
theorem dX8_tie_1 : decode cX8_tie 1 = .ok (.iload_n 1, 1) := by decide +kernel
theorem dX8_tie_2 : decode cX8_tie 2 = .ok (.invokevirtual 115, 3) := by decide +kernel
theorem dX8_tie_5 : decode cX8_tie 5 = .ok (.ifCond .eq 20, 3) := by decide +kernel
theorem dX8_tie_8 : decode cX8_tie 8 = .ok (.aload_n 0, 1) := by decide +kernel
theorem dX8_tie_9 : decode cX8_tie 9 = .ok (.iload_n 2, 1) := by decide +kernel
theorem dX8_tie_10 : decode cX8_tie 10 = .ok (.invokevirtual 157, 3) := by decide +kernel
theorem dX8_tie_13 : decode cX8_tie 13 = .ok (.ifCond .eq 12, 3) := by decide +kernel
theorem dX8_tie_16 : decode cX8_tie 16 = .ok (.aload_n 0, 1) := by decide +kernel
theorem dX8_tie_17 : decode cX8_tie 17 = .ok (.iload_n 2, 1) := by decide +kernel
theorem dX8_tie_18 : decode cX8_tie 18 = .ok (.iload_n 3, 1) := by decide +kernel
theorem dX8_tie_19 : decode cX8_tie 19 = .ok (.invokevirtual 160, 3) := by decide +kernel
theorem dX8_tie_22 : decode cX8_tie 22 = .ok (.ifCond .ne 5, 3) := by decide +kernel
theorem dX8_tie_25 : decode cX8_tie 25 = .ok (.iconst (-1), 1) := by decide +kernel
theorem dX8_tie_26 : decode cX8_tie 26 = .ok (.ireturn, 1) := by decide +kernel
theorem dX8_tie_27 : decode cX8_tie 27 = .ok (.aload_n 0, 1) := by decide +kernel
theorem dX8_tie_28 : decode cX8_tie 28 = .ok (.getfield 29, 3) := by decide +kernel
theorem dX8_tie_31 : decode cX8_tie 31 = .ok (.iload_n 1, 1) := by decide +kernel
theorem dX8_tie_32 : decode cX8_tie 32 = .ok (.iaload, 1) := by decide +kernel
theorem dX8_tie_33 : decode cX8_tie 33 = .ok (.ifCond .lt 6, 3) := by decide +kernel
theorem dX8_tie_36 : decode cX8_tie 36 = .ok (.bipush (-2), 2) := by decide +kernel
theorem dX8_tie_38 : decode cX8_tie 38 = .ok (.ireturn, 1) := by decide +kernel
theorem dX8_tie_39 : decode cX8_tie 39 = .ok (.aload_n 0, 1) := by decide +kernel
theorem dX8_tie_40 : decode cX8_tie 40 = .ok (.getfield 29, 3) := by decide +kernel
theorem dX8_tie_43 : decode cX8_tie 43 = .ok (.iload_n 1, 1) := by decide +kernel
theorem dX8_tie_44 : decode cX8_tie 44 = .ok (.iload_n 2, 1) := by decide +kernel
theorem dX8_tie_45 : decode cX8_tie 45 = .ok (.iastore, 1) := by decide +kernel
theorem dX8_tie_46 : decode cX8_tie 46 = .ok (.aload_n 0, 1) := by decide +kernel
theorem dX8_tie_47 : decode cX8_tie 47 = .ok (.getfield 32, 3) := by decide +kernel
theorem dX8_tie_50 : decode cX8_tie 50 = .ok (.iload_n 1, 1) := by decide +kernel
theorem dX8_tie_51 : decode cX8_tie 51 = .ok (.iload_n 3, 1) := by decide +kernel
theorem dX8_tie_52 : decode cX8_tie 52 = .ok (.iastore, 1) := by decide +kernel
theorem dX8_tie_53 : decode cX8_tie 53 = .ok (.aload_n 0, 1) := by decide +kernel
theorem dX8_tie_54 : decode cX8_tie 54 = .ok (.iload_n 2, 1) := by decide +kernel
theorem dX8_tie_55 : decode cX8_tie 55 = .ok (.invokevirtual 164, 3) := by decide +kernel
theorem dX8_tie_58 : decode cX8_tie 58 = .ok (.ireturn, 1) := by decide +kernel
def f_X8_tie (z : Nat → Nat) (M : Mem) (p1 : Int32) (p2 : Int32) (p3 : Int32) : Option (Int32 × Mem) := bd1 (f_X8_isKite z M p1) (fun r1 => if r1 = true then bd1 (f_X8_isLine z M p2) (fun r2 => if r2 = true then bd1 (f_X8_isStep z M p2 p3) (fun r3 => if r3 = true then ck (inb p1 20) (if (M 7 (Int32.toNatClampNeg p1)) < 0 then ck (inb p1 20) (ck (inb p1 20) (lt (mu (mu M 7 (Int32.toNatClampNeg p1) p2) 8 (Int32.toNatClampNeg p1) p3) (fun M4 => bd1 (f_X8_kitesOn z M4 p2) (fun r5 => some (r5, M4))))) else some ((-2), M)) else some ((-1), M)) else some ((-1), M)) else some ((-1), M))
theorem c_X8_tie {l : Launch} {G : GG} {a : AA} {M : Mem} {p1 : Int32} {p2 : Int32} {p3 : Int32} {r : Int32} {M' : Mem} (hf : f_X8_tie a.1 M p1 p2 p3 = some (r, M')) : CtI l G a yX8_tie cX8_tie 4 .int (rmD 2) [.ref (a.2 0), .int p1, .int p2, .int p3] M r M' := by
  refine ct_I (by decide) rfl rfl (own := RX8) (Nat.le_of_ble_eq_true rfl) (fun K hl hg S rt => ?_)
  subst hl; subst hg
  unfold f_X8_tie at hf
  show Go K 4 a M 0 [(0, .ref (a.2 0)), (1, .int p1), (2, .int p2), (3, .int p3)] []
  refine g_aload_n 0 S dX8_tie_0 rfl ?_
  refine g_iload_n 1 S dX8_tie_1 rfl ?_
  obtain ⟨r1, hr1, hf⟩ := bd1_some hf
  refine g_cVI (st := []) S ob_0 rfl ok_X8_isKite lk_X8_115 (c_X8_isKite hr1) rfl rfl ⟨by decide, by decide⟩ (rmD_z _) (Nat.le_of_ble_eq_true rfl) dX8_tie_2 ?_
  refine g_if_eqB (tgt := 25) S dX8_tie_5 (by decide) hf (fun c hf => ?_) (fun c hf => ?_)
  · refine g_aload_n 0 S dX8_tie_8 rfl ?_
    refine g_iload_n 2 S dX8_tie_9 rfl ?_
    obtain ⟨r2, hr2, hf⟩ := bd1_some hf
    refine g_cVI (st := []) S ob_0 rfl ok_X8_isLine lk_X8_157 (c_X8_isLine hr2) rfl rfl ⟨by decide, by decide⟩ (rmD_z _) (Nat.le_of_ble_eq_true rfl) dX8_tie_10 ?_
    refine g_if_eqB (tgt := 25) S dX8_tie_13 (by decide) hf (fun c hf => ?_) (fun c hf => ?_)
    · refine g_aload_n 0 S dX8_tie_16 rfl ?_
      refine g_iload_n 2 S dX8_tie_17 rfl ?_
      refine g_iload_n 3 S dX8_tie_18 rfl ?_
      obtain ⟨r3, hr3, hf⟩ := bd1_some hf
      refine g_cVI (st := []) S ob_0 rfl ok_X8_isStep lk_X8_160 (c_X8_isStep hr3) rfl rfl ⟨by decide, by decide⟩ (rmD_z _) (Nat.le_of_ble_eq_true rfl) dX8_tie_19 ?_
      refine g_if_neB (tgt := 27) S dX8_tie_22 (by decide) hf (fun c hf => ?_) (fun c hf => ?_)
      · refine g_aload_n 0 S dX8_tie_27 rfl ?_
        refine g_get (v := .ref (a.2 7)) S ob_0 rfl gi_X8 (by decide) lf_X8_29 rfl dX8_tie_28 ?_
        refine g_iload_n 1 S dX8_tie_31 rfl ?_
        refine g_iald S ia_7 dX8_tie_32 hf (fun hf => ?_)
        refine g_if_lt (tgt := 39) S dX8_tie_33 (by decide) hf (fun c hf => ?_) (fun c hf => ?_)
        · refine g_aload_n 0 S dX8_tie_39 rfl ?_
          refine g_get (v := .ref (a.2 7)) S ob_0 rfl gi_X8 (by decide) lf_X8_29 rfl dX8_tie_40 ?_
          refine g_iload_n 1 S dX8_tie_43 rfl ?_
          refine g_iload_n 2 S dX8_tie_44 rfl ?_
          refine g_iast S ia_7 dX8_tie_45 hf (fun hf => ?_)
          refine g_aload_n 0 S dX8_tie_46 rfl ?_
          refine g_get (v := .ref (a.2 8)) S ob_0 rfl gi_X8 (by decide) lf_X8_32 rfl dX8_tie_47 ?_
          refine g_iload_n 1 S dX8_tie_50 rfl ?_
          refine g_iload_n 3 S dX8_tie_51 rfl ?_
          refine g_iast S ia_8 dX8_tie_52 hf (fun hf => ?_)
          obtain ⟨M4, eM4, hf⟩ := lt_some hf
          refine Go.M eM4 ?_
          refine g_aload_n 0 S dX8_tie_53 rfl ?_
          refine g_iload_n 2 S dX8_tie_54 rfl ?_
          obtain ⟨r5, hr5, hf⟩ := bd1_some hf
          refine g_cVI (st := []) S ob_0 rfl ok_X8_kitesOn lk_X8_164 (c_X8_kitesOn hr5) rfl rfl ⟨by decide, by decide⟩ (rmD_z _) (Nat.le_of_ble_eq_true rfl) dX8_tie_55 ?_
          exact g_iretM rt hf dX8_tie_58
        · refine g_bipush (v := (-2)) S dX8_tie_36 rfl ?_
          exact g_iretM rt hf dX8_tie_38
      · refine g_iconst (v := (-1)) S dX8_tie_25 rfl ?_
        exact g_iretM rt hf dX8_tie_26
    · refine g_iconst (v := (-1)) S dX8_tie_25 rfl ?_
      exact g_iretM rt hf dX8_tie_26
  · refine g_iconst (v := (-1)) S dX8_tie_25 rfl ?_
    exact g_iretM rt hf dX8_tie_26
-- BridleBookModel.untie(I)I
theorem dX8_untie_0 : decode cX8_untie 0 = .ok (.aload_n 0, 1) := by decide +kernel
theorem dX8_untie_1 : decode cX8_untie 1 = .ok (.iload_n 1, 1) := by decide +kernel
theorem dX8_untie_2 : decode cX8_untie 2 = .ok (.invokevirtual 115, 3) := by decide +kernel
theorem dX8_untie_5 : decode cX8_untie 5 = .ok (.ifCond .ne 5, 3) := by decide +kernel
theorem dX8_untie_8 : decode cX8_untie 8 = .ok (.iconst (-1), 1) := by decide +kernel
theorem dX8_untie_9 : decode cX8_untie 9 = .ok (.ireturn, 1) := by decide +kernel
theorem dX8_untie_10 : decode cX8_untie 10 = .ok (.aload_n 0, 1) := by decide +kernel
theorem dX8_untie_11 : decode cX8_untie 11 = .ok (.getfield 29, 3) := by decide +kernel
theorem dX8_untie_14 : decode cX8_untie 14 = .ok (.iload_n 1, 1) := by decide +kernel
theorem dX8_untie_15 : decode cX8_untie 15 = .ok (.iaload, 1) := by decide +kernel
theorem dX8_untie_16 : decode cX8_untie 16 = .ok (.ifCond .ge 6, 3) := by decide +kernel
theorem dX8_untie_19 : decode cX8_untie 19 = .ok (.bipush (-2), 2) := by decide +kernel
theorem dX8_untie_21 : decode cX8_untie 21 = .ok (.ireturn, 1) := by decide +kernel
theorem dX8_untie_22 : decode cX8_untie 22 = .ok (.aload_n 0, 1) := by decide +kernel
theorem dX8_untie_23 : decode cX8_untie 23 = .ok (.getfield 29, 3) := by decide +kernel
theorem dX8_untie_26 : decode cX8_untie 26 = .ok (.iload_n 1, 1) := by decide +kernel
theorem dX8_untie_27 : decode cX8_untie 27 = .ok (.iaload, 1) := by decide +kernel
theorem dX8_untie_28 : decode cX8_untie 28 = .ok (.istore_n 2, 1) := by decide +kernel
theorem dX8_untie_29 : decode cX8_untie 29 = .ok (.aload_n 0, 1) := by decide +kernel
theorem dX8_untie_30 : decode cX8_untie 30 = .ok (.getfield 29, 3) := by decide +kernel
theorem dX8_untie_33 : decode cX8_untie 33 = .ok (.iload_n 1, 1) := by decide +kernel
theorem dX8_untie_34 : decode cX8_untie 34 = .ok (.iconst (-1), 1) := by decide +kernel
theorem dX8_untie_35 : decode cX8_untie 35 = .ok (.iastore, 1) := by decide +kernel
theorem dX8_untie_36 : decode cX8_untie 36 = .ok (.iload_n 2, 1) := by decide +kernel
theorem dX8_untie_37 : decode cX8_untie 37 = .ok (.ireturn, 1) := by decide +kernel
def f_X8_untie (z : Nat → Nat) (M : Mem) (p1 : Int32) : Option (Int32 × Mem) := bd1 (f_X8_isKite z M p1) (fun r1 => if r1 = true then ck (inb p1 20) (if 0 ≤ (M 7 (Int32.toNatClampNeg p1)) then ck (inb p1 20) (ck (inb p1 20) (some ((M 7 (Int32.toNatClampNeg p1)), (mu M 7 (Int32.toNatClampNeg p1) (-1))))) else some ((-2), M)) else some ((-1), M))
theorem c_X8_untie {l : Launch} {G : GG} {a : AA} {M : Mem} {p1 : Int32} {r : Int32} {M' : Mem} (hf : f_X8_untie a.1 M p1 = some (r, M')) : CtI l G a yX8_untie cX8_untie 3 .int (rmD 2) [.ref (a.2 0), .int p1] M r M' := by
  refine ct_I (by decide) rfl rfl (own := RX8) (Nat.le_of_ble_eq_true rfl) (fun K hl hg S rt => ?_)
  subst hl; subst hg
  unfold f_X8_untie at hf
  show Go K 3 a M 0 [(0, .ref (a.2 0)), (1, .int p1)] []
  refine g_aload_n 0 S dX8_untie_0 rfl ?_
  refine g_iload_n 1 S dX8_untie_1 rfl ?_
  obtain ⟨r1, hr1, hf⟩ := bd1_some hf
  refine g_cVI (st := []) S ob_0 rfl ok_X8_isKite lk_X8_115 (c_X8_isKite hr1) rfl rfl ⟨by decide, by decide⟩ (rmD_z _) (Nat.le_of_ble_eq_true rfl) dX8_untie_2 ?_
  refine g_if_neB (tgt := 10) S dX8_untie_5 (by decide) hf (fun c hf => ?_) (fun c hf => ?_)
  · refine g_aload_n 0 S dX8_untie_10 rfl ?_
    refine g_get (v := .ref (a.2 7)) S ob_0 rfl gi_X8 (by decide) lf_X8_29 rfl dX8_untie_11 ?_
    refine g_iload_n 1 S dX8_untie_14 rfl ?_
    refine g_iald S ia_7 dX8_untie_15 hf (fun hf => ?_)
    refine g_if_ge (tgt := 22) S dX8_untie_16 (by decide) hf (fun c hf => ?_) (fun c hf => ?_)
    · refine g_aload_n 0 S dX8_untie_22 rfl ?_
      refine g_get (v := .ref (a.2 7)) S ob_0 rfl gi_X8 (by decide) lf_X8_29 rfl dX8_untie_23 ?_
      refine g_iload_n 1 S dX8_untie_26 rfl ?_
      refine g_iald S ia_7 dX8_untie_27 hf (fun hf => ?_)
      refine g_istore_n (lv' := [(2, .int (M 7 (Int32.toNatClampNeg p1))), (0, .ref (a.2 0)), (1, .int p1)]) S dX8_untie_28 (by decide) rfl ?_
      refine g_aload_n 1 S dX8_untie_29 rfl ?_
      refine g_get (v := .ref (a.2 7)) S ob_0 rfl gi_X8 (by decide) lf_X8_29 rfl dX8_untie_30 ?_
      refine g_iload_n 2 S dX8_untie_33 rfl ?_
      refine g_iconst (v := (-1)) S dX8_untie_34 rfl ?_
      refine g_iast S ia_7 dX8_untie_35 hf (fun hf => ?_)
      refine g_iload_n 0 S dX8_untie_36 rfl ?_
      exact g_iretM rt hf dX8_untie_37
    · refine g_bipush (v := (-2)) S dX8_untie_19 rfl ?_
      exact g_iretM rt hf dX8_untie_21
  · refine g_iconst (v := (-1)) S dX8_untie_8 rfl ?_
    exact g_iretM rt hf dX8_untie_9
-- BridleBookModel.isWeak(II)Z
theorem dX8_isWeak_0 : decode cX8_isWeak 0 = .ok (.iconst 0, 1) := by decide +kernel
theorem dX8_isWeak_1 : decode cX8_isWeak 1 = .ok (.istore_n 3, 1) := by decide +kernel
theorem dX8_isWeak_2 : decode cX8_isWeak 2 = .ok (.iload_n 3, 1) := by decide +kernel
theorem dX8_isWeak_3 : decode cX8_isWeak 3 = .ok (.aload_n 0, 1) := by decide +kernel
theorem dX8_isWeak_4 : decode cX8_isWeak 4 = .ok (.getfield 53, 3) := by decide +kernel
theorem dX8_isWeak_7 : decode cX8_isWeak 7 = .ok (.iload_n 1, 1) := by decide +kernel
theorem dX8_isWeak_8 : decode cX8_isWeak 8 = .ok (.iaload, 1) := by decide +kernel
theorem dX8_isWeak_9 : decode cX8_isWeak 9 = .ok (.if_icmp .ge 26, 3) := by decide +kernel
theorem dX8_isWeak_12 : decode cX8_isWeak 12 = .ok (.aload_n 0, 1) := by decide +kernel
theorem dX8_isWeak_13 : decode cX8_isWeak 13 = .ok (.getfield 56, 3) := by decide +kernel
theorem dX8_isWeak_16 : decode cX8_isWeak 16 = .ok (.bipush 10, 2) := by decide +kernel
theorem dX8_isWeak_18 : decode cX8_isWeak 18 = .ok (.iload_n 1, 1) := by decide +kernel
theorem dX8_isWeak_19 : decode cX8_isWeak 19 = .ok (.imul, 1) := by decide +kernel
theorem dX8_isWeak_20 : decode cX8_isWeak 20 = .ok (.iload_n 3, 1) := by decide +kernel
theorem dX8_isWeak_21 : decode cX8_isWeak 21 = .ok (.iadd, 1) := by decide +kernel
theorem dX8_isWeak_22 : decode cX8_isWeak 22 = .ok (.iaload, 1) := by decide +kernel
theorem dX8_isWeak_23 : decode cX8_isWeak 23 = .ok (.iload_n 2, 1) := by decide +kernel
theorem dX8_isWeak_24 : decode cX8_isWeak 24 = .ok (.if_icmp .ne 5, 3) := by decide +kernel
theorem dX8_isWeak_27 : decode cX8_isWeak 27 = .ok (.iconst 1, 1) := by decide +kernel
theorem dX8_isWeak_28 : decode cX8_isWeak 28 = .ok (.ireturn, 1) := by decide +kernel
theorem dX8_isWeak_29 : decode cX8_isWeak 29 = .ok (.iinc 3 1, 3) := by decide +kernel
theorem dX8_isWeak_32 : decode cX8_isWeak 32 = .ok (.goto (-30), 3) := by decide +kernel
theorem dX8_isWeak_35 : decode cX8_isWeak 35 = .ok (.iconst 0, 1) := by decide +kernel
theorem dX8_isWeak_36 : decode cX8_isWeak 36 = .ok (.ireturn, 1) := by decide +kernel
def f_X8_isWeak_2 (z : Nat → Nat) (M : Mem) : Nat → Int32 → Int32 → Int32 → Option Bool
  | 0, _, _, _ => none
  | fu + 1, x1, x2, x3 => ck (inb x1 10) (if (M 16 (Int32.toNatClampNeg x1)) ≤ x3 then some false else ck (inb ((10 * x1) + x3) 100) (if (M 17 (Int32.toNatClampNeg ((10 * x1) + x3))) = x2 then some true else f_X8_isWeak_2 z M fu x1 x2 (x3 + 1)))
theorem t_X8_isWeak_2 {K : KK} {a : AA} (S : Sx K RX8 cX8_isWeak 4 (rmD 0)) {r : Bool} {M : Mem} (rt : RtI K a cX8_isWeak (b2i r) M) : ∀ (fu : Nat) (x1 : Int32) (x2 : Int32) (x3 : Int32), f_X8_isWeak_2 a.1 M fu x1 x2 x3 = some r → Go K 4 a M 2 [(0, .ref (a.2 0)), (1, .int x1), (2, .int x2), (3, .int x3)] [] := by
  intro fu
  induction fu with
  | zero => intro x1 x2 x3 hf; exact absurd hf (by simp [f_X8_isWeak_2])
  | succ fu ih =>
    intro x1 x2 x3 hf
    rw [f_X8_isWeak_2] at hf
    refine g_iload_n 3 S dX8_isWeak_2 rfl ?_
    refine g_aload_n 0 S dX8_isWeak_3 rfl ?_
    refine g_get (v := .ref (a.2 16)) S ob_0 rfl gi_X8 (by decide) lf_X8_53 rfl dX8_isWeak_4 ?_
    refine g_iload_n 1 S dX8_isWeak_7 rfl ?_
    refine g_iald S ia_16 dX8_isWeak_8 hf (fun hf => ?_)
    refine g_icmp_ge (tgt := 35) S dX8_isWeak_9 (by decide) hf (fun c hf => ?_) (fun c hf => ?_)
    · refine g_iconst (v := 0) S dX8_isWeak_35 rfl ?_
      exact g_zretP rt hf dX8_isWeak_36 rfl
    · refine g_aload_n 0 S dX8_isWeak_12 rfl ?_
      refine g_get (v := .ref (a.2 17)) S ob_0 rfl gi_X8 (by decide) lf_X8_56 rfl dX8_isWeak_13 ?_
      refine g_bipush (v := 10) S dX8_isWeak_16 rfl ?_
      refine g_iload_n 1 S dX8_isWeak_18 rfl ?_
      refine g_imul S dX8_isWeak_19 ?_
      refine g_iload_n 3 S dX8_isWeak_20 rfl ?_
      refine g_iadd S dX8_isWeak_21 ?_
      refine g_iald S ia_17 dX8_isWeak_22 hf (fun hf => ?_)
      refine g_iload_n 2 S dX8_isWeak_23 rfl ?_
      refine g_icmp_ne (tgt := 29) S dX8_isWeak_24 (by decide) hf (fun c hf => ?_) (fun c hf => ?_)
      · refine g_iconst (v := 1) S dX8_isWeak_27 rfl ?_
        exact g_zretP rt hf dX8_isWeak_28 rfl
      · refine g_iinc (v := (x3 + 1)) (lv' := [(3, .int (x3 + 1)), (0, .ref (a.2 0)), (1, .int x1), (2, .int x2)]) 3 S dX8_isWeak_29 rfl rfl (by decide) rfl ?_
        refine g_goto (tgt := 2) S dX8_isWeak_32 (by decide) ?_
        refine Go.sub [1, 2, 3, 0] rfl ?_
        exact ih _ _ _ hf
def f_X8_isWeak (z : Nat → Nat) (M : Mem) (p1 : Int32) (p2 : Int32) : Option Bool := f_X8_isWeak_2 z M 1000 p1 p2 0
theorem c_X8_isWeak {l : Launch} {G : GG} {a : AA} {M : Mem} {p1 : Int32} {p2 : Int32} {r : Bool} (hf : f_X8_isWeak a.1 M p1 p2 = some r) : CtI l G a yX8_isWeak cX8_isWeak 4 .boolean (rmD 0) [.ref (a.2 0), .int p1, .int p2] M (b2i r) M := by
  refine ct_I (by decide) rfl (b2i_n _) (own := RX8) (Nat.le_of_ble_eq_true rfl) (fun K hl hg S rt => ?_)
  subst hl; subst hg
  unfold f_X8_isWeak at hf
  show Go K 4 a M 0 [(0, .ref (a.2 0)), (1, .int p1), (2, .int p2)] []
  refine g_iconst (v := 0) S dX8_isWeak_0 rfl ?_
  refine g_istore_n (lv' := [(3, .int 0), (0, .ref (a.2 0)), (1, .int p1), (2, .int p2)]) S dX8_isWeak_1 (by decide) rfl ?_
  refine Go.sub [1, 2, 3, 0] rfl ?_
  exact t_X8_isWeak_2  S rt 1000 _ _ _ hf
