-- BridleBook.spreadCone(LBridleBook$Cone;LBridleBook$Flyer;)V
theorem dX7_spreadCone_0 : decode cX7_spreadCone 0 = .ok (.aload_n 0, 1) := by decide +kernel
theorem dX7_spreadCone_1 : decode cX7_spreadCone 1 = .ok (.aload_n 2, 1) := by decide +kernel
theorem dX7_spreadCone_2 : decode cX7_spreadCone 2 = .ok (.getfield 299, 3) := by decide +kernel
theorem dX7_spreadCone_5 : decode cX7_spreadCone 5 = .ok (.invokevirtual 150, 3) := by decide +kernel
theorem dX7_spreadCone_8 : decode cX7_spreadCone 8 = .ok (.astore_n 3, 1) := by decide +kernel
theorem dX7_spreadCone_9 : decode cX7_spreadCone 9 = .ok (.aload_n 3, 1) := by decide +kernel
theorem dX7_spreadCone_10 : decode cX7_spreadCone 10 = .ok (.ifnonnull 7, 3) := by decide +kernel
theorem dX7_spreadCone_13 : decode cX7_spreadCone 13 = .ok (.iconst 0, 1) := by decide +kernel
theorem dX7_spreadCone_14 : decode cX7_spreadCone 14 = .ok (.goto 7, 3) := by decide +kernel
theorem dX7_spreadCone_17 : decode cX7_spreadCone 17 = .ok (.aload_n 3, 1) := by decide +kernel
theorem dX7_spreadCone_18 : decode cX7_spreadCone 18 = .ok (.getfield 154, 3) := by decide +kernel
theorem dX7_spreadCone_21 : decode cX7_spreadCone 21 = .ok (.istore 4, 2) := by decide +kernel
theorem dX7_spreadCone_23 : decode cX7_spreadCone 23 = .ok (.aload_n 1, 1) := by decide +kernel
theorem dX7_spreadCone_24 : decode cX7_spreadCone 24 = .ok (.aload_n 2, 1) := by decide +kernel
theorem dX7_spreadCone_25 : decode cX7_spreadCone 25 = .ok (.aload_n 0, 1) := by decide +kernel
theorem dX7_spreadCone_26 : decode cX7_spreadCone 26 = .ok (.getfield 65, 3) := by decide +kernel
theorem dX7_spreadCone_29 : decode cX7_spreadCone 29 = .ok (.iload 4, 2) := by decide +kernel
theorem dX7_spreadCone_31 : decode cX7_spreadCone 31 = .ok (.iload 4, 2) := by decide +kernel
theorem dX7_spreadCone_33 : decode cX7_spreadCone 33 = .ok (.aload_n 0, 1) := by decide +kernel
theorem dX7_spreadCone_34 : decode cX7_spreadCone 34 = .ok (.getfield 68, 3) := by decide +kernel
theorem dX7_spreadCone_37 : decode cX7_spreadCone 37 = .ok (.invokestatic 272, 3) := by decide +kernel
theorem dX7_spreadCone_40 : decode cX7_spreadCone 40 = .ok (.invokevirtual 300, 3) := by decide +kernel
theorem dX7_spreadCone_43 : decode cX7_spreadCone 43 = .ok (.return_, 1) := by decide +kernel
def f_X7_spreadCone_21 (z : Nat → Nat) (n1 : Nat) (n2 : Nat) (M : Mem) (s0 : Int32) : Option Mem := bd1 (f_X0_spread z n1 n2 M (M 50 12) s0 (imin s0 (M 50 13))) (fun M3 => some M3)
theorem t_X7_spreadCone_21 {K : KK} {a : AA} {n1 : Nat} (hn1 : vC n1) {n2 : Nat} (hn2 : vF a.1 n2) (S : Sx K RX7 cX7_spreadCone 5 (rmD 3))  {M' : Mem} (rt : RtV K a cX7_spreadCone M') (M : Mem) (s0 : Int32) (hf : f_X7_spreadCone_21 a.1 n1 n2 M s0 = some M') : Go K 5 a M 21 [(0, .ref (a.2 50)), (1, .ref (a.2 n1)), (2, .ref (a.2 n2))] [.int s0] := by
  unfold f_X7_spreadCone_21 at hf
  refine g_istore (lv' := [(4, .int s0), (0, .ref (a.2 50)), (1, .ref (a.2 n1)), (2, .ref (a.2 n2))]) S dX7_spreadCone_21 (by decide) rfl ?_
  refine g_aload_n 2 S dX7_spreadCone_23 rfl ?_
  refine g_aload_n 3 S dX7_spreadCone_24 rfl ?_
  refine g_aload_n 1 S dX7_spreadCone_25 rfl ?_
  refine g_get (v := .int (M 50 12)) S ob_50 rfl gi_X7 (by decide) lf_X7_65 rfl dX7_spreadCone_26 ?_
  refine g_iload 0 S dX7_spreadCone_29 rfl ?_
  refine g_iload 0 S dX7_spreadCone_31 rfl ?_
  refine g_aload_n 1 S dX7_spreadCone_33 rfl ?_
  refine g_get (v := .int (M 50 13)) S ob_50 rfl gi_X7 (by decide) lf_X7_68 rfl dX7_spreadCone_34 ?_
  refine g_mmin S lk_X7_272 (by decide) (Nat.le_of_ble_eq_true rfl) dX7_spreadCone_37 ?_
  obtain ⟨M3, hM3, hf⟩ := bd1_some hf
  refine g_cVV (st := []) S (ob_C hn1) rfl ok_X0_spread lk_X7_300 (c_X0_spread hn1 hn2 hM3) rfl rfl ⟨by decide, by decide⟩ (rmD_z _) (Nat.le_of_ble_eq_true rfl) dX7_spreadCone_40 ?_
  exact g_vretM rt hf dX7_spreadCone_43
def f_X7_spreadCone (z : Nat → Nat) (n1 : Nat) (n2 : Nat) (M : Mem) : Option Mem := bd1 (f_X7_lineAt z M (M n2 2)) (fun r1 => mq r1 (f_X7_spreadCone_21 z n1 n2 M 0) (fun n2 => f_X7_spreadCone_21 z n1 n2 M (M n2 0)))
theorem c_X7_spreadCone {l : Launch} {G : GG} {a : AA} {n1 : Nat} (hn1 : vC n1) {n2 : Nat} (hn2 : vF a.1 n2) {M : Mem}  {M' : Mem} (hf : f_X7_spreadCone a.1 n1 n2 M = some M') : CtV l G a yX7_spreadCone cX7_spreadCone 5 (rmD 3) [.ref (a.2 50), .ref (a.2 n1), .ref (a.2 n2)] M M' := by
  refine ct_V (by decide) rfl (own := RX7) (Nat.le_of_ble_eq_true rfl) (fun K hl hg S rt => ?_)
  subst hl; subst hg
  unfold f_X7_spreadCone at hf
  show Go K 5 a M 0 [(0, .ref (a.2 50)), (1, .ref (a.2 n1)), (2, .ref (a.2 n2))] []
  refine g_aload_n 0 S dX7_spreadCone_0 rfl ?_
  refine g_aload_n 2 S dX7_spreadCone_1 rfl ?_
  refine g_get (v := .int (M n2 2)) S (ob_F hn2) rfl gi_X1 (by decide) lf_X7_299 rfl dX7_spreadCone_2 ?_
  obtain ⟨r1, hr1, hf⟩ := bd1_some hf
  refine g_cVQ (st := []) S ob_50 rfl ok_X7_lineAt lk_X7_150 (c_X7_lineAt hr1) rfl rfl ⟨by decide, by decide⟩ (rmD_z _) (Nat.le_of_ble_eq_true rfl) dX7_spreadCone_5 ?_
  rcases r1 with _ | n2
  · refine Go.st (st' := [.null]) rfl ?_
    refine g_astore_nN (lv' := [(3, .null), (0, .ref (a.2 50)), (1, .ref (a.2 n1)), (2, .ref (a.2 n2))]) S dX7_spreadCone_8 (by decide) rfl ?_
    refine g_aload_nN 0 S dX7_spreadCone_9 rfl ?_
    refine g_ifnonnullN S dX7_spreadCone_10 ?_
    refine g_iconst (v := 0) S dX7_spreadCone_13 rfl ?_
    refine g_goto (tgt := 21) S dX7_spreadCone_14 (by decide) ?_
    refine Go.sub [1, 2, 3] rfl ?_
    exact t_X7_spreadCone_21 hn1 hn2 S rt _ _ hf
  · have hn2 := vd_X7_lineAt hr1
    refine Go.st (st' := [.ref (a.2 n2)]) rfl ?_
    refine g_astore_n (lv' := [(3, .ref (a.2 n2)), (0, .ref (a.2 50)), (1, .ref (a.2 n1)), (2, .ref (a.2 n2))]) S dX7_spreadCone_8 (by decide) rfl ?_
    refine g_aload_n 0 S dX7_spreadCone_9 rfl ?_
    refine g_ifnonnull (tgt := 17) S dX7_spreadCone_10 (by decide) ?_
    refine g_aload_n 0 S dX7_spreadCone_17 rfl ?_
    refine g_get (v := .int (M n2 0)) S (ob_L hn2) rfl gi_X3 (by decide) lf_X7_154 rfl dX7_spreadCone_18 ?_
    refine Go.sub [1, 2, 3] rfl ?_
    exact t_X7_spreadCone_21 hn1 hn2 S rt _ _ hf
-- BridleBook.isInTheWay(II)Z
theorem dX7_isInTheWay_0 : decode cX7_isInTheWay 0 = .ok (.aload_n 0, 1) := by decide +kernel
theorem dX7_isInTheWay_1 : decode cX7_isInTheWay 1 = .ok (.iload_n 2, 1) := by decide +kernel
theorem dX7_isInTheWay_2 : decode cX7_isInTheWay 2 = .ok (.invokevirtual 219, 3) := by decide +kernel
theorem dX7_isInTheWay_5 : decode cX7_isInTheWay 5 = .ok (.astore_n 3, 1) := by decide +kernel
theorem dX7_isInTheWay_6 : decode cX7_isInTheWay 6 = .ok (.aload_n 3, 1) := by decide +kernel
theorem dX7_isInTheWay_7 : decode cX7_isInTheWay 7 = .ok (.ifnull 24, 3) := by decide +kernel
theorem dX7_isInTheWay_10 : decode cX7_isInTheWay 10 = .ok (.aload_n 3, 1) := by decide +kernel
theorem dX7_isInTheWay_11 : decode cX7_isInTheWay 11 = .ok (.getfield 227, 3) := by decide +kernel
theorem dX7_isInTheWay_14 : decode cX7_isInTheWay 14 = .ok (.ifCond .eq 17, 3) := by decide +kernel
theorem dX7_isInTheWay_17 : decode cX7_isInTheWay 17 = .ok (.aload_n 0, 1) := by decide +kernel
theorem dX7_isInTheWay_18 : decode cX7_isInTheWay 18 = .ok (.getfield 55, 3) := by decide +kernel
theorem dX7_isInTheWay_21 : decode cX7_isInTheWay 21 = .ok (.iload_n 1, 1) := by decide +kernel
theorem dX7_isInTheWay_22 : decode cX7_isInTheWay 22 = .ok (.bipush 10, 2) := by decide +kernel
theorem dX7_isInTheWay_24 : decode cX7_isInTheWay 24 = .ok (.imul, 1) := by decide +kernel
theorem dX7_isInTheWay_25 : decode cX7_isInTheWay 25 = .ok (.iload_n 2, 1) := by decide +kernel
theorem dX7_isInTheWay_26 : decode cX7_isInTheWay 26 = .ok (.iadd, 1) := by decide +kernel
theorem dX7_isInTheWay_27 : decode cX7_isInTheWay 27 = .ok (.baload, 1) := by decide +kernel
theorem dX7_isInTheWay_28 : decode cX7_isInTheWay 28 = .ok (.ifCond .eq 5, 3) := by decide +kernel
theorem dX7_isInTheWay_31 : decode cX7_isInTheWay 31 = .ok (.iconst 0, 1) := by decide +kernel
theorem dX7_isInTheWay_32 : decode cX7_isInTheWay 32 = .ok (.ireturn, 1) := by decide +kernel
theorem dX7_isInTheWay_33 : decode cX7_isInTheWay 33 = .ok (.aload_n 0, 1) := by decide +kernel
theorem dX7_isInTheWay_34 : decode cX7_isInTheWay 34 = .ok (.aload_n 0, 1) := by decide +kernel
theorem dX7_isInTheWay_35 : decode cX7_isInTheWay 35 = .ok (.getfield 78, 3) := by decide +kernel
theorem dX7_isInTheWay_38 : decode cX7_isInTheWay 38 = .ok (.aload_n 3, 1) := by decide +kernel
theorem dX7_isInTheWay_39 : decode cX7_isInTheWay 39 = .ok (.invokevirtual 231, 3) := by decide +kernel
theorem dX7_isInTheWay_42 : decode cX7_isInTheWay 42 = .ok (.aload_n 0, 1) := by decide +kernel
theorem dX7_isInTheWay_43 : decode cX7_isInTheWay 43 = .ok (.getfield 74, 3) := by decide +kernel
theorem dX7_isInTheWay_46 : decode cX7_isInTheWay 46 = .ok (.aload_n 0, 1) := by decide +kernel
theorem dX7_isInTheWay_47 : decode cX7_isInTheWay 47 = .ok (.getfield 78, 3) := by decide +kernel
theorem dX7_isInTheWay_50 : decode cX7_isInTheWay 50 = .ok (.invokevirtual 307, 3) := by decide +kernel
theorem dX7_isInTheWay_53 : decode cX7_isInTheWay 53 = .ok (.ireturn, 1) := by decide +kernel
def f_X7_isInTheWay (z : Nat → Nat) (M : Mem) (p1 : Int32) (p2 : Int32) : Option (Bool × Mem) := bd1 (f_X7_flyerAt z M p2) (fun r1 => mq r1 (some (false, M)) (fun n2 => if (M n2 3) = 0 then some (false, M) else ck (inb ((p1 * 10) + p2) 100) (if (M 60 (((p1 * 10) + p2)).toNatClampNeg) = 0 then bd1 (f_X7_spreadCone z 66 n2 M) (fun M3 => bd1 (f_X0_meets z 65 66 M3) (fun r4 => some (r4, M3))) else some (false, M))))
theorem c_X7_isInTheWay {l : Launch} {G : GG} {a : AA} {M : Mem} {p1 : Int32} {p2 : Int32} {r : Bool} {M' : Mem} (hf : f_X7_isInTheWay a.1 M p1 p2 = some (r, M')) : CtI l G a yX7_isInTheWay cX7_isInTheWay 4 .boolean (rmD 4) [.ref (a.2 50), .int p1, .int p2] M (b2i r) M' := by
  refine ct_I (by decide) rfl (b2i_n _) (own := RX7) (Nat.le_of_ble_eq_true rfl) (fun K hl hg S rt => ?_)
  subst hl; subst hg
  unfold f_X7_isInTheWay at hf
  show Go K 4 a M 0 [(0, .ref (a.2 50)), (1, .int p1), (2, .int p2)] []
  refine g_aload_n 0 S dX7_isInTheWay_0 rfl ?_
  refine g_iload_n 2 S dX7_isInTheWay_1 rfl ?_
  obtain ⟨r1, hr1, hf⟩ := bd1_some hf
  refine g_cVQ (st := []) S ob_50 rfl ok_X7_flyerAt lk_X7_219 (c_X7_flyerAt hr1) rfl rfl ⟨by decide, by decide⟩ (rmD_z _) (Nat.le_of_ble_eq_true rfl) dX7_isInTheWay_2 ?_
  rcases r1 with _ | n2
  · refine Go.st (st' := [.null]) rfl ?_
    refine g_astore_nN (lv' := [(3, .null), (0, .ref (a.2 50)), (1, .int p1), (2, .int p2)]) S dX7_isInTheWay_5 (by decide) rfl ?_
    refine g_aload_nN 0 S dX7_isInTheWay_6 rfl ?_
    refine g_ifnullN (tgt := 31) S dX7_isInTheWay_7 (by decide) ?_
    refine g_iconst (v := 0) S dX7_isInTheWay_31 rfl ?_
    exact g_zretM rt hf dX7_isInTheWay_32 rfl
  · have hn2 := vd_X7_flyerAt hr1
    refine Go.st (st' := [.ref (a.2 n2)]) rfl ?_
    refine g_astore_n (lv' := [(3, .ref (a.2 n2)), (0, .ref (a.2 50)), (1, .int p1), (2, .int p2)]) S dX7_isInTheWay_5 (by decide) rfl ?_
    refine g_aload_n 0 S dX7_isInTheWay_6 rfl ?_
    refine g_ifnull S dX7_isInTheWay_7 ?_
    refine g_aload_n 0 S dX7_isInTheWay_10 rfl ?_
    refine g_get (v := .int (M n2 3)) S (ob_F hn2) rfl gi_X1 (by decide) lf_X7_227 rfl dX7_isInTheWay_11 ?_
    refine g_if_eq (tgt := 31) S dX7_isInTheWay_14 (by decide) hf (fun c hf => ?_) (fun c hf => ?_)
    · refine g_iconst (v := 0) S dX7_isInTheWay_31 rfl ?_
      exact g_zretM rt hf dX7_isInTheWay_32 rfl
    · refine g_aload_n 1 S dX7_isInTheWay_17 rfl ?_
      refine g_get (v := .ref (a.2 60)) S ob_50 rfl gi_X7 (by decide) lf_X7_55 rfl dX7_isInTheWay_18 ?_
      refine g_iload_n 2 S dX7_isInTheWay_21 rfl ?_
      refine g_bipush (v := 10) S dX7_isInTheWay_22 rfl ?_
      refine g_imul S dX7_isInTheWay_24 ?_
      refine g_iload_n 3 S dX7_isInTheWay_25 rfl ?_
      refine g_iadd S dX7_isInTheWay_26 ?_
      refine g_zald S za_60 dX7_isInTheWay_27 hf (fun hf => ?_)
      refine g_if_eq (tgt := 33) S dX7_isInTheWay_28 (by decide) hf (fun c hf => ?_) (fun c hf => ?_)
      · refine g_aload_n 1 S dX7_isInTheWay_33 rfl ?_
        refine g_aload_n 1 S dX7_isInTheWay_34 rfl ?_
        refine g_get (v := .ref (a.2 66)) S ob_50 rfl gi_X7 (by decide) lf_X7_78 rfl dX7_isInTheWay_35 ?_
        refine g_aload_n 0 S dX7_isInTheWay_38 rfl ?_
        obtain ⟨M3, hM3, hf⟩ := bd1_some hf
        refine g_cVV (st := []) S ob_50 rfl ok_X7_spreadCone lk_X7_231 (c_X7_spreadCone (Or.inr rfl) hn2 hM3) rfl rfl ⟨by decide, by decide⟩ (rmD_z _) (Nat.le_of_ble_eq_true rfl) dX7_isInTheWay_39 ?_
        refine g_aload_n 1 S dX7_isInTheWay_42 rfl ?_
        refine g_get (v := .ref (a.2 65)) S ob_50 rfl gi_X7 (by decide) lf_X7_74 rfl dX7_isInTheWay_43 ?_
        refine g_aload_n 1 S dX7_isInTheWay_46 rfl ?_
        refine g_get (v := .ref (a.2 66)) S ob_50 rfl gi_X7 (by decide) lf_X7_78 rfl dX7_isInTheWay_47 ?_
        obtain ⟨r4, hr4, hf⟩ := bd1_some hf
        refine g_cVI (st := []) S (ob_C (Or.inl rfl)) rfl ok_X0_meets lk_X7_307 (c_X0_meets (Or.inl rfl) (Or.inr rfl) hr4) rfl rfl ⟨by decide, by decide⟩ (rmD_z _) (Nat.le_of_ble_eq_true rfl) dX7_isInTheWay_50 ?_
        exact g_zretM rt hf dX7_isInTheWay_53 rfl
      · refine g_iconst (v := 0) S dX7_isInTheWay_31 rfl ?_
        exact g_zretM rt hf dX7_isInTheWay_32 rfl
-- BridleBook.reasonAgainst(ILBridleBook$Flyer;)I
theorem dX7_reasonAgainst_0 : decode cX7_reasonAgainst 0 = .ok (.aload_n 0, 1) := by decide +kernel
theorem dX7_reasonAgainst_1 : decode cX7_reasonAgainst 1 = .ok (.aload_n 0, 1) := by decide +kernel
theorem dX7_reasonAgainst_2 : decode cX7_reasonAgainst 2 = .ok (.getfield 74, 3) := by decide +kernel
theorem dX7_reasonAgainst_5 : decode cX7_reasonAgainst 5 = .ok (.aload_n 2, 1) := by decide +kernel
theorem dX7_reasonAgainst_6 : decode cX7_reasonAgainst 6 = .ok (.invokevirtual 231, 3) := by decide +kernel
theorem dX7_reasonAgainst_9 : decode cX7_reasonAgainst 9 = .ok (.iconst 0, 1) := by decide +kernel
theorem dX7_reasonAgainst_10 : decode cX7_reasonAgainst 10 = .ok (.istore_n 3, 1) := by decide +kernel
theorem dX7_reasonAgainst_11 : decode cX7_reasonAgainst 11 = .ok (.iload_n 3, 1) := by decide +kernel
theorem dX7_reasonAgainst_12 : decode cX7_reasonAgainst 12 = .ok (.aload_n 0, 1) := by decide +kernel
theorem dX7_reasonAgainst_13 : decode cX7_reasonAgainst 13 = .ok (.getfield 62, 3) := by decide +kernel
theorem dX7_reasonAgainst_16 : decode cX7_reasonAgainst 16 = .ok (.if_icmp .ge 27, 3) := by decide +kernel
theorem dX7_reasonAgainst_19 : decode cX7_reasonAgainst 19 = .ok (.aload_n 0, 1) := by decide +kernel
theorem dX7_reasonAgainst_20 : decode cX7_reasonAgainst 20 = .ok (.getfield 74, 3) := by decide +kernel
theorem dX7_reasonAgainst_23 : decode cX7_reasonAgainst 23 = .ok (.aload_n 0, 1) := by decide +kernel
theorem dX7_reasonAgainst_24 : decode cX7_reasonAgainst 24 = .ok (.getfield 59, 3) := by decide +kernel
theorem dX7_reasonAgainst_27 : decode cX7_reasonAgainst 27 = .ok (.iload_n 3, 1) := by decide +kernel
theorem dX7_reasonAgainst_28 : decode cX7_reasonAgainst 28 = .ok (.iaload, 1) := by decide +kernel
theorem dX7_reasonAgainst_29 : decode cX7_reasonAgainst 29 = .ok (.invokevirtual 235, 3) := by decide +kernel
theorem dX7_reasonAgainst_32 : decode cX7_reasonAgainst 32 = .ok (.ifCond .eq 5, 3) := by decide +kernel
theorem dX7_reasonAgainst_35 : decode cX7_reasonAgainst 35 = .ok (.iconst 1, 1) := by decide +kernel
theorem dX7_reasonAgainst_36 : decode cX7_reasonAgainst 36 = .ok (.ireturn, 1) := by decide +kernel
theorem dX7_reasonAgainst_37 : decode cX7_reasonAgainst 37 = .ok (.iinc 3 1, 3) := by decide +kernel
theorem dX7_reasonAgainst_40 : decode cX7_reasonAgainst 40 = .ok (.goto (-29), 3) := by decide +kernel
theorem dX7_reasonAgainst_43 : decode cX7_reasonAgainst 43 = .ok (.iconst 0, 1) := by decide +kernel
theorem dX7_reasonAgainst_44 : decode cX7_reasonAgainst 44 = .ok (.istore_n 3, 1) := by decide +kernel
theorem dX7_reasonAgainst_45 : decode cX7_reasonAgainst 45 = .ok (.iload_n 3, 1) := by decide +kernel
theorem dX7_reasonAgainst_46 : decode cX7_reasonAgainst 46 = .ok (.aload_n 0, 1) := by decide +kernel
theorem dX7_reasonAgainst_47 : decode cX7_reasonAgainst 47 = .ok (.getfield 52, 3) := by decide +kernel
theorem dX7_reasonAgainst_50 : decode cX7_reasonAgainst 50 = .ok (.if_icmp .ge 25, 3) := by decide +kernel
theorem dX7_reasonAgainst_53 : decode cX7_reasonAgainst 53 = .ok (.iload_n 3, 1) := by decide +kernel
theorem dX7_reasonAgainst_54 : decode cX7_reasonAgainst 54 = .ok (.iload_n 1, 1) := by decide +kernel
theorem dX7_reasonAgainst_55 : decode cX7_reasonAgainst 55 = .ok (.if_icmp .eq 14, 3) := by decide +kernel
theorem dX7_reasonAgainst_58 : decode cX7_reasonAgainst 58 = .ok (.aload_n 0, 1) := by decide +kernel
theorem dX7_reasonAgainst_59 : decode cX7_reasonAgainst 59 = .ok (.iload_n 1, 1) := by decide +kernel
theorem dX7_reasonAgainst_60 : decode cX7_reasonAgainst 60 = .ok (.iload_n 3, 1) := by decide +kernel
theorem dX7_reasonAgainst_61 : decode cX7_reasonAgainst 61 = .ok (.invokevirtual 304, 3) := by decide +kernel
theorem dX7_reasonAgainst_64 : decode cX7_reasonAgainst 64 = .ok (.ifCond .eq 5, 3) := by decide +kernel
theorem dX7_reasonAgainst_67 : decode cX7_reasonAgainst 67 = .ok (.iconst 2, 1) := by decide +kernel
theorem dX7_reasonAgainst_68 : decode cX7_reasonAgainst 68 = .ok (.ireturn, 1) := by decide +kernel
theorem dX7_reasonAgainst_69 : decode cX7_reasonAgainst 69 = .ok (.iinc 3 1, 3) := by decide +kernel
theorem dX7_reasonAgainst_72 : decode cX7_reasonAgainst 72 = .ok (.goto (-27), 3) := by decide +kernel
theorem dX7_reasonAgainst_75 : decode cX7_reasonAgainst 75 = .ok (.iconst 0, 1) := by decide +kernel
theorem dX7_reasonAgainst_76 : decode cX7_reasonAgainst 76 = .ok (.ireturn, 1) := by decide +kernel
def f_X7_reasonAgainst_45 (z : Nat → Nat) (n2 : Nat) : Nat → Mem → Int32 → Int32 → Option (Int32 × Mem)
  | 0, _, _, _ => none
  | fu + 1, M, x1, x3 => if (M 50 8) ≤ x3 then some (0, M) else if x3 = x1 then f_X7_reasonAgainst_45 z n2 fu M x1 (x3 + 1) else bd2 (f_X7_isInTheWay z M x1 x3) (fun r2 M3 => if r2 = true then some (2, M3) else f_X7_reasonAgainst_45 z n2 fu M3 x1 (x3 + 1))
theorem t_X7_reasonAgainst_45 {K : KK} {a : AA} {n2 : Nat} (hn2 : vF a.1 n2) (S : Sx K RX7 cX7_reasonAgainst 4 (rmD 5)) {r : Int32} {M' : Mem} (rt : RtI K a cX7_reasonAgainst r M') : ∀ (fu : Nat) (M : Mem) (x1 : Int32) (x3 : Int32), f_X7_reasonAgainst_45 a.1 n2 fu M x1 x3 = some (r, M') → Go K 4 a M 45 [(0, .ref (a.2 50)), (1, .int x1), (3, .int x3)] [] := by
  intro fu
  induction fu with
  | zero => intro M x1 x3 hf; exact absurd hf (by simp [f_X7_reasonAgainst_45])
  | succ fu ih =>
    intro M x1 x3 hf
    rw [f_X7_reasonAgainst_45] at hf
    refine g_iload_n 2 S dX7_reasonAgainst_45 rfl ?_
    refine g_aload_n 0 S dX7_reasonAgainst_46 rfl ?_
    refine g_get (v := .int (M 50 8)) S ob_50 rfl gi_X7 (by decide) lf_X7_52 rfl dX7_reasonAgainst_47 ?_
    refine g_icmp_ge (tgt := 75) S dX7_reasonAgainst_50 (by decide) hf (fun c hf => ?_) (fun c hf => ?_)
    · refine g_iconst (v := 0) S dX7_reasonAgainst_75 rfl ?_
      exact g_iretM rt hf dX7_reasonAgainst_76
    · refine g_iload_n 2 S dX7_reasonAgainst_53 rfl ?_
      refine g_iload_n 1 S dX7_reasonAgainst_54 rfl ?_
      refine g_icmp_eq (tgt := 69) S dX7_reasonAgainst_55 (by decide) hf (fun c hf => ?_) (fun c hf => ?_)
      · refine g_iinc (v := (x3 + 1)) (lv' := [(3, .int (x3 + 1)), (0, .ref (a.2 50)), (1, .int x1)]) 2 S dX7_reasonAgainst_69 rfl rfl (by decide) rfl ?_
        refine g_goto (tgt := 45) S dX7_reasonAgainst_72 (by decide) ?_
        refine Go.sub [1, 2, 0] rfl ?_
        exact ih _ _ _ hf
      · refine g_aload_n 0 S dX7_reasonAgainst_58 rfl ?_
        refine g_iload_n 1 S dX7_reasonAgainst_59 rfl ?_
        refine g_iload_n 2 S dX7_reasonAgainst_60 rfl ?_
        obtain ⟨r2, M3, hr2, hf⟩ := bd2_some hf
        refine g_cVI (st := []) S ob_50 rfl ok_X7_isInTheWay lk_X7_304 (c_X7_isInTheWay hr2) rfl rfl ⟨by decide, by decide⟩ (rmD_z _) (Nat.le_of_ble_eq_true rfl) dX7_reasonAgainst_61 ?_
        refine g_if_eqB (tgt := 69) S dX7_reasonAgainst_64 (by decide) hf (fun c hf => ?_) (fun c hf => ?_)
        · refine g_iconst (v := 2) S dX7_reasonAgainst_67 rfl ?_
          exact g_iretM rt hf dX7_reasonAgainst_68
        · refine g_iinc (v := (x3 + 1)) (lv' := [(3, .int (x3 + 1)), (0, .ref (a.2 50)), (1, .int x1)]) 2 S dX7_reasonAgainst_69 rfl rfl (by decide) rfl ?_
          refine g_goto (tgt := 45) S dX7_reasonAgainst_72 (by decide) ?_
          refine Go.sub [1, 2, 0] rfl ?_
          exact ih _ _ _ hf
def f_X7_reasonAgainst_11 (z : Nat → Nat) (n2 : Nat) : Nat → Mem → Int32 → Int32 → Option (Int32 × Mem)
  | 0, _, _, _ => none
  | fu + 1, M, x1, x3 => if (M 50 11) ≤ x3 then f_X7_reasonAgainst_45 z n2 1000 M x1 0 else ck (inb x3 20) (bd1 (f_X0_holds z 65 M (M 61 (x3).toNatClampNeg)) (fun r4 => if r4 = true then some (1, M) else f_X7_reasonAgainst_11 z n2 fu M x1 (x3 + 1)))
theorem t_X7_reasonAgainst_11 {K : KK} {a : AA} {n2 : Nat} (hn2 : vF a.1 n2) (S : Sx K RX7 cX7_reasonAgainst 4 (rmD 5)) {r : Int32} {M' : Mem} (rt : RtI K a cX7_reasonAgainst r M') : ∀ (fu : Nat) (M : Mem) (x1 : Int32) (x3 : Int32), f_X7_reasonAgainst_11 a.1 n2 fu M x1 x3 = some (r, M') → Go K 4 a M 11 [(0, .ref (a.2 50)), (1, .int x1), (3, .int x3)] [] := by
  intro fu
  induction fu with
  | zero => intro M x1 x3 hf; exact absurd hf (by simp [f_X7_reasonAgainst_11])
  | succ fu ih =>
    intro M x1 x3 hf
    rw [f_X7_reasonAgainst_11] at hf
    refine g_iload_n 2 S dX7_reasonAgainst_11 rfl ?_
    refine g_aload_n 0 S dX7_reasonAgainst_12 rfl ?_
    refine g_get (v := .int (M 50 11)) S ob_50 rfl gi_X7 (by decide) lf_X7_62 rfl dX7_reasonAgainst_13 ?_
    refine g_icmp_ge (tgt := 43) S dX7_reasonAgainst_16 (by decide) hf (fun c hf => ?_) (fun c hf => ?_)
    · refine g_iconst (v := 0) S dX7_reasonAgainst_43 rfl ?_
      refine g_istore_n (lv' := [(3, .int 0), (0, .ref (a.2 50)), (1, .int x1)]) S dX7_reasonAgainst_44 (by decide) rfl ?_
      refine Go.sub [1, 2, 0] rfl ?_
      exact t_X7_reasonAgainst_45 hn2 S rt 1000 _ _ _ hf
    · refine g_aload_n 0 S dX7_reasonAgainst_19 rfl ?_
      refine g_get (v := .ref (a.2 65)) S ob_50 rfl gi_X7 (by decide) lf_X7_74 rfl dX7_reasonAgainst_20 ?_
      refine g_aload_n 0 S dX7_reasonAgainst_23 rfl ?_
      refine g_get (v := .ref (a.2 61)) S ob_50 rfl gi_X7 (by decide) lf_X7_59 rfl dX7_reasonAgainst_24 ?_
      refine g_iload_n 2 S dX7_reasonAgainst_27 rfl ?_
      refine g_iald S ia_61 dX7_reasonAgainst_28 hf (fun hf => ?_)
      obtain ⟨r4, hr4, hf⟩ := bd1_some hf
      refine g_cVI (st := []) S (ob_C (Or.inl rfl)) rfl ok_X0_holds lk_X7_235 (c_X0_holds (Or.inl rfl) hr4) rfl rfl ⟨by decide, by decide⟩ (rmD_z _) (Nat.le_of_ble_eq_true rfl) dX7_reasonAgainst_29 ?_
      refine g_if_eqB (tgt := 37) S dX7_reasonAgainst_32 (by decide) hf (fun c hf => ?_) (fun c hf => ?_)
      · refine g_iconst (v := 1) S dX7_reasonAgainst_35 rfl ?_
        exact g_iretM rt hf dX7_reasonAgainst_36
      · refine g_iinc (v := (x3 + 1)) (lv' := [(3, .int (x3 + 1)), (0, .ref (a.2 50)), (1, .int x1)]) 2 S dX7_reasonAgainst_37 rfl rfl (by decide) rfl ?_
        refine g_goto (tgt := 11) S dX7_reasonAgainst_40 (by decide) ?_
        refine Go.sub [1, 2, 0] rfl ?_
        exact ih _ _ _ hf
def f_X7_reasonAgainst (z : Nat → Nat) (n2 : Nat) (M : Mem) (p1 : Int32) : Option (Int32 × Mem) := bd1 (f_X7_spreadCone z 65 n2 M) (fun M1 => f_X7_reasonAgainst_11 z n2 1000 M1 p1 0)
theorem c_X7_reasonAgainst {l : Launch} {G : GG} {a : AA} {n2 : Nat} (hn2 : vF a.1 n2) {M : Mem} {p1 : Int32} {r : Int32} {M' : Mem} (hf : f_X7_reasonAgainst a.1 n2 M p1 = some (r, M')) : CtI l G a yX7_reasonAgainst cX7_reasonAgainst 4 .int (rmD 5) [.ref (a.2 50), .int p1, .ref (a.2 n2)] M r M' := by
  refine ct_I (by decide) rfl rfl (own := RX7) (Nat.le_of_ble_eq_true rfl) (fun K hl hg S rt => ?_)
  subst hl; subst hg
  unfold f_X7_reasonAgainst at hf
  show Go K 4 a M 0 [(0, .ref (a.2 50)), (1, .int p1), (2, .ref (a.2 n2))] []
  refine g_aload_n 0 S dX7_reasonAgainst_0 rfl ?_
  refine g_aload_n 0 S dX7_reasonAgainst_1 rfl ?_
  refine g_get (v := .ref (a.2 65)) S ob_50 rfl gi_X7 (by decide) lf_X7_74 rfl dX7_reasonAgainst_2 ?_
  refine g_aload_n 2 S dX7_reasonAgainst_5 rfl ?_
  obtain ⟨M1, hM1, hf⟩ := bd1_some hf
  refine g_cVV (st := []) S ob_50 rfl ok_X7_spreadCone lk_X7_231 (c_X7_spreadCone (Or.inl rfl) hn2 hM1) rfl rfl ⟨by decide, by decide⟩ (rmD_z _) (Nat.le_of_ble_eq_true rfl) dX7_reasonAgainst_6 ?_
  refine g_iconst (v := 0) S dX7_reasonAgainst_9 rfl ?_
  refine g_istore_n (lv' := [(3, .int 0), (0, .ref (a.2 50)), (1, .int p1), (2, .ref (a.2 n2))]) S dX7_reasonAgainst_10 (by decide) rfl ?_
  refine Go.sub [1, 2, 0] rfl ?_
  exact t_X7_reasonAgainst_11 hn2 S rt 1000 _ _ _ hf
-- BridleBook.fly(II)I
theorem dX7_fly_0 : decode cX7_fly 0 = .ok (.aload_n 0, 1) := by decide +kernel
theorem dX7_fly_1 : decode cX7_fly 1 = .ok (.iload_n 1, 1) := by decide +kernel
theorem dX7_fly_2 : decode cX7_fly 2 = .ok (.invokevirtual 219, 3) := by decide +kernel
theorem dX7_fly_5 : decode cX7_fly 5 = .ok (.astore_n 3, 1) := by decide +kernel
theorem dX7_fly_6 : decode cX7_fly 6 = .ok (.aload_n 3, 1) := by decide +kernel
theorem dX7_fly_7 : decode cX7_fly 7 = .ok (.ifnull 12, 3) := by decide +kernel
theorem dX7_fly_10 : decode cX7_fly 10 = .ok (.iload_n 2, 1) := by decide +kernel
theorem dX7_fly_11 : decode cX7_fly 11 = .ok (.iconst 0, 1) := by decide +kernel
theorem dX7_fly_12 : decode cX7_fly 12 = .ok (.iconst 1, 1) := by decide +kernel
theorem dX7_fly_13 : decode cX7_fly 13 = .ok (.invokestatic 99, 3) := by decide +kernel
theorem dX7_fly_16 : decode cX7_fly 16 = .ok (.ifCond .ne 5, 3) := by decide +kernel
theorem dX7_fly_19 : decode cX7_fly 19 = .ok (.iconst (-1), 1) := by decide +kernel
theorem dX7_fly_20 : decode cX7_fly 20 = .ok (.ireturn, 1) := by decide +kernel
theorem dX7_fly_21 : decode cX7_fly 21 = .ok (.iload_n 2, 1) := by decide +kernel
theorem dX7_fly_22 : decode cX7_fly 22 = .ok (.iconst 1, 1) := by decide +kernel
theorem dX7_fly_23 : decode cX7_fly 23 = .ok (.if_icmp .ne 22, 3) := by decide +kernel
theorem dX7_fly_26 : decode cX7_fly 26 = .ok (.aload_n 0, 1) := by decide +kernel
theorem dX7_fly_27 : decode cX7_fly 27 = .ok (.iload_n 1, 1) := by decide +kernel
theorem dX7_fly_28 : decode cX7_fly 28 = .ok (.aload_n 3, 1) := by decide +kernel
theorem dX7_fly_29 : decode cX7_fly 29 = .ok (.invokevirtual 223, 3) := by decide +kernel
theorem dX7_fly_32 : decode cX7_fly 32 = .ok (.istore 4, 2) := by decide +kernel
theorem dX7_fly_34 : decode cX7_fly 34 = .ok (.iload 4, 2) := by decide +kernel
theorem dX7_fly_36 : decode cX7_fly 36 = .ok (.ifCond .eq 9, 3) := by decide +kernel
theorem dX7_fly_39 : decode cX7_fly 39 = .ok (.bipush (-10), 2) := by decide +kernel
theorem dX7_fly_41 : decode cX7_fly 41 = .ok (.iload 4, 2) := by decide +kernel
theorem dX7_fly_43 : decode cX7_fly 43 = .ok (.isub, 1) := by decide +kernel
theorem dX7_fly_44 : decode cX7_fly 44 = .ok (.ireturn, 1) := by decide +kernel
theorem dX7_fly_45 : decode cX7_fly 45 = .ok (.aload_n 3, 1) := by decide +kernel
theorem dX7_fly_46 : decode cX7_fly 46 = .ok (.iload_n 2, 1) := by decide +kernel
theorem dX7_fly_47 : decode cX7_fly 47 = .ok (.iconst 1, 1) := by decide +kernel
theorem dX7_fly_48 : decode cX7_fly 48 = .ok (.if_icmp .ne 7, 3) := by decide +kernel
theorem dX7_fly_51 : decode cX7_fly 51 = .ok (.iconst 1, 1) := by decide +kernel
theorem dX7_fly_52 : decode cX7_fly 52 = .ok (.goto 4, 3) := by decide +kernel
theorem dX7_fly_55 : decode cX7_fly 55 = .ok (.iconst 0, 1) := by decide +kernel
theorem dX7_fly_56 : decode cX7_fly 56 = .ok (.putfield 227, 3) := by decide +kernel
theorem dX7_fly_59 : decode cX7_fly 59 = .ok (.iconst 1, 1) := by decide +kernel
theorem dX7_fly_60 : decode cX7_fly 60 = .ok (.ireturn, 1) := by decide +kernel
def f_X7_fly_45 (z : Nat → Nat) (M : Mem) (x2 : Int32) : Option (Int32 × Mem) := if x2 = 1 then some (1, (mu M n2 3 1)) else some (1, (mu M n2 3 0))
theorem t_X7_fly_45 {K : KK} {a : AA} (S : Sx K RX7 cX7_fly 5 (rmD 6)) {r : Int32} {M' : Mem} (rt : RtI K a cX7_fly r M') (M : Mem) (x2 : Int32) (hf : f_X7_fly_45 a.1 M x2 = some (r, M')) : Go K 5 a M 45 [(2, .int x2), (3, .ref (a.2 n2))] [] := by
  unfold f_X7_fly_45 at hf
  refine g_aload_n 1 S dX7_fly_45 rfl ?_
  refine g_iload_n 0 S dX7_fly_46 rfl ?_
  refine g_iconst (v := 1) S dX7_fly_47 rfl ?_
  refine g_icmp_ne (tgt := 55) S dX7_fly_48 (by decide) hf (fun c hf => ?_) (fun c hf => ?_)
  · refine g_iconst (v := 1) S dX7_fly_51 rfl ?_
    refine g_goto (tgt := 56) S dX7_fly_52 (by decide) ?_
    refine g_put (ty := .boolean) S (ob_F hn2) rfl gi_X1 tyX1_ok nmX1 (by decide) lf_X7_227 rfl (by decide +kernel) rfl rfl (Nat.le_of_ble_eq_true rfl) rfl dX7_fly_56 ?_
    refine g_iconst (v := 1) S dX7_fly_59 rfl ?_
    exact g_iretM rt hf dX7_fly_60
  · refine g_iconst (v := 0) S dX7_fly_55 rfl ?_
    refine g_put (ty := .boolean) S (ob_F hn2) rfl gi_X1 tyX1_ok nmX1 (by decide) lf_X7_227 rfl (by decide +kernel) rfl rfl (Nat.le_of_ble_eq_true rfl) rfl dX7_fly_56 ?_
    refine g_iconst (v := 1) S dX7_fly_59 rfl ?_
    exact g_iretM rt hf dX7_fly_60
def f_X7_fly (z : Nat → Nat) (M : Mem) (p1 : Int32) (p2 : Int32) : Option (Int32 × Mem) := bd1 (f_X7_flyerAt z M p1) (fun r1 => mq r1 (some ((-1), M)) (fun n2 => bd1 (f_X7_within z M p2 0 1) (fun r3 => if r3 = true then if p2 = 1 then bd2 (f_X7_reasonAgainst z n2 M p1) (fun r4 M5 => if r4 = 0 then f_X7_fly_45 z M5 p2 else some (((-10) - r4), M5)) else f_X7_fly_45 z M p2 else some ((-1), M))))
theorem c_X7_fly {l : Launch} {G : GG} {a : AA} {M : Mem} {p1 : Int32} {p2 : Int32} {r : Int32} {M' : Mem} (hf : f_X7_fly a.1 M p1 p2 = some (r, M')) : CtI l G a yX7_fly cX7_fly 5 .int (rmD 6) [.ref (a.2 50), .int p1, .int p2] M r M' := by
  refine ct_I (by decide) rfl rfl (own := RX7) (Nat.le_of_ble_eq_true rfl) (fun K hl hg S rt => ?_)
  subst hl; subst hg
  unfold f_X7_fly at hf
  show Go K 5 a M 0 [(0, .ref (a.2 50)), (1, .int p1), (2, .int p2)] []
  refine g_aload_n 0 S dX7_fly_0 rfl ?_
  refine g_iload_n 1 S dX7_fly_1 rfl ?_
  obtain ⟨r1, hr1, hf⟩ := bd1_some hf
  refine g_cVQ (st := []) S ob_50 rfl ok_X7_flyerAt lk_X7_219 (c_X7_flyerAt hr1) rfl rfl ⟨by decide, by decide⟩ (rmD_z _) (Nat.le_of_ble_eq_true rfl) dX7_fly_2 ?_
  rcases r1 with _ | n2
  · refine Go.st (st' := [.null]) rfl ?_
    refine g_astore_nN (lv' := [(3, .null), (0, .ref (a.2 50)), (1, .int p1), (2, .int p2)]) S dX7_fly_5 (by decide) rfl ?_
    refine g_aload_nN 0 S dX7_fly_6 rfl ?_
    refine g_ifnullN (tgt := 19) S dX7_fly_7 (by decide) ?_
    refine g_iconst (v := (-1)) S dX7_fly_19 rfl ?_
    exact g_iretM rt hf dX7_fly_20
  · have hn2 := vd_X7_flyerAt hr1
    refine Go.st (st' := [.ref (a.2 n2)]) rfl ?_
    refine g_astore_n (lv' := [(3, .ref (a.2 n2)), (0, .ref (a.2 50)), (1, .int p1), (2, .int p2)]) S dX7_fly_5 (by decide) rfl ?_
    refine g_aload_n 0 S dX7_fly_6 rfl ?_
    refine g_ifnull S dX7_fly_7 ?_
    refine g_iload_n 3 S dX7_fly_10 rfl ?_
    refine g_iconst (v := 0) S dX7_fly_11 rfl ?_
    refine g_iconst (v := 1) S dX7_fly_12 rfl ?_
    obtain ⟨r3, hr3, hf⟩ := bd1_some hf
    refine g_cSI (st := []) S ok_X7_within lk_X7_99 (c_X7_within hr3) rfl rfl ⟨by decide, by decide⟩ (rmD_z _) (Nat.le_of_ble_eq_true rfl) dX7_fly_13 ?_
    refine g_if_neB (tgt := 21) S dX7_fly_16 (by decide) hf (fun c hf => ?_) (fun c hf => ?_)
    · refine g_iload_n 3 S dX7_fly_21 rfl ?_
      refine g_iconst (v := 1) S dX7_fly_22 rfl ?_
      refine g_icmp_ne (tgt := 45) S dX7_fly_23 (by decide) hf (fun c hf => ?_) (fun c hf => ?_)
      · refine g_aload_n 1 S dX7_fly_26 rfl ?_
        refine g_iload_n 2 S dX7_fly_27 rfl ?_
        refine g_aload_n 0 S dX7_fly_28 rfl ?_
        obtain ⟨r4, M5, hr4, hf⟩ := bd2_some hf
        refine g_cVI (st := []) S ob_50 rfl ok_X7_reasonAgainst lk_X7_223 (c_X7_reasonAgainst hn2 hr4) rfl rfl ⟨by decide, by decide⟩ (rmD_z _) (Nat.le_of_ble_eq_true rfl) dX7_fly_29 ?_
        refine g_istore (lv' := [(4, .int r4), (3, .ref (a.2 n2)), (0, .ref (a.2 50)), (1, .int p1), (2, .int p2)]) S dX7_fly_32 (by decide) rfl ?_
        refine g_iload 0 S dX7_fly_34 rfl ?_
        refine g_if_eq (tgt := 45) S dX7_fly_36 (by decide) hf (fun c hf => ?_) (fun c hf => ?_)
        · refine Go.sub [4, 1] rfl ?_
          exact t_X7_fly_45  S rt _ _ hf
        · refine g_bipush (v := (-10)) S dX7_fly_39 rfl ?_
          refine g_iload 0 S dX7_fly_41 rfl ?_
          refine g_isub S dX7_fly_43 ?_
          exact g_iretM rt hf dX7_fly_44
      · refine Go.sub [3, 0] rfl ?_
        exact t_X7_fly_45  S rt _ _ hf
    · refine g_iconst (v := (-1)) S dX7_fly_19 rfl ?_
      exact g_iretM rt hf dX7_fly_20
-- BridleBook.why(I)I
theorem dX7_why_0 : decode cX7_why 0 = .ok (.aload_n 0, 1) := by decide +kernel
theorem dX7_why_1 : decode cX7_why 1 = .ok (.iload_n 1, 1) := by decide +kernel
theorem dX7_why_2 : decode cX7_why 2 = .ok (.invokevirtual 219, 3) := by decide +kernel
theorem dX7_why_5 : decode cX7_why 5 = .ok (.astore_n 2, 1) := by decide +kernel
theorem dX7_why_6 : decode cX7_why 6 = .ok (.aload_n 2, 1) := by decide +kernel
theorem dX7_why_7 : decode cX7_why 7 = .ok (.ifnonnull 7, 3) := by decide +kernel
theorem dX7_why_10 : decode cX7_why 10 = .ok (.iconst (-1), 1) := by decide +kernel
theorem dX7_why_11 : decode cX7_why 11 = .ok (.goto 9, 3) := by decide +kernel
theorem dX7_why_14 : decode cX7_why 14 = .ok (.aload_n 0, 1) := by decide +kernel
theorem dX7_why_15 : decode cX7_why 15 = .ok (.iload_n 1, 1) := by decide +kernel
theorem dX7_why_16 : decode cX7_why 16 = .ok (.aload_n 2, 1) := by decide +kernel
theorem dX7_why_17 : decode cX7_why 17 = .ok (.invokevirtual 223, 3) := by decide +kernel
theorem dX7_why_20 : decode cX7_why 20 = .ok (.ireturn, 1) := by decide +kernel
def f_X7_why (z : Nat → Nat) (M : Mem) (p1 : Int32) : Option (Int32 × Mem) := bd1 (f_X7_flyerAt z M p1) (fun r1 => mq r1 (some ((-1), M)) (fun n2 => bd2 (f_X7_reasonAgainst z n2 M p1) (fun r3 M4 => some (r3, M4))))
theorem c_X7_why {l : Launch} {G : GG} {a : AA} {M : Mem} {p1 : Int32} {r : Int32} {M' : Mem} (hf : f_X7_why a.1 M p1 = some (r, M')) : CtI l G a yX7_why cX7_why 3 .int (rmD 6) [.ref (a.2 50), .int p1] M r M' := by
  refine ct_I (by decide) rfl rfl (own := RX7) (Nat.le_of_ble_eq_true rfl) (fun K hl hg S rt => ?_)
  subst hl; subst hg
  unfold f_X7_why at hf
  show Go K 3 a M 0 [(0, .ref (a.2 50)), (1, .int p1)] []
  refine g_aload_n 0 S dX7_why_0 rfl ?_
  refine g_iload_n 1 S dX7_why_1 rfl ?_
  obtain ⟨r1, hr1, hf⟩ := bd1_some hf
  refine g_cVQ (st := []) S ob_50 rfl ok_X7_flyerAt lk_X7_219 (c_X7_flyerAt hr1) rfl rfl ⟨by decide, by decide⟩ (rmD_z _) (Nat.le_of_ble_eq_true rfl) dX7_why_2 ?_
  rcases r1 with _ | n2
  · refine Go.st (st' := [.null]) rfl ?_
    refine g_astore_nN (lv' := [(2, .null), (0, .ref (a.2 50)), (1, .int p1)]) S dX7_why_5 (by decide) rfl ?_
    refine g_aload_nN 0 S dX7_why_6 rfl ?_
    refine g_ifnonnullN S dX7_why_7 ?_
    refine g_iconst (v := (-1)) S dX7_why_10 rfl ?_
    refine g_goto (tgt := 20) S dX7_why_11 (by decide) ?_
    exact g_iretM rt hf dX7_why_20
  · have hn2 := vd_X7_flyerAt hr1
    refine Go.st (st' := [.ref (a.2 n2)]) rfl ?_
    refine g_astore_n (lv' := [(2, .ref (a.2 n2)), (0, .ref (a.2 50)), (1, .int p1)]) S dX7_why_5 (by decide) rfl ?_
    refine g_aload_n 0 S dX7_why_6 rfl ?_
    refine g_ifnonnull (tgt := 14) S dX7_why_7 (by decide) ?_
    refine g_aload_n 1 S dX7_why_14 rfl ?_
    refine g_iload_n 2 S dX7_why_15 rfl ?_
    refine g_aload_n 0 S dX7_why_16 rfl ?_
    obtain ⟨r3, M4, hr3, hf⟩ := bd2_some hf
    refine g_cVI (st := []) S ob_50 rfl ok_X7_reasonAgainst lk_X7_223 (c_X7_reasonAgainst hn2 hr3) rfl rfl ⟨by decide, by decide⟩ (rmD_z _) (Nat.le_of_ble_eq_true rfl) dX7_why_17 ?_
    exact g_iretM rt hf dX7_why_20
-- BridleBook.cone(II)I
theorem dX7_cone_0 : decode cX7_cone 0 = .ok (.aload_n 0, 1) := by decide +kernel
theorem dX7_cone_1 : decode cX7_cone 1 = .ok (.iload_n 1, 1) := by decide +kernel
theorem dX7_cone_2 : decode cX7_cone 2 = .ok (.invokevirtual 219, 3) := by decide +kernel
theorem dX7_cone_5 : decode cX7_cone 5 = .ok (.astore_n 3, 1) := by decide +kernel
theorem dX7_cone_6 : decode cX7_cone 6 = .ok (.aload_n 3, 1) := by decide +kernel
theorem dX7_cone_7 : decode cX7_cone 7 = .ok (.ifnull 10, 3) := by decide +kernel
theorem dX7_cone_10 : decode cX7_cone 10 = .ok (.iload_n 2, 1) := by decide +kernel
theorem dX7_cone_11 : decode cX7_cone 11 = .ok (.invokestatic 209, 3) := by decide +kernel
theorem dX7_cone_14 : decode cX7_cone 14 = .ok (.ifCond .ne 5, 3) := by decide +kernel
theorem dX7_cone_17 : decode cX7_cone 17 = .ok (.iconst (-1), 1) := by decide +kernel
theorem dX7_cone_18 : decode cX7_cone 18 = .ok (.ireturn, 1) := by decide +kernel
theorem dX7_cone_19 : decode cX7_cone 19 = .ok (.aload_n 0, 1) := by decide +kernel
theorem dX7_cone_20 : decode cX7_cone 20 = .ok (.aload_n 0, 1) := by decide +kernel
theorem dX7_cone_21 : decode cX7_cone 21 = .ok (.getfield 74, 3) := by decide +kernel
theorem dX7_cone_24 : decode cX7_cone 24 = .ok (.aload_n 3, 1) := by decide +kernel
theorem dX7_cone_25 : decode cX7_cone 25 = .ok (.invokevirtual 231, 3) := by decide +kernel
theorem dX7_cone_28 : decode cX7_cone 28 = .ok (.aload_n 0, 1) := by decide +kernel
theorem dX7_cone_29 : decode cX7_cone 29 = .ok (.getfield 74, 3) := by decide +kernel
theorem dX7_cone_32 : decode cX7_cone 32 = .ok (.iload_n 2, 1) := by decide +kernel
theorem dX7_cone_33 : decode cX7_cone 33 = .ok (.invokevirtual 235, 3) := by decide +kernel
theorem dX7_cone_36 : decode cX7_cone 36 = .ok (.ifCond .eq 7, 3) := by decide +kernel
theorem dX7_cone_39 : decode cX7_cone 39 = .ok (.iconst 1, 1) := by decide +kernel
theorem dX7_cone_40 : decode cX7_cone 40 = .ok (.goto 4, 3) := by decide +kernel
theorem dX7_cone_43 : decode cX7_cone 43 = .ok (.iconst 0, 1) := by decide +kernel
theorem dX7_cone_44 : decode cX7_cone 44 = .ok (.ireturn, 1) := by decide +kernel
def f_X7_cone (z : Nat → Nat) (M : Mem) (p1 : Int32) (p2 : Int32) : Option (Int32 × Mem) := bd1 (f_X7_flyerAt z M p1) (fun r1 => mq r1 (some ((-1), M)) (fun n2 => bd1 (f_X7_isPlace z M p2) (fun r3 => if r3 = true then bd1 (f_X7_spreadCone z 65 n2 M) (fun M4 => bd1 (f_X0_holds z 65 M4 p2) (fun r5 => if r5 = true then some (1, M4) else some (0, M4))) else some ((-1), M))))
theorem c_X7_cone {l : Launch} {G : GG} {a : AA} {M : Mem} {p1 : Int32} {p2 : Int32} {r : Int32} {M' : Mem} (hf : f_X7_cone a.1 M p1 p2 = some (r, M')) : CtI l G a yX7_cone cX7_cone 4 .int (rmD 4) [.ref (a.2 50), .int p1, .int p2] M r M' := by
  refine ct_I (by decide) rfl rfl (own := RX7) (Nat.le_of_ble_eq_true rfl) (fun K hl hg S rt => ?_)
  subst hl; subst hg
  unfold f_X7_cone at hf
  show Go K 4 a M 0 [(0, .ref (a.2 50)), (1, .int p1), (2, .int p2)] []
  refine g_aload_n 0 S dX7_cone_0 rfl ?_
  refine g_iload_n 1 S dX7_cone_1 rfl ?_
  obtain ⟨r1, hr1, hf⟩ := bd1_some hf
  refine g_cVQ (st := []) S ob_50 rfl ok_X7_flyerAt lk_X7_219 (c_X7_flyerAt hr1) rfl rfl ⟨by decide, by decide⟩ (rmD_z _) (Nat.le_of_ble_eq_true rfl) dX7_cone_2 ?_
  rcases r1 with _ | n2
  · refine Go.st (st' := [.null]) rfl ?_
    refine g_astore_nN (lv' := [(3, .null), (0, .ref (a.2 50)), (1, .int p1), (2, .int p2)]) S dX7_cone_5 (by decide) rfl ?_
    refine g_aload_nN 0 S dX7_cone_6 rfl ?_
    refine g_ifnullN (tgt := 17) S dX7_cone_7 (by decide) ?_
    refine g_iconst (v := (-1)) S dX7_cone_17 rfl ?_
    exact g_iretM rt hf dX7_cone_18
  · have hn2 := vd_X7_flyerAt hr1
    refine Go.st (st' := [.ref (a.2 n2)]) rfl ?_
    refine g_astore_n (lv' := [(3, .ref (a.2 n2)), (0, .ref (a.2 50)), (1, .int p1), (2, .int p2)]) S dX7_cone_5 (by decide) rfl ?_
    refine g_aload_n 0 S dX7_cone_6 rfl ?_
    refine g_ifnull S dX7_cone_7 ?_
    refine g_iload_n 3 S dX7_cone_10 rfl ?_
    obtain ⟨r3, hr3, hf⟩ := bd1_some hf
    refine g_cSI (st := []) S ok_X7_isPlace lk_X7_209 (c_X7_isPlace hr3) rfl rfl ⟨by decide, by decide⟩ (rmD_z _) (Nat.le_of_ble_eq_true rfl) dX7_cone_11 ?_
    refine g_if_neB (tgt := 19) S dX7_cone_14 (by decide) hf (fun c hf => ?_) (fun c hf => ?_)
    · refine g_aload_n 1 S dX7_cone_19 rfl ?_
      refine g_aload_n 1 S dX7_cone_20 rfl ?_
      refine g_get (v := .ref (a.2 65)) S ob_50 rfl gi_X7 (by decide) lf_X7_74 rfl dX7_cone_21 ?_
      refine g_aload_n 0 S dX7_cone_24 rfl ?_
      obtain ⟨M4, hM4, hf⟩ := bd1_some hf
      refine g_cVV (st := []) S ob_50 rfl ok_X7_spreadCone lk_X7_231 (c_X7_spreadCone (Or.inl rfl) hn2 hM4) rfl rfl ⟨by decide, by decide⟩ (rmD_z _) (Nat.le_of_ble_eq_true rfl) dX7_cone_25 ?_
      refine g_aload_n 1 S dX7_cone_28 rfl ?_
      refine g_get (v := .ref (a.2 65)) S ob_50 rfl gi_X7 (by decide) lf_X7_74 rfl dX7_cone_29 ?_
      refine g_iload_n 3 S dX7_cone_32 rfl ?_
      obtain ⟨r5, hr5, hf⟩ := bd1_some hf
      refine g_cVI (st := []) S (ob_C (Or.inl rfl)) rfl ok_X0_holds lk_X7_235 (c_X0_holds (Or.inl rfl) hr5) rfl rfl ⟨by decide, by decide⟩ (rmD_z _) (Nat.le_of_ble_eq_true rfl) dX7_cone_33 ?_
      refine g_if_eqB (tgt := 43) S dX7_cone_36 (by decide) hf (fun c hf => ?_) (fun c hf => ?_)
      · refine g_iconst (v := 1) S dX7_cone_39 rfl ?_
        refine g_goto (tgt := 44) S dX7_cone_40 (by decide) ?_
        exact g_iretM rt hf dX7_cone_44
      · refine g_iconst (v := 0) S dX7_cone_43 rfl ?_
        exact g_iretM rt hf dX7_cone_44
    · refine g_iconst (v := (-1)) S dX7_cone_17 rfl ?_
      exact g_iretM rt hf dX7_cone_18
-- BridleBook.areTwoLines(II)Z
theorem dX7_areTwoLines_0 : decode cX7_areTwoLines 0 = .ok (.iload_n 1, 1) := by decide +kernel
theorem dX7_areTwoLines_1 : decode cX7_areTwoLines 1 = .ok (.iload_n 2, 1) := by decide +kernel
theorem dX7_areTwoLines_2 : decode cX7_areTwoLines 2 = .ok (.if_icmp .eq 23, 3) := by decide +kernel
theorem dX7_areTwoLines_5 : decode cX7_areTwoLines 5 = .ok (.aload_n 0, 1) := by decide +kernel
theorem dX7_areTwoLines_6 : decode cX7_areTwoLines 6 = .ok (.iload_n 1, 1) := by decide +kernel
theorem dX7_areTwoLines_7 : decode cX7_areTwoLines 7 = .ok (.invokevirtual 150, 3) := by decide +kernel
theorem dX7_areTwoLines_10 : decode cX7_areTwoLines 10 = .ok (.ifnull 15, 3) := by decide +kernel
theorem dX7_areTwoLines_13 : decode cX7_areTwoLines 13 = .ok (.aload_n 0, 1) := by decide +kernel
theorem dX7_areTwoLines_14 : decode cX7_areTwoLines 14 = .ok (.iload_n 2, 1) := by decide +kernel
theorem dX7_areTwoLines_15 : decode cX7_areTwoLines 15 = .ok (.invokevirtual 150, 3) := by decide +kernel
theorem dX7_areTwoLines_18 : decode cX7_areTwoLines 18 = .ok (.ifnull 7, 3) := by decide +kernel
theorem dX7_areTwoLines_21 : decode cX7_areTwoLines 21 = .ok (.iconst 1, 1) := by decide +kernel
theorem dX7_areTwoLines_22 : decode cX7_areTwoLines 22 = .ok (.goto 4, 3) := by decide +kernel
theorem dX7_areTwoLines_25 : decode cX7_areTwoLines 25 = .ok (.iconst 0, 1) := by decide +kernel
theorem dX7_areTwoLines_26 : decode cX7_areTwoLines 26 = .ok (.ireturn, 1) := by decide +kernel
def f_X7_areTwoLines (z : Nat → Nat) (M : Mem) (p1 : Int32) (p2 : Int32) : Option Bool := if p1 = p2 then some false else bd1 (f_X7_lineAt z M p1) (fun r1 => mq r1 (some false) (fun n2 => bd1 (f_X7_lineAt z M p2) (fun r3 => mq r3 (some false) (fun n4 => some true))))
theorem c_X7_areTwoLines {l : Launch} {G : GG} {a : AA} {M : Mem} {p1 : Int32} {p2 : Int32} {r : Bool} (hf : f_X7_areTwoLines a.1 M p1 p2 = some r) : CtI l G a yX7_areTwoLines cX7_areTwoLines 3 .boolean (rmD 2) [.ref (a.2 50), .int p1, .int p2] M (b2i r) M := by
  refine ct_I (by decide) rfl (b2i_n _) (own := RX7) (Nat.le_of_ble_eq_true rfl) (fun K hl hg S rt => ?_)
  subst hl; subst hg
  unfold f_X7_areTwoLines at hf
  show Go K 3 a M 0 [(0, .ref (a.2 50)), (1, .int p1), (2, .int p2)] []
  refine g_iload_n 1 S dX7_areTwoLines_0 rfl ?_
  refine g_iload_n 2 S dX7_areTwoLines_1 rfl ?_
  refine g_icmp_eq (tgt := 25) S dX7_areTwoLines_2 (by decide) hf (fun c hf => ?_) (fun c hf => ?_)
  · refine g_iconst (v := 0) S dX7_areTwoLines_25 rfl ?_
    exact g_zretP rt hf dX7_areTwoLines_26 rfl
  · refine g_aload_n 0 S dX7_areTwoLines_5 rfl ?_
    refine g_iload_n 1 S dX7_areTwoLines_6 rfl ?_
    obtain ⟨r1, hr1, hf⟩ := bd1_some hf
    refine g_cVQ (st := []) S ob_50 rfl ok_X7_lineAt lk_X7_150 (c_X7_lineAt hr1) rfl rfl ⟨by decide, by decide⟩ (rmD_z _) (Nat.le_of_ble_eq_true rfl) dX7_areTwoLines_7 ?_
    rcases r1 with _ | n2
    · refine Go.st (st' := [.null]) rfl ?_
      refine g_ifnullN (tgt := 25) S dX7_areTwoLines_10 (by decide) ?_
      refine g_iconst (v := 0) S dX7_areTwoLines_25 rfl ?_
      exact g_zretP rt hf dX7_areTwoLines_26 rfl
    · have hn2 := vd_X7_lineAt hr1
      refine Go.st (st' := [.ref (a.2 n2)]) rfl ?_
      refine g_ifnull S dX7_areTwoLines_10 ?_
      refine g_aload_n 0 S dX7_areTwoLines_13 rfl ?_
      refine g_iload_n 2 S dX7_areTwoLines_14 rfl ?_
      obtain ⟨r3, hr3, hf⟩ := bd1_some hf
      refine g_cVQ (st := []) S ob_50 rfl ok_X7_lineAt lk_X7_150 (c_X7_lineAt hr3) rfl rfl ⟨by decide, by decide⟩ (rmD_z _) (Nat.le_of_ble_eq_true rfl) dX7_areTwoLines_15 ?_
      rcases r3 with _ | n4
      · refine Go.st (st' := [.null]) rfl ?_
        refine g_ifnullN (tgt := 25) S dX7_areTwoLines_18 (by decide) ?_
        refine g_iconst (v := 0) S dX7_areTwoLines_25 rfl ?_
        exact g_zretP rt hf dX7_areTwoLines_26 rfl
      · have hn4 := vd_X7_lineAt hr3
        refine Go.st (st' := [.ref (a.2 n4)]) rfl ?_
        refine g_ifnull S dX7_areTwoLines_18 ?_
        refine g_iconst (v := 1) S dX7_areTwoLines_21 rfl ?_
        refine g_goto (tgt := 26) S dX7_areTwoLines_22 (by decide) ?_
        exact g_zretP rt hf dX7_areTwoLines_26 rfl
-- BridleBook.turn(III)I
theorem dX7_turn_0 : decode cX7_turn 0 = .ok (.aload_n 0, 1) := by decide +kernel
theorem dX7_turn_1 : decode cX7_turn 1 = .ok (.iload_n 1, 1) := by decide +kernel
theorem dX7_turn_2 : decode cX7_turn 2 = .ok (.iload_n 2, 1) := by decide +kernel
theorem dX7_turn_3 : decode cX7_turn 3 = .ok (.invokevirtual 238, 3) := by decide +kernel
theorem dX7_turn_6 : decode cX7_turn 6 = .ok (.ifCond .eq 13, 3) := by decide +kernel
theorem dX7_turn_9 : decode cX7_turn 9 = .ok (.iload_n 3, 1) := by decide +kernel
theorem dX7_turn_10 : decode cX7_turn 10 = .ok (.iconst 1, 1) := by decide +kernel
theorem dX7_turn_11 : decode cX7_turn 11 = .ok (.if_icmp .eq 10, 3) := by decide +kernel
theorem dX7_turn_14 : decode cX7_turn 14 = .ok (.iload_n 3, 1) := by decide +kernel
theorem dX7_turn_15 : decode cX7_turn 15 = .ok (.iconst (-1), 1) := by decide +kernel
theorem dX7_turn_16 : decode cX7_turn 16 = .ok (.if_icmp .eq 5, 3) := by decide +kernel
theorem dX7_turn_19 : decode cX7_turn 19 = .ok (.iconst (-1), 1) := by decide +kernel
theorem dX7_turn_20 : decode cX7_turn 20 = .ok (.ireturn, 1) := by decide +kernel
theorem dX7_turn_21 : decode cX7_turn 21 = .ok (.aload_n 0, 1) := by decide +kernel
theorem dX7_turn_22 : decode cX7_turn 22 = .ok (.getfield 84, 3) := by decide +kernel
theorem dX7_turn_25 : decode cX7_turn 25 = .ok (.iload_n 1, 1) := by decide +kernel
theorem dX7_turn_26 : decode cX7_turn 26 = .ok (.iload_n 2, 1) := by decide +kernel
theorem dX7_turn_27 : decode cX7_turn 27 = .ok (.iload_n 3, 1) := by decide +kernel
theorem dX7_turn_28 : decode cX7_turn 28 = .ok (.invokestatic 242, 3) := by decide +kernel
theorem dX7_turn_31 : decode cX7_turn 31 = .ok (.invokevirtual 245, 3) := by decide +kernel
theorem dX7_turn_34 : decode cX7_turn 34 = .ok (.ifCond .eq 13, 3) := by decide +kernel
theorem dX7_turn_37 : decode cX7_turn 37 = .ok (.aload_n 0, 1) := by decide +kernel
theorem dX7_turn_38 : decode cX7_turn 38 = .ok (.getfield 84, 3) := by decide +kernel
theorem dX7_turn_41 : decode cX7_turn 41 = .ok (.getfield 248, 3) := by decide +kernel
theorem dX7_turn_44 : decode cX7_turn 44 = .ok (.goto 5, 3) := by decide +kernel
theorem dX7_turn_47 : decode cX7_turn 47 = .ok (.bipush (-3), 2) := by decide +kernel
theorem dX7_turn_49 : decode cX7_turn 49 = .ok (.ireturn, 1) := by decide +kernel
def f_X7_turn_21 (z : Nat → Nat) (M : Mem) (x1 : Int32) (x2 : Int32) (x3 : Int32) : Option (Int32 × Mem) := bd1 (f_X6_codeOf z M x1 x2 x3) (fun r2 => bd2 (f_X6_push z M r2) (fun r3 M4 => if r3 = true then some ((M4 67 1), M4) else some ((-3), M4)))
theorem t_X7_turn_21 {K : KK} {a : AA} (S : Sx K RX7 cX7_turn 4 (rmD 3)) {r : Int32} {M' : Mem} (rt : RtI K a cX7_turn r M') (M : Mem) (x1 : Int32) (x2 : Int32) (x3 : Int32) (hf : f_X7_turn_21 a.1 M x1 x2 x3 = some (r, M')) : Go K 4 a M 21 [(0, .ref (a.2 50)), (1, .int x1), (2, .int x2), (3, .int x3)] [] := by
  unfold f_X7_turn_21 at hf
  refine g_aload_n 0 S dX7_turn_21 rfl ?_
  refine g_get (v := .ref (a.2 67)) S ob_50 rfl gi_X7 (by decide) lf_X7_84 rfl dX7_turn_22 ?_
  refine g_iload_n 1 S dX7_turn_25 rfl ?_
  refine g_iload_n 2 S dX7_turn_26 rfl ?_
  refine g_iload_n 3 S dX7_turn_27 rfl ?_
  obtain ⟨r2, hr2, hf⟩ := bd1_some hf
  refine g_cSI (st := [.ref (a.2 67)]) S ok_X6_codeOf lk_X7_242 (c_X6_codeOf hr2) rfl rfl ⟨by decide, by decide⟩ (rmD_z _) (Nat.le_of_ble_eq_true rfl) dX7_turn_28 ?_
  obtain ⟨r3, M4, hr3, hf⟩ := bd2_some hf
  refine g_cVI (st := []) S ob_67 rfl ok_X6_push lk_X7_245 (c_X6_push hr3) rfl rfl ⟨by decide, by decide⟩ (rmD_z _) (Nat.le_of_ble_eq_true rfl) dX7_turn_31 ?_
  refine g_if_eqB (tgt := 47) S dX7_turn_34 (by decide) hf (fun c hf => ?_) (fun c hf => ?_)
  · refine g_aload_n 0 S dX7_turn_37 rfl ?_
    refine g_get (v := .ref (a.2 67)) S ob_50 rfl gi_X7 (by decide) lf_X7_84 rfl dX7_turn_38 ?_
    refine g_get (v := .int (M4 67 1)) S ob_67 rfl gi_X6 (by decide) lf_X7_248 rfl dX7_turn_41 ?_
    refine g_goto (tgt := 49) S dX7_turn_44 (by decide) ?_
    exact g_iretM rt hf dX7_turn_49
  · refine g_bipush (v := (-3)) S dX7_turn_47 rfl ?_
    exact g_iretM rt hf dX7_turn_49
def f_X7_turn (z : Nat → Nat) (M : Mem) (p1 : Int32) (p2 : Int32) (p3 : Int32) : Option (Int32 × Mem) := bd1 (f_X7_areTwoLines z M p1 p2) (fun r1 => if r1 = true then if p3 = 1 then f_X7_turn_21 z M p1 p2 p3 else if p3 = (-1) then f_X7_turn_21 z M p1 p2 p3 else some ((-1), M) else some ((-1), M))
theorem c_X7_turn {l : Launch} {G : GG} {a : AA} {M : Mem} {p1 : Int32} {p2 : Int32} {p3 : Int32} {r : Int32} {M' : Mem} (hf : f_X7_turn a.1 M p1 p2 p3 = some (r, M')) : CtI l G a yX7_turn cX7_turn 4 .int (rmD 3) [.ref (a.2 50), .int p1, .int p2, .int p3] M r M' := by
  refine ct_I (by decide) rfl rfl (own := RX7) (Nat.le_of_ble_eq_true rfl) (fun K hl hg S rt => ?_)
  subst hl; subst hg
  unfold f_X7_turn at hf
  show Go K 4 a M 0 [(0, .ref (a.2 50)), (1, .int p1), (2, .int p2), (3, .int p3)] []
  refine g_aload_n 0 S dX7_turn_0 rfl ?_
  refine g_iload_n 1 S dX7_turn_1 rfl ?_
  refine g_iload_n 2 S dX7_turn_2 rfl ?_
  obtain ⟨r1, hr1, hf⟩ := bd1_some hf
  refine g_cVI (st := []) S ob_50 rfl ok_X7_areTwoLines lk_X7_238 (c_X7_areTwoLines hr1) rfl rfl ⟨by decide, by decide⟩ (rmD_z _) (Nat.le_of_ble_eq_true rfl) dX7_turn_3 ?_
  refine g_if_eqB (tgt := 19) S dX7_turn_6 (by decide) hf (fun c hf => ?_) (fun c hf => ?_)
  · refine g_iload_n 3 S dX7_turn_9 rfl ?_
    refine g_iconst (v := 1) S dX7_turn_10 rfl ?_
    refine g_icmp_eq (tgt := 21) S dX7_turn_11 (by decide) hf (fun c hf => ?_) (fun c hf => ?_)
    · exact t_X7_turn_21  S rt _ _ _ _ hf
    · refine g_iload_n 3 S dX7_turn_14 rfl ?_
      refine g_iconst (v := (-1)) S dX7_turn_15 rfl ?_
      refine g_icmp_eq (tgt := 21) S dX7_turn_16 (by decide) hf (fun c hf => ?_) (fun c hf => ?_)
      · exact t_X7_turn_21  S rt _ _ _ _ hf
      · refine g_iconst (v := (-1)) S dX7_turn_19 rfl ?_
        exact g_iretM rt hf dX7_turn_20
  · refine g_iconst (v := (-1)) S dX7_turn_19 rfl ?_
    exact g_iretM rt hf dX7_turn_20
-- BridleBook.tangled(II)I
theorem dX7_tangled_0 : decode cX7_tangled 0 = .ok (.aload_n 0, 1) := by decide +kernel
theorem dX7_tangled_1 : decode cX7_tangled 1 = .ok (.iload_n 1, 1) := by decide +kernel
theorem dX7_tangled_2 : decode cX7_tangled 2 = .ok (.iload_n 2, 1) := by decide +kernel
theorem dX7_tangled_3 : decode cX7_tangled 3 = .ok (.invokevirtual 238, 3) := by decide +kernel
theorem dX7_tangled_6 : decode cX7_tangled 6 = .ok (.ifCond .eq 15, 3) := by decide +kernel
theorem dX7_tangled_9 : decode cX7_tangled 9 = .ok (.aload_n 0, 1) := by decide +kernel
theorem dX7_tangled_10 : decode cX7_tangled 10 = .ok (.getfield 84, 3) := by decide +kernel
theorem dX7_tangled_13 : decode cX7_tangled 13 = .ok (.iload_n 1, 1) := by decide +kernel
theorem dX7_tangled_14 : decode cX7_tangled 14 = .ok (.iload_n 2, 1) := by decide +kernel
theorem dX7_tangled_15 : decode cX7_tangled 15 = .ok (.invokevirtual 251, 3) := by decide +kernel
theorem dX7_tangled_18 : decode cX7_tangled 18 = .ok (.goto 4, 3) := by decide +kernel
theorem dX7_tangled_21 : decode cX7_tangled 21 = .ok (.iconst (-1), 1) := by decide +kernel
theorem dX7_tangled_22 : decode cX7_tangled 22 = .ok (.ireturn, 1) := by decide +kernel
def f_X7_tangled (z : Nat → Nat) (M : Mem) (p1 : Int32) (p2 : Int32) : Option Int32 := bd1 (f_X7_areTwoLines z M p1 p2) (fun r1 => if r1 = true then bd1 (f_X6_turnsOf z M p1 p2) (fun r2 => some r2) else some (-1))
theorem c_X7_tangled {l : Launch} {G : GG} {a : AA} {M : Mem} {p1 : Int32} {p2 : Int32} {r : Int32} (hf : f_X7_tangled a.1 M p1 p2 = some r) : CtI l G a yX7_tangled cX7_tangled 3 .int (rmD 3) [.ref (a.2 50), .int p1, .int p2] M r M := by
  refine ct_I (by decide) rfl rfl (own := RX7) (Nat.le_of_ble_eq_true rfl) (fun K hl hg S rt => ?_)
  subst hl; subst hg
  unfold f_X7_tangled at hf
  show Go K 3 a M 0 [(0, .ref (a.2 50)), (1, .int p1), (2, .int p2)] []
  refine g_aload_n 0 S dX7_tangled_0 rfl ?_
  refine g_iload_n 1 S dX7_tangled_1 rfl ?_
  refine g_iload_n 2 S dX7_tangled_2 rfl ?_
  obtain ⟨r1, hr1, hf⟩ := bd1_some hf
  refine g_cVI (st := []) S ob_50 rfl ok_X7_areTwoLines lk_X7_238 (c_X7_areTwoLines hr1) rfl rfl ⟨by decide, by decide⟩ (rmD_z _) (Nat.le_of_ble_eq_true rfl) dX7_tangled_3 ?_
  refine g_if_eqB (tgt := 21) S dX7_tangled_6 (by decide) hf (fun c hf => ?_) (fun c hf => ?_)
  · refine g_aload_n 0 S dX7_tangled_9 rfl ?_
    refine g_get (v := .ref (a.2 67)) S ob_50 rfl gi_X7 (by decide) lf_X7_84 rfl dX7_tangled_10 ?_
    refine g_iload_n 1 S dX7_tangled_13 rfl ?_
    refine g_iload_n 2 S dX7_tangled_14 rfl ?_
    obtain ⟨r2, hr2, hf⟩ := bd1_some hf
    refine g_cVI (st := []) S ob_67 rfl ok_X6_turnsOf lk_X7_251 (c_X6_turnsOf hr2) rfl rfl ⟨by decide, by decide⟩ (rmD_z _) (Nat.le_of_ble_eq_true rfl) dX7_tangled_15 ?_
    refine g_goto (tgt := 22) S dX7_tangled_18 (by decide) ?_
    exact g_iretP rt hf dX7_tangled_22
  · refine g_iconst (v := (-1)) S dX7_tangled_21 rfl ?_
    exact g_iretP rt hf dX7_tangled_22
-- BridleBook.undo(I)I
theorem dX7_undo_0 : decode cX7_undo 0 = .ok (.aload_n 0, 1) := by decide +kernel
theorem dX7_undo_1 : decode cX7_undo 1 = .ok (.iload_n 1, 1) := by decide +kernel
theorem dX7_undo_2 : decode cX7_undo 2 = .ok (.invokevirtual 150, 3) := by decide +kernel
theorem dX7_undo_5 : decode cX7_undo 5 = .ok (.ifnonnull 7, 3) := by decide +kernel
theorem dX7_undo_8 : decode cX7_undo 8 = .ok (.iconst (-1), 1) := by decide +kernel
theorem dX7_undo_9 : decode cX7_undo 9 = .ok (.goto 11, 3) := by decide +kernel
theorem dX7_undo_12 : decode cX7_undo 12 = .ok (.aload_n 0, 1) := by decide +kernel
theorem dX7_undo_13 : decode cX7_undo 13 = .ok (.getfield 84, 3) := by decide +kernel
theorem dX7_undo_16 : decode cX7_undo 16 = .ok (.iload_n 1, 1) := by decide +kernel
theorem dX7_undo_17 : decode cX7_undo 17 = .ok (.invokevirtual 254, 3) := by decide +kernel
theorem dX7_undo_20 : decode cX7_undo 20 = .ok (.ireturn, 1) := by decide +kernel
def f_X7_undo (z : Nat → Nat) (M : Mem) (p1 : Int32) : Option Int32 := bd1 (f_X7_lineAt z M p1) (fun r1 => mq r1 (some (-1)) (fun n2 => bd1 (f_X6_undoneFor z M p1) (fun r3 => some r3)))
theorem c_X7_undo {l : Launch} {G : GG} {a : AA} {M : Mem} {p1 : Int32} {r : Int32} (hf : f_X7_undo a.1 M p1 = some r) : CtI l G a yX7_undo cX7_undo 2 .int (rmD 3) [.ref (a.2 50), .int p1] M r M := by
  refine ct_I (by decide) rfl rfl (own := RX7) (Nat.le_of_ble_eq_true rfl) (fun K hl hg S rt => ?_)
  subst hl; subst hg
  unfold f_X7_undo at hf
  show Go K 2 a M 0 [(0, .ref (a.2 50)), (1, .int p1)] []
  refine g_aload_n 0 S dX7_undo_0 rfl ?_
  refine g_iload_n 1 S dX7_undo_1 rfl ?_
  obtain ⟨r1, hr1, hf⟩ := bd1_some hf
  refine g_cVQ (st := []) S ob_50 rfl ok_X7_lineAt lk_X7_150 (c_X7_lineAt hr1) rfl rfl ⟨by decide, by decide⟩ (rmD_z _) (Nat.le_of_ble_eq_true rfl) dX7_undo_2 ?_
  rcases r1 with _ | n2
  · refine Go.st (st' := [.null]) rfl ?_
    refine g_ifnonnullN S dX7_undo_5 ?_
    refine g_iconst (v := (-1)) S dX7_undo_8 rfl ?_
    refine g_goto (tgt := 20) S dX7_undo_9 (by decide) ?_
    exact g_iretP rt hf dX7_undo_20
  · have hn2 := vd_X7_lineAt hr1
    refine Go.st (st' := [.ref (a.2 n2)]) rfl ?_
    refine g_ifnonnull (tgt := 12) S dX7_undo_5 (by decide) ?_
    refine g_aload_n 0 S dX7_undo_12 rfl ?_
    refine g_get (v := .ref (a.2 67)) S ob_50 rfl gi_X7 (by decide) lf_X7_84 rfl dX7_undo_13 ?_
    refine g_iload_n 1 S dX7_undo_16 rfl ?_
    obtain ⟨r3, hr3, hf⟩ := bd1_some hf
    refine g_cVI (st := []) S ob_67 rfl ok_X6_undoneFor lk_X7_254 (c_X6_undoneFor hr3) rfl rfl ⟨by decide, by decide⟩ (rmD_z _) (Nat.le_of_ble_eq_true rfl) dX7_undo_17 ?_
    exact g_iretP rt hf dX7_undo_20
-- BridleBook.unwind(I)I
theorem dX7_unwind_0 : decode cX7_unwind 0 = .ok (.iload_n 1, 1) := by decide +kernel
theorem dX7_unwind_1 : decode cX7_unwind 1 = .ok (.iconst 1, 1) := by decide +kernel
theorem dX7_unwind_2 : decode cX7_unwind 2 = .ok (.aload_n 0, 1) := by decide +kernel
theorem dX7_unwind_3 : decode cX7_unwind 3 = .ok (.getfield 84, 3) := by decide +kernel
theorem dX7_unwind_6 : decode cX7_unwind 6 = .ok (.getfield 248, 3) := by decide +kernel
theorem dX7_unwind_9 : decode cX7_unwind 9 = .ok (.invokestatic 99, 3) := by decide +kernel
theorem dX7_unwind_12 : decode cX7_unwind 12 = .ok (.ifCond .ne 5, 3) := by decide +kernel
theorem dX7_unwind_15 : decode cX7_unwind 15 = .ok (.iconst (-1), 1) := by decide +kernel
theorem dX7_unwind_16 : decode cX7_unwind 16 = .ok (.ireturn, 1) := by decide +kernel
theorem dX7_unwind_17 : decode cX7_unwind 17 = .ok (.aload_n 0, 1) := by decide +kernel
theorem dX7_unwind_18 : decode cX7_unwind 18 = .ok (.getfield 84, 3) := by decide +kernel
theorem dX7_unwind_21 : decode cX7_unwind 21 = .ok (.dup, 1) := by decide +kernel
theorem dX7_unwind_22 : decode cX7_unwind 22 = .ok (.getfield 248, 3) := by decide +kernel
theorem dX7_unwind_25 : decode cX7_unwind 25 = .ok (.iload_n 1, 1) := by decide +kernel
theorem dX7_unwind_26 : decode cX7_unwind 26 = .ok (.isub, 1) := by decide +kernel
theorem dX7_unwind_27 : decode cX7_unwind 27 = .ok (.putfield 248, 3) := by decide +kernel
theorem dX7_unwind_30 : decode cX7_unwind 30 = .ok (.aload_n 0, 1) := by decide +kernel
theorem dX7_unwind_31 : decode cX7_unwind 31 = .ok (.getfield 84, 3) := by decide +kernel
theorem dX7_unwind_34 : decode cX7_unwind 34 = .ok (.getfield 248, 3) := by decide +kernel
theorem dX7_unwind_37 : decode cX7_unwind 37 = .ok (.ireturn, 1) := by decide +kernel
def f_X7_unwind (z : Nat → Nat) (M : Mem) (p1 : Int32) : Option (Int32 × Mem) := bd1 (f_X7_within z M p1 1 (M 67 1)) (fun r1 => if r1 = true then some (((mu M 67 1 ((M 67 1) - p1)) 67 1), (mu M 67 1 ((M 67 1) - p1))) else some ((-1), M))
theorem c_X7_unwind {l : Launch} {G : GG} {a : AA} {M : Mem} {p1 : Int32} {r : Int32} {M' : Mem} (hf : f_X7_unwind a.1 M p1 = some (r, M')) : CtI l G a yX7_unwind cX7_unwind 2 .int (rmD 1) [.ref (a.2 50), .int p1] M r M' := by
  refine ct_I (by decide) rfl rfl (own := RX7) (Nat.le_of_ble_eq_true rfl) (fun K hl hg S rt => ?_)
  subst hl; subst hg
  unfold f_X7_unwind at hf
  show Go K 2 a M 0 [(0, .ref (a.2 50)), (1, .int p1)] []
  refine g_iload_n 1 S dX7_unwind_0 rfl ?_
  refine g_iconst (v := 1) S dX7_unwind_1 rfl ?_
  refine g_aload_n 0 S dX7_unwind_2 rfl ?_
  refine g_get (v := .ref (a.2 67)) S ob_50 rfl gi_X7 (by decide) lf_X7_84 rfl dX7_unwind_3 ?_
  refine g_get (v := .int (M 67 1)) S ob_67 rfl gi_X6 (by decide) lf_X7_248 rfl dX7_unwind_6 ?_
  obtain ⟨r1, hr1, hf⟩ := bd1_some hf
  refine g_cSI (st := []) S ok_X7_within lk_X7_99 (c_X7_within hr1) rfl rfl ⟨by decide, by decide⟩ (rmD_z _) (Nat.le_of_ble_eq_true rfl) dX7_unwind_9 ?_
  refine g_if_neB (tgt := 17) S dX7_unwind_12 (by decide) hf (fun c hf => ?_) (fun c hf => ?_)
  · refine g_aload_n 0 S dX7_unwind_17 rfl ?_
    refine g_get (v := .ref (a.2 67)) S ob_50 rfl gi_X7 (by decide) lf_X7_84 rfl dX7_unwind_18 ?_
    refine g_dup S dX7_unwind_21 rfl ?_
    refine g_get (v := .int (M 67 1)) S ob_67 rfl gi_X6 (by decide) lf_X7_248 rfl dX7_unwind_22 ?_
    refine g_iload_n 1 S dX7_unwind_25 rfl ?_
    refine g_isub S dX7_unwind_26 ?_
    refine g_put (ty := .int) S ob_67 rfl gi_X6 tyX6_ok nmX6 (by decide) lf_X7_248 rfl (by decide +kernel) rfl rfl (Nat.le_of_ble_eq_true rfl) rfl dX7_unwind_27 ?_
    refine g_aload_n 0 S dX7_unwind_30 rfl ?_
    refine g_get (v := .ref (a.2 67)) S ob_50 rfl gi_X7 (by decide) lf_X7_84 rfl dX7_unwind_31 ?_
    refine g_get (v := .int ((mu M 67 1 ((M 67 1) - p1)) 67 1)) S ob_67 rfl gi_X6 (by decide) lf_X7_248 rfl dX7_unwind_34 ?_
    exact g_iretM rt hf dX7_unwind_37
  · refine g_iconst (v := (-1)) S dX7_unwind_15 rfl ?_
    exact g_iretM rt hf dX7_unwind_16
-- BridleBook.cut(III)I
theorem dX7_cut_0 : decode cX7_cut 0 = .ok (.aload_n 0, 1) := by decide +kernel
theorem dX7_cut_1 : decode cX7_cut 1 = .ok (.iload_n 2, 1) := by decide +kernel
theorem dX7_cut_2 : decode cX7_cut 2 = .ok (.invokevirtual 150, 3) := by decide +kernel
theorem dX7_cut_5 : decode cX7_cut 5 = .ok (.astore 4, 2) := by decide +kernel
theorem dX7_cut_7 : decode cX7_cut 7 = .ok (.aload 4, 2) := by decide +kernel
theorem dX7_cut_9 : decode cX7_cut 9 = .ok (.ifnull 25, 3) := by decide +kernel
theorem dX7_cut_12 : decode cX7_cut 12 = .ok (.aload_n 0, 1) := by decide +kernel
theorem dX7_cut_13 : decode cX7_cut 13 = .ok (.iload_n 1, 1) := by decide +kernel
theorem dX7_cut_14 : decode cX7_cut 14 = .ok (.iload_n 2, 1) := by decide +kernel
theorem dX7_cut_15 : decode cX7_cut 15 = .ok (.invokevirtual 238, 3) := by decide +kernel
theorem dX7_cut_18 : decode cX7_cut 18 = .ok (.ifCond .eq 16, 3) := by decide +kernel
theorem dX7_cut_21 : decode cX7_cut 21 = .ok (.iload_n 3, 1) := by decide +kernel
theorem dX7_cut_22 : decode cX7_cut 22 = .ok (.iconst 1, 1) := by decide +kernel
theorem dX7_cut_23 : decode cX7_cut 23 = .ok (.aload 4, 2) := by decide +kernel
theorem dX7_cut_25 : decode cX7_cut 25 = .ok (.getfield 154, 3) := by decide +kernel
theorem dX7_cut_28 : decode cX7_cut 28 = .ok (.invokestatic 99, 3) := by decide +kernel
theorem dX7_cut_31 : decode cX7_cut 31 = .ok (.ifCond .ne 5, 3) := by decide +kernel
theorem dX7_cut_34 : decode cX7_cut 34 = .ok (.iconst (-1), 1) := by decide +kernel
theorem dX7_cut_35 : decode cX7_cut 35 = .ok (.ireturn, 1) := by decide +kernel
theorem dX7_cut_36 : decode cX7_cut 36 = .ok (.aload_n 0, 1) := by decide +kernel
theorem dX7_cut_37 : decode cX7_cut 37 = .ok (.getfield 84, 3) := by decide +kernel
theorem dX7_cut_40 : decode cX7_cut 40 = .ok (.iload_n 1, 1) := by decide +kernel
theorem dX7_cut_41 : decode cX7_cut 41 = .ok (.iload_n 2, 1) := by decide +kernel
theorem dX7_cut_42 : decode cX7_cut 42 = .ok (.invokevirtual 251, 3) := by decide +kernel
theorem dX7_cut_45 : decode cX7_cut 45 = .ok (.ifCond .ne 6, 3) := by decide +kernel
theorem dX7_cut_48 : decode cX7_cut 48 = .ok (.bipush (-2), 2) := by decide +kernel
theorem dX7_cut_50 : decode cX7_cut 50 = .ok (.ireturn, 1) := by decide +kernel
theorem dX7_cut_51 : decode cX7_cut 51 = .ok (.aload_n 0, 1) := by decide +kernel
theorem dX7_cut_52 : decode cX7_cut 52 = .ok (.iload_n 2, 1) := by decide +kernel
theorem dX7_cut_53 : decode cX7_cut 53 = .ok (.aload 4, 2) := by decide +kernel
theorem dX7_cut_55 : decode cX7_cut 55 = .ok (.iload_n 3, 1) := by decide +kernel
theorem dX7_cut_56 : decode cX7_cut 56 = .ok (.invokevirtual 205, 3) := by decide +kernel
theorem dX7_cut_59 : decode cX7_cut 59 = .ok (.aload_n 0, 1) := by decide +kernel
theorem dX7_cut_60 : decode cX7_cut 60 = .ok (.getfield 84, 3) := by decide +kernel
theorem dX7_cut_63 : decode cX7_cut 63 = .ok (.iload_n 2, 1) := by decide +kernel
theorem dX7_cut_64 : decode cX7_cut 64 = .ok (.invokevirtual 257, 3) := by decide +kernel
theorem dX7_cut_67 : decode cX7_cut 67 = .ok (.aload_n 0, 1) := by decide +kernel
theorem dX7_cut_68 : decode cX7_cut 68 = .ok (.getfield 84, 3) := by decide +kernel
theorem dX7_cut_71 : decode cX7_cut 71 = .ok (.getfield 248, 3) := by decide +kernel
theorem dX7_cut_74 : decode cX7_cut 74 = .ok (.ireturn, 1) := by decide +kernel
def f_X7_cut (z : Nat → Nat) (M : Mem) (p1 : Int32) (p2 : Int32) (p3 : Int32) : Option (Int32 × Mem) := bd1 (f_X7_lineAt z M p2) (fun r1 => mq r1 (some ((-1), M)) (fun n2 => bd1 (f_X7_areTwoLines z M p1 p2) (fun r3 => if r3 = true then bd1 (f_X7_within z M p3 1 (M n2 0)) (fun r4 => if r4 = true then bd1 (f_X6_turnsOf z M p1 p2) (fun r5 => if r5 = 0 then some ((-2), M) else bd1 (f_X7_sever z n2 M p2 p3) (fun M6 => bd1 (f_X6_dropLine z M6 p2) (fun M7 => some ((M7 67 1), M7)))) else some ((-1), M)) else some ((-1), M))))
theorem c_X7_cut {l : Launch} {G : GG} {a : AA} {M : Mem} {p1 : Int32} {p2 : Int32} {p3 : Int32} {r : Int32} {M' : Mem} (hf : f_X7_cut a.1 M p1 p2 p3 = some (r, M')) : CtI l G a yX7_cut cX7_cut 5 .int (rmD 3) [.ref (a.2 50), .int p1, .int p2, .int p3] M r M' := by
  refine ct_I (by decide) rfl rfl (own := RX7) (Nat.le_of_ble_eq_true rfl) (fun K hl hg S rt => ?_)
  subst hl; subst hg
  unfold f_X7_cut at hf
  show Go K 5 a M 0 [(0, .ref (a.2 50)), (1, .int p1), (2, .int p2), (3, .int p3)] []
  refine g_aload_n 0 S dX7_cut_0 rfl ?_
  refine g_iload_n 2 S dX7_cut_1 rfl ?_
  obtain ⟨r1, hr1, hf⟩ := bd1_some hf
  refine g_cVQ (st := []) S ob_50 rfl ok_X7_lineAt lk_X7_150 (c_X7_lineAt hr1) rfl rfl ⟨by decide, by decide⟩ (rmD_z _) (Nat.le_of_ble_eq_true rfl) dX7_cut_2 ?_
  rcases r1 with _ | n2
  · refine Go.st (st' := [.null]) rfl ?_
    refine g_astoreN (lv' := [(4, .null), (0, .ref (a.2 50)), (1, .int p1), (2, .int p2), (3, .int p3)]) S dX7_cut_5 (by decide) rfl ?_
    refine g_aloadN 0 S dX7_cut_7 rfl ?_
    refine g_ifnullN (tgt := 34) S dX7_cut_9 (by decide) ?_
    refine g_iconst (v := (-1)) S dX7_cut_34 rfl ?_
    exact g_iretM rt hf dX7_cut_35
  · have hn2 := vd_X7_lineAt hr1
    refine Go.st (st' := [.ref (a.2 n2)]) rfl ?_
    refine g_astore (lv' := [(4, .ref (a.2 n2)), (0, .ref (a.2 50)), (1, .int p1), (2, .int p2), (3, .int p3)]) S dX7_cut_5 (by decide) rfl ?_
    refine g_aload 0 S dX7_cut_7 rfl ?_
    refine g_ifnull S dX7_cut_9 ?_
    refine g_aload_n 1 S dX7_cut_12 rfl ?_
    refine g_iload_n 2 S dX7_cut_13 rfl ?_
    refine g_iload_n 3 S dX7_cut_14 rfl ?_
    obtain ⟨r3, hr3, hf⟩ := bd1_some hf
    refine g_cVI (st := []) S ob_50 rfl ok_X7_areTwoLines lk_X7_238 (c_X7_areTwoLines hr3) rfl rfl ⟨by decide, by decide⟩ (rmD_z _) (Nat.le_of_ble_eq_true rfl) dX7_cut_15 ?_
    refine g_if_eqB (tgt := 34) S dX7_cut_18 (by decide) hf (fun c hf => ?_) (fun c hf => ?_)
    · refine g_iload_n 4 S dX7_cut_21 rfl ?_
      refine g_iconst (v := 1) S dX7_cut_22 rfl ?_
      refine g_aload 0 S dX7_cut_23 rfl ?_
      refine g_get (v := .int (M n2 0)) S (ob_L hn2) rfl gi_X3 (by decide) lf_X7_154 rfl dX7_cut_25 ?_
      obtain ⟨r4, hr4, hf⟩ := bd1_some hf
      refine g_cSI (st := []) S ok_X7_within lk_X7_99 (c_X7_within hr4) rfl rfl ⟨by decide, by decide⟩ (rmD_z _) (Nat.le_of_ble_eq_true rfl) dX7_cut_28 ?_
      refine g_if_neB (tgt := 36) S dX7_cut_31 (by decide) hf (fun c hf => ?_) (fun c hf => ?_)
      · refine g_aload_n 1 S dX7_cut_36 rfl ?_
        refine g_get (v := .ref (a.2 67)) S ob_50 rfl gi_X7 (by decide) lf_X7_84 rfl dX7_cut_37 ?_
        refine g_iload_n 2 S dX7_cut_40 rfl ?_
        refine g_iload_n 3 S dX7_cut_41 rfl ?_
        obtain ⟨r5, hr5, hf⟩ := bd1_some hf
        refine g_cVI (st := []) S ob_67 rfl ok_X6_turnsOf lk_X7_251 (c_X6_turnsOf hr5) rfl rfl ⟨by decide, by decide⟩ (rmD_z _) (Nat.le_of_ble_eq_true rfl) dX7_cut_42 ?_
        refine g_if_ne (tgt := 51) S dX7_cut_45 (by decide) hf (fun c hf => ?_) (fun c hf => ?_)
        · refine g_bipush (v := (-2)) S dX7_cut_48 rfl ?_
          exact g_iretM rt hf dX7_cut_50
        · refine g_aload_n 1 S dX7_cut_51 rfl ?_
          refine g_iload_n 3 S dX7_cut_52 rfl ?_
          refine g_aload 0 S dX7_cut_53 rfl ?_
          refine g_iload_n 4 S dX7_cut_55 rfl ?_
          obtain ⟨M6, hM6, hf⟩ := bd1_some hf
          refine g_cVV (st := []) S ob_50 rfl ok_X7_sever lk_X7_205 (c_X7_sever hn2 hM6) rfl rfl ⟨by decide, by decide⟩ (rmD_z _) (Nat.le_of_ble_eq_true rfl) dX7_cut_56 ?_
          refine g_aload_n 1 S dX7_cut_59 rfl ?_
          refine g_get (v := .ref (a.2 67)) S ob_50 rfl gi_X7 (by decide) lf_X7_84 rfl dX7_cut_60 ?_
          refine g_iload_n 3 S dX7_cut_63 rfl ?_
          obtain ⟨M7, hM7, hf⟩ := bd1_some hf
          refine g_cVV (st := []) S ob_67 rfl ok_X6_dropLine lk_X7_257 (c_X6_dropLine hM7) rfl rfl ⟨by decide, by decide⟩ (rmD_z _) (Nat.le_of_ble_eq_true rfl) dX7_cut_64 ?_
          refine g_aload_n 1 S dX7_cut_67 rfl ?_
          refine g_get (v := .ref (a.2 67)) S ob_50 rfl gi_X7 (by decide) lf_X7_84 rfl dX7_cut_68 ?_
          refine g_get (v := .int (M7 67 1)) S ob_67 rfl gi_X6 (by decide) lf_X7_248 rfl dX7_cut_71 ?_
          exact g_iretM rt hf dX7_cut_74
      · refine g_iconst (v := (-1)) S dX7_cut_34 rfl ?_
        exact g_iretM rt hf dX7_cut_35
    · refine g_iconst (v := (-1)) S dX7_cut_34 rfl ?_
      exact g_iretM rt hf dX7_cut_35
-- BridleBook.countFlying()I
theorem dX7_countFlying_0 : decode cX7_countFlying 0 = .ok (.iconst 0, 1) := by decide +kernel
theorem dX7_countFlying_1 : decode cX7_countFlying 1 = .ok (.istore_n 1, 1) := by decide +kernel
theorem dX7_countFlying_2 : decode cX7_countFlying 2 = .ok (.iconst 0, 1) := by decide +kernel
theorem dX7_countFlying_3 : decode cX7_countFlying 3 = .ok (.istore_n 2, 1) := by decide +kernel
theorem dX7_countFlying_4 : decode cX7_countFlying 4 = .ok (.iload_n 2, 1) := by decide +kernel
theorem dX7_countFlying_5 : decode cX7_countFlying 5 = .ok (.aload_n 0, 1) := by decide +kernel
theorem dX7_countFlying_6 : decode cX7_countFlying 6 = .ok (.getfield 52, 3) := by decide +kernel
theorem dX7_countFlying_9 : decode cX7_countFlying 9 = .ok (.if_icmp .ge 29, 3) := by decide +kernel
theorem dX7_countFlying_12 : decode cX7_countFlying 12 = .ok (.aload_n 0, 1) := by decide +kernel
theorem dX7_countFlying_13 : decode cX7_countFlying 13 = .ok (.iload_n 2, 1) := by decide +kernel
theorem dX7_countFlying_14 : decode cX7_countFlying 14 = .ok (.invokevirtual 219, 3) := by decide +kernel
theorem dX7_countFlying_17 : decode cX7_countFlying 17 = .ok (.astore_n 3, 1) := by decide +kernel
theorem dX7_countFlying_18 : decode cX7_countFlying 18 = .ok (.aload_n 3, 1) := by decide +kernel
theorem dX7_countFlying_19 : decode cX7_countFlying 19 = .ok (.ifnull 13, 3) := by decide +kernel
theorem dX7_countFlying_22 : decode cX7_countFlying 22 = .ok (.aload_n 3, 1) := by decide +kernel
theorem dX7_countFlying_23 : decode cX7_countFlying 23 = .ok (.getfield 227, 3) := by decide +kernel
theorem dX7_countFlying_26 : decode cX7_countFlying 26 = .ok (.ifCond .eq 6, 3) := by decide +kernel
theorem dX7_countFlying_29 : decode cX7_countFlying 29 = .ok (.iinc 1 1, 3) := by decide +kernel
theorem dX7_countFlying_32 : decode cX7_countFlying 32 = .ok (.iinc 2 1, 3) := by decide +kernel
theorem dX7_countFlying_35 : decode cX7_countFlying 35 = .ok (.goto (-31), 3) := by decide +kernel
theorem dX7_countFlying_38 : decode cX7_countFlying 38 = .ok (.iload_n 1, 1) := by decide +kernel
theorem dX7_countFlying_39 : decode cX7_countFlying 39 = .ok (.ireturn, 1) := by decide +kernel
def f_X7_countFlying_4 (z : Nat → Nat) (M : Mem) : Nat → Int32 → Int32 → Option Int32
  | 0, _, _ => none
  | fu + 1, x1, x2 => if (M 50 8) ≤ x2 then some x1 else bd1 (f_X7_flyerAt z M x2) (fun r1 => mq r1 (f_X7_countFlying_4 z M fu x1 (x2 + 1)) (fun n2 => if (M n2 3) = 0 then f_X7_countFlying_4 z M fu x1 (x2 + 1) else f_X7_countFlying_4 z M fu (x1 + 1) (x2 + 1)))
theorem t_X7_countFlying_4 {K : KK} {a : AA} (S : Sx K RX7 cX7_countFlying 4 (rmD 2)) {r : Int32} {M : Mem} (rt : RtI K a cX7_countFlying r M) : ∀ (fu : Nat) (x1 : Int32) (x2 : Int32), f_X7_countFlying_4 a.1 M fu x1 x2 = some r → Go K 4 a M 4 [(0, .ref (a.2 50)), (1, .int x1), (2, .int x2)] [] := by
  intro fu
  induction fu with
  | zero => intro x1 x2 hf; exact absurd hf (by simp [f_X7_countFlying_4])
  | succ fu ih =>
    intro x1 x2 hf
    rw [f_X7_countFlying_4] at hf
    refine g_iload_n 2 S dX7_countFlying_4 rfl ?_
    refine g_aload_n 0 S dX7_countFlying_5 rfl ?_
    refine g_get (v := .int (M 50 8)) S ob_50 rfl gi_X7 (by decide) lf_X7_52 rfl dX7_countFlying_6 ?_
    refine g_icmp_ge (tgt := 38) S dX7_countFlying_9 (by decide) hf (fun c hf => ?_) (fun c hf => ?_)
    · refine g_iload_n 1 S dX7_countFlying_38 rfl ?_
      exact g_iretP rt hf dX7_countFlying_39
    · refine g_aload_n 0 S dX7_countFlying_12 rfl ?_
      refine g_iload_n 2 S dX7_countFlying_13 rfl ?_
      obtain ⟨r1, hr1, hf⟩ := bd1_some hf
      refine g_cVQ (st := []) S ob_50 rfl ok_X7_flyerAt lk_X7_219 (c_X7_flyerAt hr1) rfl rfl ⟨by decide, by decide⟩ (rmD_z _) (Nat.le_of_ble_eq_true rfl) dX7_countFlying_14 ?_
      rcases r1 with _ | n2
      · refine Go.st (st' := [.null]) rfl ?_
        refine g_astore_nN (lv' := [(3, .null), (0, .ref (a.2 50)), (1, .int x1), (2, .int x2)]) S dX7_countFlying_17 (by decide) rfl ?_
        refine g_aload_nN 0 S dX7_countFlying_18 rfl ?_
        refine g_ifnullN (tgt := 32) S dX7_countFlying_19 (by decide) ?_
        refine g_iinc (v := (x2 + 1)) (lv' := [(2, .int (x2 + 1)), (3, .null), (0, .ref (a.2 50)), (1, .int x1)]) 3 S dX7_countFlying_32 rfl rfl (by decide) rfl ?_
        refine g_goto (tgt := 4) S dX7_countFlying_35 (by decide) ?_
        refine Go.sub [2, 3, 0] rfl ?_
        exact ih _ _ hf
      · have hn2 := vd_X7_flyerAt hr1
        refine Go.st (st' := [.ref (a.2 n2)]) rfl ?_
        refine g_astore_n (lv' := [(3, .ref (a.2 n2)), (0, .ref (a.2 50)), (1, .int x1), (2, .int x2)]) S dX7_countFlying_17 (by decide) rfl ?_
        refine g_aload_n 0 S dX7_countFlying_18 rfl ?_
        refine g_ifnull S dX7_countFlying_19 ?_
        refine g_aload_n 0 S dX7_countFlying_22 rfl ?_
        refine g_get (v := .int (M n2 3)) S (ob_F hn2) rfl gi_X1 (by decide) lf_X7_227 rfl dX7_countFlying_23 ?_
        refine g_if_eq (tgt := 32) S dX7_countFlying_26 (by decide) hf (fun c hf => ?_) (fun c hf => ?_)
        · refine g_iinc (v := (x2 + 1)) (lv' := [(2, .int (x2 + 1)), (3, .ref (a.2 n2)), (0, .ref (a.2 50)), (1, .int x1)]) 3 S dX7_countFlying_32 rfl rfl (by decide) rfl ?_
          refine g_goto (tgt := 4) S dX7_countFlying_35 (by decide) ?_
          refine Go.sub [2, 3, 0] rfl ?_
          exact ih _ _ hf
        · refine g_iinc (v := (x1 + 1)) (lv' := [(1, .int (x1 + 1)), (3, .ref (a.2 n2)), (0, .ref (a.2 50)), (2, .int x2)]) 2 S dX7_countFlying_29 rfl rfl (by decide) rfl ?_
          refine g_iinc (v := (x2 + 1)) (lv' := [(2, .int (x2 + 1)), (1, .int (x1 + 1)), (3, .ref (a.2 n2)), (0, .ref (a.2 50))]) 3 S dX7_countFlying_32 rfl rfl (by decide) rfl ?_
          refine g_goto (tgt := 4) S dX7_countFlying_35 (by decide) ?_
          refine Go.sub [3, 1, 0] rfl ?_
          exact ih _ _ hf
def f_X7_countFlying (z : Nat → Nat) (M : Mem) : Option Int32 := f_X7_countFlying_4 z M 1000 0 0
theorem c_X7_countFlying {l : Launch} {G : GG} {a : AA} {M : Mem} {r : Int32} (hf : f_X7_countFlying a.1 M = some r) : CtI l G a yX7_countFlying cX7_countFlying 4 .int (rmD 2) [.ref (a.2 50)] M r M := by
  refine ct_I (by decide) rfl rfl (own := RX7) (Nat.le_of_ble_eq_true rfl) (fun K hl hg S rt => ?_)
  subst hl; subst hg
  unfold f_X7_countFlying at hf
  show Go K 4 a M 0 [(0, .ref (a.2 50))] []
  refine g_iconst (v := 0) S dX7_countFlying_0 rfl ?_
  refine g_istore_n (lv' := [(1, .int 0), (0, .ref (a.2 50))]) S dX7_countFlying_1 (by decide) rfl ?_
  refine g_iconst (v := 0) S dX7_countFlying_2 rfl ?_
  refine g_istore_n (lv' := [(2, .int 0), (1, .int 0), (0, .ref (a.2 50))]) S dX7_countFlying_3 (by decide) rfl ?_
  refine Go.sub [2, 1, 0] rfl ?_
  exact t_X7_countFlying_4  S rt 1000 _ _ hf
