-- BridleBookModel.why(I)I
theorem dX8_why_0 : decode cX8_why 0 = .ok (.aload_n 0, 1) := by decide +kernel
theorem dX8_why_1 : decode cX8_why 1 = .ok (.iload_n 1, 1) := by decide +kernel
theorem dX8_why_2 : decode cX8_why 2 = .ok (.invokevirtual 212, 3) := by decide +kernel
theorem dX8_why_5 : decode cX8_why 5 = .ok (.ifCond .eq 11, 3) := by decide +kernel
theorem dX8_why_8 : decode cX8_why 8 = .ok (.aload_n 0, 1) := by decide +kernel
theorem dX8_why_9 : decode cX8_why 9 = .ok (.iload_n 1, 1) := by decide +kernel
theorem dX8_why_10 : decode cX8_why 10 = .ok (.invokevirtual 224, 3) := by decide +kernel
theorem dX8_why_13 : decode cX8_why 13 = .ok (.goto 4, 3) := by decide +kernel
theorem dX8_why_16 : decode cX8_why 16 = .ok (.iconst (-1), 1) := by decide +kernel
theorem dX8_why_17 : decode cX8_why 17 = .ok (.ireturn, 1) := by decide +kernel
def f_X8_why (z : Nat → Nat) (M : Mem) (p1 : Int32) : Option Int32 := bd1 (f_X8_isFlyer z M p1) (fun r1 => if r1 = true then bd1 (f_X8_whyNot z M p1) (fun r2 => some r2) else some (-1))
theorem c_X8_why {l : Launch} {G : GG} {a : AA} {M : Mem} {p1 : Int32} {r : Int32} (hf : f_X8_why a.1 M p1 = some r) : CtI l G a yX8_why cX8_why 2 .int (rmD 3) [.ref (a.2 0), .int p1] M r M := by
  refine ct_I (by decide) rfl rfl (own := RX8) (Nat.le_of_ble_eq_true rfl) (fun K hl hg S rt => ?_)
  subst hl; subst hg
  unfold f_X8_why at hf
  show Go K 2 a M 0 [(0, .ref (a.2 0)), (1, .int p1)] []
  refine g_aload_n 0 S dX8_why_0 rfl ?_
  refine g_iload_n 1 S dX8_why_1 rfl ?_
  obtain ⟨r1, hr1, hf⟩ := bd1_some hf
  refine g_cVI (st := []) S ob_0 rfl ok_X8_isFlyer lk_X8_212 (c_X8_isFlyer hr1) rfl rfl ⟨by decide, by decide⟩ (rmD_z _) (Nat.le_of_ble_eq_true rfl) dX8_why_2 ?_
  refine g_if_eqB (tgt := 16) S dX8_why_5 (by decide) hf (fun c hf => ?_) (fun c hf => ?_)
  · refine g_aload_n 0 S dX8_why_8 rfl ?_
    refine g_iload_n 1 S dX8_why_9 rfl ?_
    obtain ⟨r2, hr2, hf⟩ := bd1_some hf
    refine g_cVI (st := []) S ob_0 rfl ok_X8_whyNot lk_X8_224 (c_X8_whyNot hr2) rfl rfl ⟨by decide, by decide⟩ (rmD_z _) (Nat.le_of_ble_eq_true rfl) dX8_why_10 ?_
    refine g_goto (tgt := 17) S dX8_why_13 (by decide) ?_
    exact g_iretP rt hf dX8_why_17
  · refine g_iconst (v := (-1)) S dX8_why_16 rfl ?_
    exact g_iretP rt hf dX8_why_17
-- BridleBookModel.cone(II)I
theorem dX8_cone_0 : decode cX8_cone 0 = .ok (.aload_n 0, 1) := by decide +kernel
theorem dX8_cone_1 : decode cX8_cone 1 = .ok (.iload_n 1, 1) := by decide +kernel
theorem dX8_cone_2 : decode cX8_cone 2 = .ok (.invokevirtual 212, 3) := by decide +kernel
theorem dX8_cone_5 : decode cX8_cone 5 = .ok (.ifCond .eq 10, 3) := by decide +kernel
theorem dX8_cone_8 : decode cX8_cone 8 = .ok (.iload_n 2, 1) := by decide +kernel
theorem dX8_cone_9 : decode cX8_cone 9 = .ok (.invokestatic 203, 3) := by decide +kernel
theorem dX8_cone_12 : decode cX8_cone 12 = .ok (.ifCond .ne 7, 3) := by decide +kernel
theorem dX8_cone_15 : decode cX8_cone 15 = .ok (.iconst (-1), 1) := by decide +kernel
theorem dX8_cone_16 : decode cX8_cone 16 = .ok (.goto 17, 3) := by decide +kernel
theorem dX8_cone_19 : decode cX8_cone 19 = .ok (.aload_n 0, 1) := by decide +kernel
theorem dX8_cone_20 : decode cX8_cone 20 = .ok (.iload_n 1, 1) := by decide +kernel
theorem dX8_cone_21 : decode cX8_cone 21 = .ok (.iload_n 2, 1) := by decide +kernel
theorem dX8_cone_22 : decode cX8_cone 22 = .ok (.invokevirtual 218, 3) := by decide +kernel
theorem dX8_cone_25 : decode cX8_cone 25 = .ok (.ifCond .eq 7, 3) := by decide +kernel
theorem dX8_cone_28 : decode cX8_cone 28 = .ok (.iconst 1, 1) := by decide +kernel
theorem dX8_cone_29 : decode cX8_cone 29 = .ok (.goto 4, 3) := by decide +kernel
theorem dX8_cone_32 : decode cX8_cone 32 = .ok (.iconst 0, 1) := by decide +kernel
theorem dX8_cone_33 : decode cX8_cone 33 = .ok (.ireturn, 1) := by decide +kernel
def f_X8_cone (z : Nat → Nat) (M : Mem) (p1 : Int32) (p2 : Int32) : Option Int32 := bd1 (f_X8_isFlyer z M p1) (fun r1 => if r1 = true then bd1 (f_X8_isPlace z M p2) (fun r2 => if r2 = true then bd1 (f_X8_isInCone z M p1 p2) (fun r3 => if r3 = true then some 1 else some 0) else some (-1)) else some (-1))
theorem c_X8_cone {l : Launch} {G : GG} {a : AA} {M : Mem} {p1 : Int32} {p2 : Int32} {r : Int32} (hf : f_X8_cone a.1 M p1 p2 = some r) : CtI l G a yX8_cone cX8_cone 3 .int (rmD 2) [.ref (a.2 0), .int p1, .int p2] M r M := by
  refine ct_I (by decide) rfl rfl (own := RX8) (Nat.le_of_ble_eq_true rfl) (fun K hl hg S rt => ?_)
  subst hl; subst hg
  unfold f_X8_cone at hf
  show Go K 3 a M 0 [(0, .ref (a.2 0)), (1, .int p1), (2, .int p2)] []
  refine g_aload_n 0 S dX8_cone_0 rfl ?_
  refine g_iload_n 1 S dX8_cone_1 rfl ?_
  obtain ⟨r1, hr1, hf⟩ := bd1_some hf
  refine g_cVI (st := []) S ob_0 rfl ok_X8_isFlyer lk_X8_212 (c_X8_isFlyer hr1) rfl rfl ⟨by decide, by decide⟩ (rmD_z _) (Nat.le_of_ble_eq_true rfl) dX8_cone_2 ?_
  refine g_if_eqB (tgt := 15) S dX8_cone_5 (by decide) hf (fun c hf => ?_) (fun c hf => ?_)
  · refine g_iload_n 2 S dX8_cone_8 rfl ?_
    obtain ⟨r2, hr2, hf⟩ := bd1_some hf
    refine g_cSI (st := []) S ok_X8_isPlace lk_X8_203 (c_X8_isPlace hr2) rfl rfl ⟨by decide, by decide⟩ (rmD_z _) (Nat.le_of_ble_eq_true rfl) dX8_cone_9 ?_
    refine g_if_neB (tgt := 19) S dX8_cone_12 (by decide) hf (fun c hf => ?_) (fun c hf => ?_)
    · refine g_aload_n 0 S dX8_cone_19 rfl ?_
      refine g_iload_n 1 S dX8_cone_20 rfl ?_
      refine g_iload_n 2 S dX8_cone_21 rfl ?_
      obtain ⟨r3, hr3, hf⟩ := bd1_some hf
      refine g_cVI (st := []) S ob_0 rfl ok_X8_isInCone lk_X8_218 (c_X8_isInCone hr3) rfl rfl ⟨by decide, by decide⟩ (rmD_z _) (Nat.le_of_ble_eq_true rfl) dX8_cone_22 ?_
      refine g_if_eqB (tgt := 32) S dX8_cone_25 (by decide) hf (fun c hf => ?_) (fun c hf => ?_)
      · refine g_iconst (v := 1) S dX8_cone_28 rfl ?_
        refine g_goto (tgt := 33) S dX8_cone_29 (by decide) ?_
        exact g_iretP rt hf dX8_cone_33
      · refine g_iconst (v := 0) S dX8_cone_32 rfl ?_
        exact g_iretP rt hf dX8_cone_33
    · refine g_iconst (v := (-1)) S dX8_cone_15 rfl ?_
      refine g_goto (tgt := 33) S dX8_cone_16 (by decide) ?_
      exact g_iretP rt hf dX8_cone_33
  · refine g_iconst (v := (-1)) S dX8_cone_15 rfl ?_
    refine g_goto (tgt := 33) S dX8_cone_16 (by decide) ?_
    exact g_iretP rt hf dX8_cone_33
-- BridleBookModel.wind0(III)V
theorem dX8_wind0_0 : decode cX8_wind0 0 = .ok (.aload_n 0, 1) := by decide +kernel
theorem dX8_wind0_1 : decode cX8_wind0 1 = .ok (.getfield 227, 3) := by decide +kernel
theorem dX8_wind0_4 : decode cX8_wind0 4 = .ok (.iconst 1, 1) := by decide +kernel
theorem dX8_wind0_5 : decode cX8_wind0 5 = .ok (.isub, 1) := by decide +kernel
theorem dX8_wind0_6 : decode cX8_wind0 6 = .ok (.istore 4, 2) := by decide +kernel
theorem dX8_wind0_8 : decode cX8_wind0 8 = .ok (.iload 4, 2) := by decide +kernel
theorem dX8_wind0_10 : decode cX8_wind0 10 = .ok (.ifCond .lt 48, 3) := by decide +kernel
theorem dX8_wind0_13 : decode cX8_wind0 13 = .ok (.aload_n 0, 1) := by decide +kernel
theorem dX8_wind0_14 : decode cX8_wind0 14 = .ok (.getfield 99, 3) := by decide +kernel
theorem dX8_wind0_17 : decode cX8_wind0 17 = .ok (.iload 4, 2) := by decide +kernel
theorem dX8_wind0_19 : decode cX8_wind0 19 = .ok (.iaload, 1) := by decide +kernel
theorem dX8_wind0_20 : decode cX8_wind0 20 = .ok (.iload_n 1, 1) := by decide +kernel
theorem dX8_wind0_21 : decode cX8_wind0 21 = .ok (.if_icmp .ne 37, 3) := by decide +kernel
theorem dX8_wind0_24 : decode cX8_wind0 24 = .ok (.aload_n 0, 1) := by decide +kernel
theorem dX8_wind0_25 : decode cX8_wind0 25 = .ok (.getfield 102, 3) := by decide +kernel
theorem dX8_wind0_28 : decode cX8_wind0 28 = .ok (.iload 4, 2) := by decide +kernel
theorem dX8_wind0_30 : decode cX8_wind0 30 = .ok (.iaload, 1) := by decide +kernel
theorem dX8_wind0_31 : decode cX8_wind0 31 = .ok (.iload_n 2, 1) := by decide +kernel
theorem dX8_wind0_32 : decode cX8_wind0 32 = .ok (.if_icmp .ne 26, 3) := by decide +kernel
theorem dX8_wind0_35 : decode cX8_wind0 35 = .ok (.aload_n 0, 1) := by decide +kernel
theorem dX8_wind0_36 : decode cX8_wind0 36 = .ok (.getfield 105, 3) := by decide +kernel
theorem dX8_wind0_39 : decode cX8_wind0 39 = .ok (.iload 4, 2) := by decide +kernel
theorem dX8_wind0_41 : decode cX8_wind0 41 = .ok (.iaload, 1) := by decide +kernel
theorem dX8_wind0_42 : decode cX8_wind0 42 = .ok (.iload_n 3, 1) := by decide +kernel
theorem dX8_wind0_43 : decode cX8_wind0 43 = .ok (.ineg, 1) := by decide +kernel
theorem dX8_wind0_44 : decode cX8_wind0 44 = .ok (.if_icmp .ne 14, 3) := by decide +kernel
theorem dX8_wind0_47 : decode cX8_wind0 47 = .ok (.aload_n 0, 1) := by decide +kernel
theorem dX8_wind0_48 : decode cX8_wind0 48 = .ok (.dup, 1) := by decide +kernel
theorem dX8_wind0_49 : decode cX8_wind0 49 = .ok (.getfield 227, 3) := by decide +kernel
theorem dX8_wind0_52 : decode cX8_wind0 52 = .ok (.iconst 1, 1) := by decide +kernel
theorem dX8_wind0_53 : decode cX8_wind0 53 = .ok (.isub, 1) := by decide +kernel
theorem dX8_wind0_54 : decode cX8_wind0 54 = .ok (.putfield 227, 3) := by decide +kernel
theorem dX8_wind0_57 : decode cX8_wind0 57 = .ok (.return_, 1) := by decide +kernel
theorem dX8_wind0_58 : decode cX8_wind0 58 = .ok (.aload_n 0, 1) := by decide +kernel
theorem dX8_wind0_59 : decode cX8_wind0 59 = .ok (.getfield 99, 3) := by decide +kernel
theorem dX8_wind0_62 : decode cX8_wind0 62 = .ok (.aload_n 0, 1) := by decide +kernel
theorem dX8_wind0_63 : decode cX8_wind0 63 = .ok (.getfield 227, 3) := by decide +kernel
theorem dX8_wind0_66 : decode cX8_wind0 66 = .ok (.iload_n 1, 1) := by decide +kernel
theorem dX8_wind0_67 : decode cX8_wind0 67 = .ok (.iastore, 1) := by decide +kernel
theorem dX8_wind0_68 : decode cX8_wind0 68 = .ok (.aload_n 0, 1) := by decide +kernel
theorem dX8_wind0_69 : decode cX8_wind0 69 = .ok (.getfield 102, 3) := by decide +kernel
theorem dX8_wind0_72 : decode cX8_wind0 72 = .ok (.aload_n 0, 1) := by decide +kernel
theorem dX8_wind0_73 : decode cX8_wind0 73 = .ok (.getfield 227, 3) := by decide +kernel
theorem dX8_wind0_76 : decode cX8_wind0 76 = .ok (.iload_n 2, 1) := by decide +kernel
theorem dX8_wind0_77 : decode cX8_wind0 77 = .ok (.iastore, 1) := by decide +kernel
theorem dX8_wind0_78 : decode cX8_wind0 78 = .ok (.aload_n 0, 1) := by decide +kernel
theorem dX8_wind0_79 : decode cX8_wind0 79 = .ok (.getfield 105, 3) := by decide +kernel
theorem dX8_wind0_82 : decode cX8_wind0 82 = .ok (.aload_n 0, 1) := by decide +kernel
theorem dX8_wind0_83 : decode cX8_wind0 83 = .ok (.getfield 227, 3) := by decide +kernel
theorem dX8_wind0_86 : decode cX8_wind0 86 = .ok (.iload_n 3, 1) := by decide +kernel
theorem dX8_wind0_87 : decode cX8_wind0 87 = .ok (.iastore, 1) := by decide +kernel
theorem dX8_wind0_88 : decode cX8_wind0 88 = .ok (.aload_n 0, 1) := by decide +kernel
theorem dX8_wind0_89 : decode cX8_wind0 89 = .ok (.dup, 1) := by decide +kernel
theorem dX8_wind0_90 : decode cX8_wind0 90 = .ok (.getfield 227, 3) := by decide +kernel
theorem dX8_wind0_93 : decode cX8_wind0 93 = .ok (.iconst 1, 1) := by decide +kernel
theorem dX8_wind0_94 : decode cX8_wind0 94 = .ok (.iadd, 1) := by decide +kernel
theorem dX8_wind0_95 : decode cX8_wind0 95 = .ok (.putfield 227, 3) := by decide +kernel
theorem dX8_wind0_98 : decode cX8_wind0 98 = .ok (.return_, 1) := by decide +kernel
def f_X8_wind0_58 (z : Nat → Nat) (M : Mem) (x1 : Int32) (x2 : Int32) (x3 : Int32) : Option Mem := ck (inb (M 0 34) 200) (ck (inb ((mu M 35 (Int32.toNatClampNeg (M 0 34)) x1) 0 34) 200) (lt (mu (mu M 35 (Int32.toNatClampNeg (M 0 34)) x1) 36 (Int32.toNatClampNeg ((mu M 35 (Int32.toNatClampNeg (M 0 34)) x1) 0 34)) x2) (fun M1 => ck (inb (M1 0 34) 200) (lt (mu (mu M1 37 (Int32.toNatClampNeg (M1 0 34)) x3) 0 34 (((mu M1 37 (Int32.toNatClampNeg (M1 0 34)) x3) 0 34) + 1)) (fun M2 => some M2)))))
theorem t_X8_wind0_58 {K : KK} {a : AA} (S : Sx K RX8 cX8_wind0 5 (rmD 0))  {M' : Mem} (rt : RtV K a cX8_wind0 M') (M : Mem) (x1 : Int32) (x2 : Int32) (x3 : Int32) (hf : f_X8_wind0_58 a.1 M x1 x2 x3 = some M') : Go K 5 a M 58 [(0, .ref (a.2 0)), (1, .int x1), (2, .int x2), (3, .int x3)] [] := by
  unfold f_X8_wind0_58 at hf
  refine g_aload_n 0 S dX8_wind0_58 rfl ?_
  refine g_get (v := .ref (a.2 35)) S ob_0 rfl gi_X8 (by decide) lf_X8_99 rfl dX8_wind0_59 ?_
  refine g_aload_n 0 S dX8_wind0_62 rfl ?_
  refine g_get (v := .int (M 0 34)) S ob_0 rfl gi_X8 (by decide) lf_X8_227 rfl dX8_wind0_63 ?_
  refine g_iload_n 1 S dX8_wind0_66 rfl ?_
  refine g_iast S ia_35 dX8_wind0_67 hf (fun hf => ?_)
  refine g_aload_n 0 S dX8_wind0_68 rfl ?_
  refine g_get (v := .ref (a.2 36)) S ob_0 rfl gi_X8 (by decide) lf_X8_102 rfl dX8_wind0_69 ?_
  refine g_aload_n 0 S dX8_wind0_72 rfl ?_
  refine g_get (v := .int ((mu M 35 (Int32.toNatClampNeg (M 0 34)) x1) 0 34)) S ob_0 rfl gi_X8 (by decide) lf_X8_227 rfl dX8_wind0_73 ?_
  refine g_iload_n 2 S dX8_wind0_76 rfl ?_
  refine g_iast S ia_36 dX8_wind0_77 hf (fun hf => ?_)
  obtain ⟨M1, eM1, hf⟩ := lt_some hf
  refine Go.M eM1 ?_
  refine g_aload_n 0 S dX8_wind0_78 rfl ?_
  refine g_get (v := .ref (a.2 37)) S ob_0 rfl gi_X8 (by decide) lf_X8_105 rfl dX8_wind0_79 ?_
  refine g_aload_n 0 S dX8_wind0_82 rfl ?_
  refine g_get (v := .int (M1 0 34)) S ob_0 rfl gi_X8 (by decide) lf_X8_227 rfl dX8_wind0_83 ?_
  refine g_iload_n 3 S dX8_wind0_86 rfl ?_
  refine g_iast S ia_37 dX8_wind0_87 hf (fun hf => ?_)
  refine g_aload_n 0 S dX8_wind0_88 rfl ?_
  refine g_dup S dX8_wind0_89 rfl ?_
  refine g_get (v := .int ((mu M1 37 (Int32.toNatClampNeg (M1 0 34)) x3) 0 34)) S ob_0 rfl gi_X8 (by decide) lf_X8_227 rfl dX8_wind0_90 ?_
  refine g_iconst (v := 1) S dX8_wind0_93 rfl ?_
  refine g_iadd S dX8_wind0_94 ?_
  refine g_put (ty := .int) S ob_0 rfl gi_X8 tyX8_ok nmX8 (by decide) lf_X8_227 rfl (by decide +kernel) rfl rfl (Nat.le_of_ble_eq_true rfl) rfl dX8_wind0_95 ?_
  obtain ⟨M2, eM2, hf⟩ := lt_some hf
  refine Go.M eM2 ?_
  exact g_vretM rt hf dX8_wind0_98
def f_X8_wind0 (z : Nat → Nat) (M : Mem) (p1 : Int32) (p2 : Int32) (p3 : Int32) : Option Mem := if ((M 0 34) - 1) < 0 then f_X8_wind0_58 z M p1 p2 p3 else ck (inb ((M 0 34) - 1) 200) (if (M 35 (Int32.toNatClampNeg ((M 0 34) - 1))) = p1 then ck (inb ((M 0 34) - 1) 200) (if (M 36 (Int32.toNatClampNeg ((M 0 34) - 1))) = p2 then ck (inb ((M 0 34) - 1) 200) (if (M 37 (Int32.toNatClampNeg ((M 0 34) - 1))) = (-p3) then some (mu M 0 34 ((M 0 34) - 1)) else f_X8_wind0_58 z M p1 p2 p3) else f_X8_wind0_58 z M p1 p2 p3) else f_X8_wind0_58 z M p1 p2 p3)
theorem c_X8_wind0 {l : Launch} {G : GG} {a : AA} {M : Mem} {p1 : Int32} {p2 : Int32} {p3 : Int32}  {M' : Mem} (hf : f_X8_wind0 a.1 M p1 p2 p3 = some M') : CtV l G a yX8_wind0 cX8_wind0 5 (rmD 0) [.ref (a.2 0), .int p1, .int p2, .int p3] M M' := by
  refine ct_V (by decide) rfl (own := RX8) (Nat.le_of_ble_eq_true rfl) (fun K hl hg S rt => ?_)
  subst hl; subst hg
  unfold f_X8_wind0 at hf
  show Go K 5 a M 0 [(0, .ref (a.2 0)), (1, .int p1), (2, .int p2), (3, .int p3)] []
  refine g_aload_n 0 S dX8_wind0_0 rfl ?_
  refine g_get (v := .int (M 0 34)) S ob_0 rfl gi_X8 (by decide) lf_X8_227 rfl dX8_wind0_1 ?_
  refine g_iconst (v := 1) S dX8_wind0_4 rfl ?_
  refine g_isub S dX8_wind0_5 ?_
  refine g_istore (lv' := [(4, .int ((M 0 34) - 1)), (0, .ref (a.2 0)), (1, .int p1), (2, .int p2), (3, .int p3)]) S dX8_wind0_6 (by decide) rfl ?_
  refine g_iload 0 S dX8_wind0_8 rfl ?_
  refine g_if_lt (tgt := 58) S dX8_wind0_10 (by decide) hf (fun c hf => ?_) (fun c hf => ?_)
  · refine Go.sub [1, 2, 3, 4] rfl ?_
    exact t_X8_wind0_58  S rt _ _ _ _ hf
  · refine g_aload_n 1 S dX8_wind0_13 rfl ?_
    refine g_get (v := .ref (a.2 35)) S ob_0 rfl gi_X8 (by decide) lf_X8_99 rfl dX8_wind0_14 ?_
    refine g_iload 0 S dX8_wind0_17 rfl ?_
    refine g_iald S ia_35 dX8_wind0_19 hf (fun hf => ?_)
    refine g_iload_n 2 S dX8_wind0_20 rfl ?_
    refine g_icmp_ne (tgt := 58) S dX8_wind0_21 (by decide) hf (fun c hf => ?_) (fun c hf => ?_)
    · refine g_aload_n 1 S dX8_wind0_24 rfl ?_
      refine g_get (v := .ref (a.2 36)) S ob_0 rfl gi_X8 (by decide) lf_X8_102 rfl dX8_wind0_25 ?_
      refine g_iload 0 S dX8_wind0_28 rfl ?_
      refine g_iald S ia_36 dX8_wind0_30 hf (fun hf => ?_)
      refine g_iload_n 3 S dX8_wind0_31 rfl ?_
      refine g_icmp_ne (tgt := 58) S dX8_wind0_32 (by decide) hf (fun c hf => ?_) (fun c hf => ?_)
      · refine g_aload_n 1 S dX8_wind0_35 rfl ?_
        refine g_get (v := .ref (a.2 37)) S ob_0 rfl gi_X8 (by decide) lf_X8_105 rfl dX8_wind0_36 ?_
        refine g_iload 0 S dX8_wind0_39 rfl ?_
        refine g_iald S ia_37 dX8_wind0_41 hf (fun hf => ?_)
        refine g_iload_n 4 S dX8_wind0_42 rfl ?_
        refine g_ineg S dX8_wind0_43 ?_
        refine g_icmp_ne (tgt := 58) S dX8_wind0_44 (by decide) hf (fun c hf => ?_) (fun c hf => ?_)
        · refine g_aload_n 1 S dX8_wind0_47 rfl ?_
          refine g_dup S dX8_wind0_48 rfl ?_
          refine g_get (v := .int (M 0 34)) S ob_0 rfl gi_X8 (by decide) lf_X8_227 rfl dX8_wind0_49 ?_
          refine g_iconst (v := 1) S dX8_wind0_52 rfl ?_
          refine g_isub S dX8_wind0_53 ?_
          refine g_put (ty := .int) S ob_0 rfl gi_X8 tyX8_ok nmX8 (by decide) lf_X8_227 rfl (by decide +kernel) rfl rfl (Nat.le_of_ble_eq_true rfl) rfl dX8_wind0_54 ?_
          exact g_vretM rt hf dX8_wind0_57
        · refine Go.sub [1, 2, 3, 4] rfl ?_
          exact t_X8_wind0_58  S rt _ _ _ _ hf
      · refine Go.sub [1, 2, 3, 4] rfl ?_
        exact t_X8_wind0_58  S rt _ _ _ _ hf
    · refine Go.sub [1, 2, 3, 4] rfl ?_
      exact t_X8_wind0_58  S rt _ _ _ _ hf
-- BridleBookModel.lesser(II)I
theorem dX8_lesser_0 : decode cX8_lesser 0 = .ok (.iload_n 0, 1) := by decide +kernel
theorem dX8_lesser_1 : decode cX8_lesser 1 = .ok (.iload_n 1, 1) := by decide +kernel
theorem dX8_lesser_2 : decode cX8_lesser 2 = .ok (.if_icmp .ge 7, 3) := by decide +kernel
theorem dX8_lesser_5 : decode cX8_lesser 5 = .ok (.iload_n 0, 1) := by decide +kernel
theorem dX8_lesser_6 : decode cX8_lesser 6 = .ok (.goto 4, 3) := by decide +kernel
theorem dX8_lesser_9 : decode cX8_lesser 9 = .ok (.iload_n 1, 1) := by decide +kernel
theorem dX8_lesser_10 : decode cX8_lesser 10 = .ok (.ireturn, 1) := by decide +kernel
def f_X8_lesser (z : Nat → Nat) (M : Mem) (p1 : Int32) (p2 : Int32) : Option Int32 := if p2 ≤ p1 then some p2 else some p1
theorem c_X8_lesser {l : Launch} {G : GG} {a : AA} {M : Mem} {p1 : Int32} {p2 : Int32} {r : Int32} (hf : f_X8_lesser a.1 M p1 p2 = some r) : CtI l G a yX8_lesser cX8_lesser 2 .int (rmD 0) [.int p1, .int p2] M r M := by
  refine ct_I (by decide) rfl rfl (own := RX8) (Nat.le_of_ble_eq_true rfl) (fun K hl hg S rt => ?_)
  subst hl; subst hg
  unfold f_X8_lesser at hf
  show Go K 2 a M 0 [(0, .int p1), (1, .int p2)] []
  refine g_iload_n 0 S dX8_lesser_0 rfl ?_
  refine g_iload_n 1 S dX8_lesser_1 rfl ?_
  refine g_icmp_ge (tgt := 9) S dX8_lesser_2 (by decide) hf (fun c hf => ?_) (fun c hf => ?_)
  · refine g_iload_n 1 S dX8_lesser_9 rfl ?_
    exact g_iretP rt hf dX8_lesser_10
  · refine g_iload_n 0 S dX8_lesser_5 rfl ?_
    refine g_goto (tgt := 10) S dX8_lesser_6 (by decide) ?_
    exact g_iretP rt hf dX8_lesser_10
-- BridleBookModel.greater(II)I
theorem dX8_greater_0 : decode cX8_greater 0 = .ok (.iload_n 0, 1) := by decide +kernel
theorem dX8_greater_1 : decode cX8_greater 1 = .ok (.iload_n 1, 1) := by decide +kernel
theorem dX8_greater_2 : decode cX8_greater 2 = .ok (.if_icmp .ge 7, 3) := by decide +kernel
theorem dX8_greater_5 : decode cX8_greater 5 = .ok (.iload_n 1, 1) := by decide +kernel
theorem dX8_greater_6 : decode cX8_greater 6 = .ok (.goto 4, 3) := by decide +kernel
theorem dX8_greater_9 : decode cX8_greater 9 = .ok (.iload_n 0, 1) := by decide +kernel
theorem dX8_greater_10 : decode cX8_greater 10 = .ok (.ireturn, 1) := by decide +kernel
def f_X8_greater (z : Nat → Nat) (M : Mem) (p1 : Int32) (p2 : Int32) : Option Int32 := if p2 ≤ p1 then some p1 else some p2
theorem c_X8_greater {l : Launch} {G : GG} {a : AA} {M : Mem} {p1 : Int32} {p2 : Int32} {r : Int32} (hf : f_X8_greater a.1 M p1 p2 = some r) : CtI l G a yX8_greater cX8_greater 2 .int (rmD 0) [.int p1, .int p2] M r M := by
  refine ct_I (by decide) rfl rfl (own := RX8) (Nat.le_of_ble_eq_true rfl) (fun K hl hg S rt => ?_)
  subst hl; subst hg
  unfold f_X8_greater at hf
  show Go K 2 a M 0 [(0, .int p1), (1, .int p2)] []
  refine g_iload_n 0 S dX8_greater_0 rfl ?_
  refine g_iload_n 1 S dX8_greater_1 rfl ?_
  refine g_icmp_ge (tgt := 9) S dX8_greater_2 (by decide) hf (fun c hf => ?_) (fun c hf => ?_)
  · refine g_iload_n 0 S dX8_greater_9 rfl ?_
    exact g_iretP rt hf dX8_greater_10
  · refine g_iload_n 1 S dX8_greater_5 rfl ?_
    refine g_goto (tgt := 10) S dX8_greater_6 (by decide) ?_
    exact g_iretP rt hf dX8_greater_10
-- BridleBookModel.turn(III)I
theorem dX8_turn_0 : decode cX8_turn 0 = .ok (.aload_n 0, 1) := by decide +kernel
theorem dX8_turn_1 : decode cX8_turn 1 = .ok (.iload_n 1, 1) := by decide +kernel
theorem dX8_turn_2 : decode cX8_turn 2 = .ok (.invokevirtual 157, 3) := by decide +kernel
theorem dX8_turn_5 : decode cX8_turn 5 = .ok (.ifCond .eq 26, 3) := by decide +kernel
theorem dX8_turn_8 : decode cX8_turn 8 = .ok (.aload_n 0, 1) := by decide +kernel
theorem dX8_turn_9 : decode cX8_turn 9 = .ok (.iload_n 2, 1) := by decide +kernel
theorem dX8_turn_10 : decode cX8_turn 10 = .ok (.invokevirtual 157, 3) := by decide +kernel
theorem dX8_turn_13 : decode cX8_turn 13 = .ok (.ifCond .eq 18, 3) := by decide +kernel
theorem dX8_turn_16 : decode cX8_turn 16 = .ok (.iload_n 1, 1) := by decide +kernel
theorem dX8_turn_17 : decode cX8_turn 17 = .ok (.iload_n 2, 1) := by decide +kernel
theorem dX8_turn_18 : decode cX8_turn 18 = .ok (.if_icmp .eq 13, 3) := by decide +kernel
theorem dX8_turn_21 : decode cX8_turn 21 = .ok (.iload_n 3, 1) := by decide +kernel
theorem dX8_turn_22 : decode cX8_turn 22 = .ok (.iconst 1, 1) := by decide +kernel
theorem dX8_turn_23 : decode cX8_turn 23 = .ok (.if_icmp .eq 10, 3) := by decide +kernel
theorem dX8_turn_26 : decode cX8_turn 26 = .ok (.iload_n 3, 1) := by decide +kernel
theorem dX8_turn_27 : decode cX8_turn 27 = .ok (.iconst (-1), 1) := by decide +kernel
theorem dX8_turn_28 : decode cX8_turn 28 = .ok (.if_icmp .eq 5, 3) := by decide +kernel
theorem dX8_turn_31 : decode cX8_turn 31 = .ok (.iconst (-1), 1) := by decide +kernel
theorem dX8_turn_32 : decode cX8_turn 32 = .ok (.ireturn, 1) := by decide +kernel
theorem dX8_turn_33 : decode cX8_turn 33 = .ok (.iload_n 1, 1) := by decide +kernel
theorem dX8_turn_34 : decode cX8_turn 34 = .ok (.iload_n 2, 1) := by decide +kernel
theorem dX8_turn_35 : decode cX8_turn 35 = .ok (.invokestatic 230, 3) := by decide +kernel
theorem dX8_turn_38 : decode cX8_turn 38 = .ok (.istore 4, 2) := by decide +kernel
theorem dX8_turn_40 : decode cX8_turn 40 = .ok (.iload_n 1, 1) := by decide +kernel
theorem dX8_turn_41 : decode cX8_turn 41 = .ok (.iload_n 2, 1) := by decide +kernel
theorem dX8_turn_42 : decode cX8_turn 42 = .ok (.invokestatic 233, 3) := by decide +kernel
theorem dX8_turn_45 : decode cX8_turn 45 = .ok (.istore 5, 2) := by decide +kernel
theorem dX8_turn_47 : decode cX8_turn 47 = .ok (.aload_n 0, 1) := by decide +kernel
theorem dX8_turn_48 : decode cX8_turn 48 = .ok (.getfield 227, 3) := by decide +kernel
theorem dX8_turn_51 : decode cX8_turn 51 = .ok (.iconst 1, 1) := by decide +kernel
theorem dX8_turn_52 : decode cX8_turn 52 = .ok (.isub, 1) := by decide +kernel
theorem dX8_turn_53 : decode cX8_turn 53 = .ok (.istore 6, 2) := by decide +kernel
theorem dX8_turn_55 : decode cX8_turn 55 = .ok (.iload 6, 2) := by decide +kernel
theorem dX8_turn_57 : decode cX8_turn 57 = .ok (.ifCond .lt 43, 3) := by decide +kernel
theorem dX8_turn_60 : decode cX8_turn 60 = .ok (.aload_n 0, 1) := by decide +kernel
theorem dX8_turn_61 : decode cX8_turn 61 = .ok (.getfield 99, 3) := by decide +kernel
theorem dX8_turn_64 : decode cX8_turn 64 = .ok (.iload 6, 2) := by decide +kernel
theorem dX8_turn_66 : decode cX8_turn 66 = .ok (.iaload, 1) := by decide +kernel
theorem dX8_turn_67 : decode cX8_turn 67 = .ok (.iload 4, 2) := by decide +kernel
theorem dX8_turn_69 : decode cX8_turn 69 = .ok (.if_icmp .ne 31, 3) := by decide +kernel
theorem dX8_turn_72 : decode cX8_turn 72 = .ok (.aload_n 0, 1) := by decide +kernel
theorem dX8_turn_73 : decode cX8_turn 73 = .ok (.getfield 102, 3) := by decide +kernel
theorem dX8_turn_76 : decode cX8_turn 76 = .ok (.iload 6, 2) := by decide +kernel
theorem dX8_turn_78 : decode cX8_turn 78 = .ok (.iaload, 1) := by decide +kernel
theorem dX8_turn_79 : decode cX8_turn 79 = .ok (.iload 5, 2) := by decide +kernel
theorem dX8_turn_81 : decode cX8_turn 81 = .ok (.if_icmp .ne 19, 3) := by decide +kernel
theorem dX8_turn_84 : decode cX8_turn 84 = .ok (.aload_n 0, 1) := by decide +kernel
theorem dX8_turn_85 : decode cX8_turn 85 = .ok (.getfield 105, 3) := by decide +kernel
theorem dX8_turn_88 : decode cX8_turn 88 = .ok (.iload 6, 2) := by decide +kernel
theorem dX8_turn_90 : decode cX8_turn 90 = .ok (.iaload, 1) := by decide +kernel
theorem dX8_turn_91 : decode cX8_turn 91 = .ok (.iload_n 3, 1) := by decide +kernel
theorem dX8_turn_92 : decode cX8_turn 92 = .ok (.ineg, 1) := by decide +kernel
theorem dX8_turn_93 : decode cX8_turn 93 = .ok (.if_icmp .ne 7, 3) := by decide +kernel
theorem dX8_turn_96 : decode cX8_turn 96 = .ok (.iconst 1, 1) := by decide +kernel
theorem dX8_turn_97 : decode cX8_turn 97 = .ok (.goto 4, 3) := by decide +kernel
theorem dX8_turn_100 : decode cX8_turn 100 = .ok (.iconst 0, 1) := by decide +kernel
theorem dX8_turn_101 : decode cX8_turn 101 = .ok (.istore 7, 2) := by decide +kernel
theorem dX8_turn_103 : decode cX8_turn 103 = .ok (.aload_n 0, 1) := by decide +kernel
theorem dX8_turn_104 : decode cX8_turn 104 = .ok (.getfield 227, 3) := by decide +kernel
theorem dX8_turn_107 : decode cX8_turn 107 = .ok (.sipush 200, 3) := by decide +kernel
theorem dX8_turn_110 : decode cX8_turn 110 = .ok (.if_icmp .ne 11, 3) := by decide +kernel
theorem dX8_turn_113 : decode cX8_turn 113 = .ok (.iload 7, 2) := by decide +kernel
theorem dX8_turn_115 : decode cX8_turn 115 = .ok (.ifCond .ne 6, 3) := by decide +kernel
theorem dX8_turn_118 : decode cX8_turn 118 = .ok (.bipush (-3), 2) := by decide +kernel
theorem dX8_turn_120 : decode cX8_turn 120 = .ok (.ireturn, 1) := by decide +kernel
theorem dX8_turn_121 : decode cX8_turn 121 = .ok (.aload_n 0, 1) := by decide +kernel
theorem dX8_turn_122 : decode cX8_turn 122 = .ok (.iload 4, 2) := by decide +kernel
theorem dX8_turn_124 : decode cX8_turn 124 = .ok (.iload 5, 2) := by decide +kernel
theorem dX8_turn_126 : decode cX8_turn 126 = .ok (.iload_n 3, 1) := by decide +kernel
theorem dX8_turn_127 : decode cX8_turn 127 = .ok (.invokevirtual 236, 3) := by decide +kernel
theorem dX8_turn_130 : decode cX8_turn 130 = .ok (.aload_n 0, 1) := by decide +kernel
theorem dX8_turn_131 : decode cX8_turn 131 = .ok (.getfield 227, 3) := by decide +kernel
theorem dX8_turn_134 : decode cX8_turn 134 = .ok (.ireturn, 1) := by decide +kernel
def f_X8_turn_101 (z : Nat → Nat) (M : Mem) (s0 : Int32) (x3 : Int32) (x4 : Int32) (x5 : Int32) : Option (Int32 × Mem) := if (M 0 34) = 200 then if s0 = 0 then some ((-3), M) else bd1 (f_X8_wind0 z M x4 x5 x3) (fun M5 => some ((M5 0 34), M5)) else bd1 (f_X8_wind0 z M x4 x5 x3) (fun M6 => some ((M6 0 34), M6))
theorem t_X8_turn_101 {K : KK} {a : AA} (S : Sx K RX8 cX8_turn 8 (rmD 2)) {r : Int32} {M' : Mem} (rt : RtI K a cX8_turn r M') (M : Mem) (s0 : Int32) (x3 : Int32) (x4 : Int32) (x5 : Int32) (hf : f_X8_turn_101 a.1 M s0 x3 x4 x5 = some (r, M')) : Go K 8 a M 101 [(0, .ref (a.2 0)), (3, .int x3), (4, .int x4), (5, .int x5)] [.int s0] := by
  unfold f_X8_turn_101 at hf
  refine g_istore (lv' := [(7, .int s0), (0, .ref (a.2 0)), (3, .int x3), (4, .int x4), (5, .int x5)]) S dX8_turn_101 (by decide) rfl ?_
  refine g_aload_n 1 S dX8_turn_103 rfl ?_
  refine g_get (v := .int (M 0 34)) S ob_0 rfl gi_X8 (by decide) lf_X8_227 rfl dX8_turn_104 ?_
  refine g_sipush (v := 200) S dX8_turn_107 rfl ?_
  refine g_icmp_ne (tgt := 121) S dX8_turn_110 (by decide) hf (fun c hf => ?_) (fun c hf => ?_)
  · refine g_iload 0 S dX8_turn_113 rfl ?_
    refine g_if_ne (tgt := 121) S dX8_turn_115 (by decide) hf (fun c hf => ?_) (fun c hf => ?_)
    · refine g_bipush (v := (-3)) S dX8_turn_118 rfl ?_
      exact g_iretM rt hf dX8_turn_120
    · refine g_aload_n 1 S dX8_turn_121 rfl ?_
      refine g_iload 3 S dX8_turn_122 rfl ?_
      refine g_iload 4 S dX8_turn_124 rfl ?_
      refine g_iload_n 2 S dX8_turn_126 rfl ?_
      obtain ⟨M5, hM5, hf⟩ := bd1_some hf
      refine g_cVV (st := []) S ob_0 rfl ok_X8_wind0 lk_X8_236 (c_X8_wind0 hM5) rfl rfl ⟨by decide, by decide⟩ (rmD_z _) (Nat.le_of_ble_eq_true rfl) dX8_turn_127 ?_
      refine g_aload_n 1 S dX8_turn_130 rfl ?_
      refine g_get (v := .int (M5 0 34)) S ob_0 rfl gi_X8 (by decide) lf_X8_227 rfl dX8_turn_131 ?_
      exact g_iretM rt hf dX8_turn_134
  · refine g_aload_n 1 S dX8_turn_121 rfl ?_
    refine g_iload 3 S dX8_turn_122 rfl ?_
    refine g_iload 4 S dX8_turn_124 rfl ?_
    refine g_iload_n 2 S dX8_turn_126 rfl ?_
    obtain ⟨M6, hM6, hf⟩ := bd1_some hf
    refine g_cVV (st := []) S ob_0 rfl ok_X8_wind0 lk_X8_236 (c_X8_wind0 hM6) rfl rfl ⟨by decide, by decide⟩ (rmD_z _) (Nat.le_of_ble_eq_true rfl) dX8_turn_127 ?_
    refine g_aload_n 1 S dX8_turn_130 rfl ?_
    refine g_get (v := .int (M6 0 34)) S ob_0 rfl gi_X8 (by decide) lf_X8_227 rfl dX8_turn_131 ?_
    exact g_iretM rt hf dX8_turn_134
def f_X8_turn_33 (z : Nat → Nat) (M : Mem) (x1 : Int32) (x2 : Int32) (x3 : Int32) : Option (Int32 × Mem) := bd1 (f_X8_lesser z M x1 x2) (fun r3 => bd1 (f_X8_greater z M x1 x2) (fun r4 => if ((M 0 34) - 1) < 0 then f_X8_turn_101 z M 0 x3 r3 r4 else ck (inb ((M 0 34) - 1) 200) (if (M 35 (Int32.toNatClampNeg ((M 0 34) - 1))) = r3 then ck (inb ((M 0 34) - 1) 200) (if (M 36 (Int32.toNatClampNeg ((M 0 34) - 1))) = r4 then ck (inb ((M 0 34) - 1) 200) (if (M 37 (Int32.toNatClampNeg ((M 0 34) - 1))) = (-x3) then f_X8_turn_101 z M 1 x3 r3 r4 else f_X8_turn_101 z M 0 x3 r3 r4) else f_X8_turn_101 z M 0 x3 r3 r4) else f_X8_turn_101 z M 0 x3 r3 r4)))
theorem t_X8_turn_33 {K : KK} {a : AA} (S : Sx K RX8 cX8_turn 8 (rmD 2)) {r : Int32} {M' : Mem} (rt : RtI K a cX8_turn r M') (M : Mem) (x1 : Int32) (x2 : Int32) (x3 : Int32) (hf : f_X8_turn_33 a.1 M x1 x2 x3 = some (r, M')) : Go K 8 a M 33 [(0, .ref (a.2 0)), (1, .int x1), (2, .int x2), (3, .int x3)] [] := by
  unfold f_X8_turn_33 at hf
  refine g_iload_n 1 S dX8_turn_33 rfl ?_
  refine g_iload_n 2 S dX8_turn_34 rfl ?_
  obtain ⟨r3, hr3, hf⟩ := bd1_some hf
  refine g_cSI (st := []) S ok_X8_lesser lk_X8_230 (c_X8_lesser hr3) rfl rfl ⟨by decide, by decide⟩ (rmD_z _) (Nat.le_of_ble_eq_true rfl) dX8_turn_35 ?_
  refine g_istore (lv' := [(4, .int r3), (0, .ref (a.2 0)), (1, .int x1), (2, .int x2), (3, .int x3)]) S dX8_turn_38 (by decide) rfl ?_
  refine g_iload_n 2 S dX8_turn_40 rfl ?_
  refine g_iload_n 3 S dX8_turn_41 rfl ?_
  obtain ⟨r4, hr4, hf⟩ := bd1_some hf
  refine g_cSI (st := []) S ok_X8_greater lk_X8_233 (c_X8_greater hr4) rfl rfl ⟨by decide, by decide⟩ (rmD_z _) (Nat.le_of_ble_eq_true rfl) dX8_turn_42 ?_
  refine g_istore (lv' := [(5, .int r4), (4, .int r3), (0, .ref (a.2 0)), (1, .int x1), (2, .int x2), (3, .int x3)]) S dX8_turn_45 (by decide) rfl ?_
  refine g_aload_n 2 S dX8_turn_47 rfl ?_
  refine g_get (v := .int (M 0 34)) S ob_0 rfl gi_X8 (by decide) lf_X8_227 rfl dX8_turn_48 ?_
  refine g_iconst (v := 1) S dX8_turn_51 rfl ?_
  refine g_isub S dX8_turn_52 ?_
  refine g_istore (lv' := [(6, .int ((M 0 34) - 1)), (5, .int r4), (4, .int r3), (0, .ref (a.2 0)), (1, .int x1), (2, .int x2), (3, .int x3)]) S dX8_turn_53 (by decide) rfl ?_
  refine g_iload 0 S dX8_turn_55 rfl ?_
  refine g_if_lt (tgt := 100) S dX8_turn_57 (by decide) hf (fun c hf => ?_) (fun c hf => ?_)
  · refine g_iconst (v := 0) S dX8_turn_100 rfl ?_
    refine Go.sub [3, 6, 2, 1] rfl ?_
    exact t_X8_turn_101  S rt _ _ _ _ _ hf
  · refine g_aload_n 3 S dX8_turn_60 rfl ?_
    refine g_get (v := .ref (a.2 35)) S ob_0 rfl gi_X8 (by decide) lf_X8_99 rfl dX8_turn_61 ?_
    refine g_iload 0 S dX8_turn_64 rfl ?_
    refine g_iald S ia_35 dX8_turn_66 hf (fun hf => ?_)
    refine g_iload 2 S dX8_turn_67 rfl ?_
    refine g_icmp_ne (tgt := 100) S dX8_turn_69 (by decide) hf (fun c hf => ?_) (fun c hf => ?_)
    · refine g_aload_n 3 S dX8_turn_72 rfl ?_
      refine g_get (v := .ref (a.2 36)) S ob_0 rfl gi_X8 (by decide) lf_X8_102 rfl dX8_turn_73 ?_
      refine g_iload 0 S dX8_turn_76 rfl ?_
      refine g_iald S ia_36 dX8_turn_78 hf (fun hf => ?_)
      refine g_iload 1 S dX8_turn_79 rfl ?_
      refine g_icmp_ne (tgt := 100) S dX8_turn_81 (by decide) hf (fun c hf => ?_) (fun c hf => ?_)
      · refine g_aload_n 3 S dX8_turn_84 rfl ?_
        refine g_get (v := .ref (a.2 37)) S ob_0 rfl gi_X8 (by decide) lf_X8_105 rfl dX8_turn_85 ?_
        refine g_iload 0 S dX8_turn_88 rfl ?_
        refine g_iald S ia_37 dX8_turn_90 hf (fun hf => ?_)
        refine g_iload_n 6 S dX8_turn_91 rfl ?_
        refine g_ineg S dX8_turn_92 ?_
        refine g_icmp_ne (tgt := 100) S dX8_turn_93 (by decide) hf (fun c hf => ?_) (fun c hf => ?_)
        · refine g_iconst (v := 1) S dX8_turn_96 rfl ?_
          refine g_goto (tgt := 101) S dX8_turn_97 (by decide) ?_
          refine Go.sub [3, 6, 2, 1] rfl ?_
          exact t_X8_turn_101  S rt _ _ _ _ _ hf
        · refine g_iconst (v := 0) S dX8_turn_100 rfl ?_
          refine Go.sub [3, 6, 2, 1] rfl ?_
          exact t_X8_turn_101  S rt _ _ _ _ _ hf
      · refine g_iconst (v := 0) S dX8_turn_100 rfl ?_
        refine Go.sub [3, 6, 2, 1] rfl ?_
        exact t_X8_turn_101  S rt _ _ _ _ _ hf
    · refine g_iconst (v := 0) S dX8_turn_100 rfl ?_
      refine Go.sub [3, 6, 2, 1] rfl ?_
      exact t_X8_turn_101  S rt _ _ _ _ _ hf
def f_X8_turn (z : Nat → Nat) (M : Mem) (p1 : Int32) (p2 : Int32) (p3 : Int32) : Option (Int32 × Mem) := bd1 (f_X8_isLine z M p1) (fun r1 => if r1 = true then bd1 (f_X8_isLine z M p2) (fun r2 => if r2 = true then if p1 = p2 then some ((-1), M) else if p3 = 1 then f_X8_turn_33 z M p1 p2 p3 else if p3 = (-1) then f_X8_turn_33 z M p1 p2 p3 else some ((-1), M) else some ((-1), M)) else some ((-1), M))
theorem c_X8_turn {l : Launch} {G : GG} {a : AA} {M : Mem} {p1 : Int32} {p2 : Int32} {p3 : Int32} {r : Int32} {M' : Mem} (hf : f_X8_turn a.1 M p1 p2 p3 = some (r, M')) : CtI l G a yX8_turn cX8_turn 8 .int (rmD 2) [.ref (a.2 0), .int p1, .int p2, .int p3] M r M' := by
  refine ct_I (by decide) rfl rfl (own := RX8) (Nat.le_of_ble_eq_true rfl) (fun K hl hg S rt => ?_)
  subst hl; subst hg
  unfold f_X8_turn at hf
  show Go K 8 a M 0 [(0, .ref (a.2 0)), (1, .int p1), (2, .int p2), (3, .int p3)] []
  refine g_aload_n 0 S dX8_turn_0 rfl ?_
  refine g_iload_n 1 S dX8_turn_1 rfl ?_
  obtain ⟨r1, hr1, hf⟩ := bd1_some hf
  refine g_cVI (st := []) S ob_0 rfl ok_X8_isLine lk_X8_157 (c_X8_isLine hr1) rfl rfl ⟨by decide, by decide⟩ (rmD_z _) (Nat.le_of_ble_eq_true rfl) dX8_turn_2 ?_
  refine g_if_eqB (tgt := 31) S dX8_turn_5 (by decide) hf (fun c hf => ?_) (fun c hf => ?_)
  · refine g_aload_n 0 S dX8_turn_8 rfl ?_
    refine g_iload_n 2 S dX8_turn_9 rfl ?_
    obtain ⟨r2, hr2, hf⟩ := bd1_some hf
    refine g_cVI (st := []) S ob_0 rfl ok_X8_isLine lk_X8_157 (c_X8_isLine hr2) rfl rfl ⟨by decide, by decide⟩ (rmD_z _) (Nat.le_of_ble_eq_true rfl) dX8_turn_10 ?_
    refine g_if_eqB (tgt := 31) S dX8_turn_13 (by decide) hf (fun c hf => ?_) (fun c hf => ?_)
    · refine g_iload_n 1 S dX8_turn_16 rfl ?_
      refine g_iload_n 2 S dX8_turn_17 rfl ?_
      refine g_icmp_eq (tgt := 31) S dX8_turn_18 (by decide) hf (fun c hf => ?_) (fun c hf => ?_)
      · refine g_iconst (v := (-1)) S dX8_turn_31 rfl ?_
        exact g_iretM rt hf dX8_turn_32
      · refine g_iload_n 3 S dX8_turn_21 rfl ?_
        refine g_iconst (v := 1) S dX8_turn_22 rfl ?_
        refine g_icmp_eq (tgt := 33) S dX8_turn_23 (by decide) hf (fun c hf => ?_) (fun c hf => ?_)
        · exact t_X8_turn_33  S rt _ _ _ _ hf
        · refine g_iload_n 3 S dX8_turn_26 rfl ?_
          refine g_iconst (v := (-1)) S dX8_turn_27 rfl ?_
          refine g_icmp_eq (tgt := 33) S dX8_turn_28 (by decide) hf (fun c hf => ?_) (fun c hf => ?_)
          · exact t_X8_turn_33  S rt _ _ _ _ hf
          · refine g_iconst (v := (-1)) S dX8_turn_31 rfl ?_
            exact g_iretM rt hf dX8_turn_32
    · refine g_iconst (v := (-1)) S dX8_turn_31 rfl ?_
      exact g_iretM rt hf dX8_turn_32
  · refine g_iconst (v := (-1)) S dX8_turn_31 rfl ?_
    exact g_iretM rt hf dX8_turn_32
-- BridleBookModel.turnsOf(II)I
theorem dX8_turnsOf_0 : decode cX8_turnsOf 0 = .ok (.iconst 0, 1) := by decide +kernel
theorem dX8_turnsOf_1 : decode cX8_turnsOf 1 = .ok (.istore_n 3, 1) := by decide +kernel
theorem dX8_turnsOf_2 : decode cX8_turnsOf 2 = .ok (.iconst 0, 1) := by decide +kernel
theorem dX8_turnsOf_3 : decode cX8_turnsOf 3 = .ok (.istore 4, 2) := by decide +kernel
theorem dX8_turnsOf_5 : decode cX8_turnsOf 5 = .ok (.iload 4, 2) := by decide +kernel
theorem dX8_turnsOf_7 : decode cX8_turnsOf 7 = .ok (.aload_n 0, 1) := by decide +kernel
theorem dX8_turnsOf_8 : decode cX8_turnsOf 8 = .ok (.getfield 227, 3) := by decide +kernel
theorem dX8_turnsOf_11 : decode cX8_turnsOf 11 = .ok (.if_icmp .ge 47, 3) := by decide +kernel
theorem dX8_turnsOf_14 : decode cX8_turnsOf 14 = .ok (.iload_n 3, 1) := by decide +kernel
theorem dX8_turnsOf_15 : decode cX8_turnsOf 15 = .ok (.aload_n 0, 1) := by decide +kernel
theorem dX8_turnsOf_16 : decode cX8_turnsOf 16 = .ok (.getfield 99, 3) := by decide +kernel
theorem dX8_turnsOf_19 : decode cX8_turnsOf 19 = .ok (.iload 4, 2) := by decide +kernel
theorem dX8_turnsOf_21 : decode cX8_turnsOf 21 = .ok (.iaload, 1) := by decide +kernel
theorem dX8_turnsOf_22 : decode cX8_turnsOf 22 = .ok (.iload_n 1, 1) := by decide +kernel
theorem dX8_turnsOf_23 : decode cX8_turnsOf 23 = .ok (.iload_n 2, 1) := by decide +kernel
theorem dX8_turnsOf_24 : decode cX8_turnsOf 24 = .ok (.invokestatic 230, 3) := by decide +kernel
theorem dX8_turnsOf_27 : decode cX8_turnsOf 27 = .ok (.if_icmp .ne 22, 3) := by decide +kernel
theorem dX8_turnsOf_30 : decode cX8_turnsOf 30 = .ok (.aload_n 0, 1) := by decide +kernel
theorem dX8_turnsOf_31 : decode cX8_turnsOf 31 = .ok (.getfield 102, 3) := by decide +kernel
theorem dX8_turnsOf_34 : decode cX8_turnsOf 34 = .ok (.iload 4, 2) := by decide +kernel
theorem dX8_turnsOf_36 : decode cX8_turnsOf 36 = .ok (.iaload, 1) := by decide +kernel
theorem dX8_turnsOf_37 : decode cX8_turnsOf 37 = .ok (.iload_n 1, 1) := by decide +kernel
theorem dX8_turnsOf_38 : decode cX8_turnsOf 38 = .ok (.iload_n 2, 1) := by decide +kernel
theorem dX8_turnsOf_39 : decode cX8_turnsOf 39 = .ok (.invokestatic 233, 3) := by decide +kernel
theorem dX8_turnsOf_42 : decode cX8_turnsOf 42 = .ok (.if_icmp .ne 7, 3) := by decide +kernel
theorem dX8_turnsOf_45 : decode cX8_turnsOf 45 = .ok (.iconst 1, 1) := by decide +kernel
theorem dX8_turnsOf_46 : decode cX8_turnsOf 46 = .ok (.goto 4, 3) := by decide +kernel
theorem dX8_turnsOf_49 : decode cX8_turnsOf 49 = .ok (.iconst 0, 1) := by decide +kernel
theorem dX8_turnsOf_50 : decode cX8_turnsOf 50 = .ok (.iadd, 1) := by decide +kernel
theorem dX8_turnsOf_51 : decode cX8_turnsOf 51 = .ok (.istore_n 3, 1) := by decide +kernel
theorem dX8_turnsOf_52 : decode cX8_turnsOf 52 = .ok (.iinc 4 1, 3) := by decide +kernel
theorem dX8_turnsOf_55 : decode cX8_turnsOf 55 = .ok (.goto (-50), 3) := by decide +kernel
theorem dX8_turnsOf_58 : decode cX8_turnsOf 58 = .ok (.iload_n 3, 1) := by decide +kernel
theorem dX8_turnsOf_59 : decode cX8_turnsOf 59 = .ok (.ireturn, 1) := by decide +kernel
def f_X8_turnsOf_5 (z : Nat → Nat) (M : Mem) : Nat → Int32 → Int32 → Int32 → Int32 → Option Int32
  | 0, _, _, _, _ => none
  | fu + 1, x1, x2, x3, x4 => if (M 0 34) ≤ x4 then some x3 else ck (inb x4 200) (bd1 (f_X8_lesser z M x1 x2) (fun r1 => if (M 35 (Int32.toNatClampNeg x4)) = r1 then ck (inb x4 200) (bd1 (f_X8_greater z M x1 x2) (fun r2 => if (M 36 (Int32.toNatClampNeg x4)) = r2 then f_X8_turnsOf_5 z M fu x1 x2 (x3 + 1) (x4 + 1) else f_X8_turnsOf_5 z M fu x1 x2 (x3 + 0) (x4 + 1))) else f_X8_turnsOf_5 z M fu x1 x2 (x3 + 0) (x4 + 1)))
theorem t_X8_turnsOf_5 {K : KK} {a : AA} (S : Sx K RX8 cX8_turnsOf 5 (rmD 1)) {r : Int32} {M : Mem} (rt : RtI K a cX8_turnsOf r M) : ∀ (fu : Nat) (x1 : Int32) (x2 : Int32) (x3 : Int32) (x4 : Int32), f_X8_turnsOf_5 a.1 M fu x1 x2 x3 x4 = some r → Go K 5 a M 5 [(0, .ref (a.2 0)), (1, .int x1), (2, .int x2), (3, .int x3), (4, .int x4)] [] := by
  intro fu
  induction fu with
  | zero => intro x1 x2 x3 x4 hf; exact absurd hf (by simp [f_X8_turnsOf_5])
  | succ fu ih =>
    intro x1 x2 x3 x4 hf
    rw [f_X8_turnsOf_5] at hf
    refine g_iload 4 S dX8_turnsOf_5 rfl ?_
    refine g_aload_n 0 S dX8_turnsOf_7 rfl ?_
    refine g_get (v := .int (M 0 34)) S ob_0 rfl gi_X8 (by decide) lf_X8_227 rfl dX8_turnsOf_8 ?_
    refine g_icmp_ge (tgt := 58) S dX8_turnsOf_11 (by decide) hf (fun c hf => ?_) (fun c hf => ?_)
    · refine g_iload_n 3 S dX8_turnsOf_58 rfl ?_
      exact g_iretP rt hf dX8_turnsOf_59
    · refine g_iload_n 3 S dX8_turnsOf_14 rfl ?_
      refine g_aload_n 0 S dX8_turnsOf_15 rfl ?_
      refine g_get (v := .ref (a.2 35)) S ob_0 rfl gi_X8 (by decide) lf_X8_99 rfl dX8_turnsOf_16 ?_
      refine g_iload 4 S dX8_turnsOf_19 rfl ?_
      refine g_iald S ia_35 dX8_turnsOf_21 hf (fun hf => ?_)
      refine g_iload_n 1 S dX8_turnsOf_22 rfl ?_
      refine g_iload_n 2 S dX8_turnsOf_23 rfl ?_
      obtain ⟨r1, hr1, hf⟩ := bd1_some hf
      refine g_cSI (st := [.int (M 35 (Int32.toNatClampNeg x4)), .int x3]) S ok_X8_lesser lk_X8_230 (c_X8_lesser hr1) rfl rfl ⟨by decide, by decide⟩ (rmD_z _) (Nat.le_of_ble_eq_true rfl) dX8_turnsOf_24 ?_
      refine g_icmp_ne (tgt := 49) S dX8_turnsOf_27 (by decide) hf (fun c hf => ?_) (fun c hf => ?_)
      · refine g_aload_n 0 S dX8_turnsOf_30 rfl ?_
        refine g_get (v := .ref (a.2 36)) S ob_0 rfl gi_X8 (by decide) lf_X8_102 rfl dX8_turnsOf_31 ?_
        refine g_iload 4 S dX8_turnsOf_34 rfl ?_
        refine g_iald S ia_36 dX8_turnsOf_36 hf (fun hf => ?_)
        refine g_iload_n 1 S dX8_turnsOf_37 rfl ?_
        refine g_iload_n 2 S dX8_turnsOf_38 rfl ?_
        obtain ⟨r2, hr2, hf⟩ := bd1_some hf
        refine g_cSI (st := [.int (M 36 (Int32.toNatClampNeg x4)), .int x3]) S ok_X8_greater lk_X8_233 (c_X8_greater hr2) rfl rfl ⟨by decide, by decide⟩ (rmD_z _) (Nat.le_of_ble_eq_true rfl) dX8_turnsOf_39 ?_
        refine g_icmp_ne (tgt := 49) S dX8_turnsOf_42 (by decide) hf (fun c hf => ?_) (fun c hf => ?_)
        · refine g_iconst (v := 1) S dX8_turnsOf_45 rfl ?_
          refine g_goto (tgt := 50) S dX8_turnsOf_46 (by decide) ?_
          refine g_iadd S dX8_turnsOf_50 ?_
          refine g_istore_n (lv' := [(3, .int (x3 + 1)), (0, .ref (a.2 0)), (1, .int x1), (2, .int x2), (4, .int x4)]) S dX8_turnsOf_51 (by decide) rfl ?_
          refine g_iinc (v := (x4 + 1)) (lv' := [(4, .int (x4 + 1)), (3, .int (x3 + 1)), (0, .ref (a.2 0)), (1, .int x1), (2, .int x2)]) 4 S dX8_turnsOf_52 rfl rfl (by decide) rfl ?_
          refine g_goto (tgt := 5) S dX8_turnsOf_55 (by decide) ?_
          refine Go.sub [2, 3, 4, 1, 0] rfl ?_
          exact ih _ _ _ _ hf
        · refine g_iconst (v := 0) S dX8_turnsOf_49 rfl ?_
          refine g_iadd S dX8_turnsOf_50 ?_
          refine g_istore_n (lv' := [(3, .int (x3 + 0)), (0, .ref (a.2 0)), (1, .int x1), (2, .int x2), (4, .int x4)]) S dX8_turnsOf_51 (by decide) rfl ?_
          refine g_iinc (v := (x4 + 1)) (lv' := [(4, .int (x4 + 1)), (3, .int (x3 + 0)), (0, .ref (a.2 0)), (1, .int x1), (2, .int x2)]) 4 S dX8_turnsOf_52 rfl rfl (by decide) rfl ?_
          refine g_goto (tgt := 5) S dX8_turnsOf_55 (by decide) ?_
          refine Go.sub [2, 3, 4, 1, 0] rfl ?_
          exact ih _ _ _ _ hf
      · refine g_iconst (v := 0) S dX8_turnsOf_49 rfl ?_
        refine g_iadd S dX8_turnsOf_50 ?_
        refine g_istore_n (lv' := [(3, .int (x3 + 0)), (0, .ref (a.2 0)), (1, .int x1), (2, .int x2), (4, .int x4)]) S dX8_turnsOf_51 (by decide) rfl ?_
        refine g_iinc (v := (x4 + 1)) (lv' := [(4, .int (x4 + 1)), (3, .int (x3 + 0)), (0, .ref (a.2 0)), (1, .int x1), (2, .int x2)]) 4 S dX8_turnsOf_52 rfl rfl (by decide) rfl ?_
        refine g_goto (tgt := 5) S dX8_turnsOf_55 (by decide) ?_
        refine Go.sub [2, 3, 4, 1, 0] rfl ?_
        exact ih _ _ _ _ hf
def f_X8_turnsOf (z : Nat → Nat) (M : Mem) (p1 : Int32) (p2 : Int32) : Option Int32 := f_X8_turnsOf_5 z M 1000 p1 p2 0 0
theorem c_X8_turnsOf {l : Launch} {G : GG} {a : AA} {M : Mem} {p1 : Int32} {p2 : Int32} {r : Int32} (hf : f_X8_turnsOf a.1 M p1 p2 = some r) : CtI l G a yX8_turnsOf cX8_turnsOf 5 .int (rmD 1) [.ref (a.2 0), .int p1, .int p2] M r M := by
  refine ct_I (by decide) rfl rfl (own := RX8) (Nat.le_of_ble_eq_true rfl) (fun K hl hg S rt => ?_)
  subst hl; subst hg
  unfold f_X8_turnsOf at hf
  show Go K 5 a M 0 [(0, .ref (a.2 0)), (1, .int p1), (2, .int p2)] []
  refine g_iconst (v := 0) S dX8_turnsOf_0 rfl ?_
  refine g_istore_n (lv' := [(3, .int 0), (0, .ref (a.2 0)), (1, .int p1), (2, .int p2)]) S dX8_turnsOf_1 (by decide) rfl ?_
  refine g_iconst (v := 0) S dX8_turnsOf_2 rfl ?_
  refine g_istore (lv' := [(4, .int 0), (3, .int 0), (0, .ref (a.2 0)), (1, .int p1), (2, .int p2)]) S dX8_turnsOf_3 (by decide) rfl ?_
  refine Go.sub [2, 3, 4, 1, 0] rfl ?_
  exact t_X8_turnsOf_5  S rt 1000 _ _ _ _ hf
-- BridleBookModel.tangled(II)I
theorem dX8_tangled_0 : decode cX8_tangled 0 = .ok (.aload_n 0, 1) := by decide +kernel
theorem dX8_tangled_1 : decode cX8_tangled 1 = .ok (.iload_n 1, 1) := by decide +kernel
theorem dX8_tangled_2 : decode cX8_tangled 2 = .ok (.invokevirtual 157, 3) := by decide +kernel
theorem dX8_tangled_5 : decode cX8_tangled 5 = .ok (.ifCond .eq 16, 3) := by decide +kernel
theorem dX8_tangled_8 : decode cX8_tangled 8 = .ok (.aload_n 0, 1) := by decide +kernel
theorem dX8_tangled_9 : decode cX8_tangled 9 = .ok (.iload_n 2, 1) := by decide +kernel
theorem dX8_tangled_10 : decode cX8_tangled 10 = .ok (.invokevirtual 157, 3) := by decide +kernel
theorem dX8_tangled_13 : decode cX8_tangled 13 = .ok (.ifCond .eq 8, 3) := by decide +kernel
theorem dX8_tangled_16 : decode cX8_tangled 16 = .ok (.iload_n 1, 1) := by decide +kernel
theorem dX8_tangled_17 : decode cX8_tangled 17 = .ok (.iload_n 2, 1) := by decide +kernel
theorem dX8_tangled_18 : decode cX8_tangled 18 = .ok (.if_icmp .ne 7, 3) := by decide +kernel
theorem dX8_tangled_21 : decode cX8_tangled 21 = .ok (.iconst (-1), 1) := by decide +kernel
theorem dX8_tangled_22 : decode cX8_tangled 22 = .ok (.goto 9, 3) := by decide +kernel
theorem dX8_tangled_25 : decode cX8_tangled 25 = .ok (.aload_n 0, 1) := by decide +kernel
theorem dX8_tangled_26 : decode cX8_tangled 26 = .ok (.iload_n 1, 1) := by decide +kernel
theorem dX8_tangled_27 : decode cX8_tangled 27 = .ok (.iload_n 2, 1) := by decide +kernel
theorem dX8_tangled_28 : decode cX8_tangled 28 = .ok (.invokevirtual 240, 3) := by decide +kernel
theorem dX8_tangled_31 : decode cX8_tangled 31 = .ok (.ireturn, 1) := by decide +kernel
def f_X8_tangled (z : Nat → Nat) (M : Mem) (p1 : Int32) (p2 : Int32) : Option Int32 := bd1 (f_X8_isLine z M p1) (fun r1 => if r1 = true then bd1 (f_X8_isLine z M p2) (fun r2 => if r2 = true then if p1 = p2 then some (-1) else bd1 (f_X8_turnsOf z M p1 p2) (fun r3 => some r3) else some (-1)) else some (-1))
theorem c_X8_tangled {l : Launch} {G : GG} {a : AA} {M : Mem} {p1 : Int32} {p2 : Int32} {r : Int32} (hf : f_X8_tangled a.1 M p1 p2 = some r) : CtI l G a yX8_tangled cX8_tangled 3 .int (rmD 2) [.ref (a.2 0), .int p1, .int p2] M r M := by
  refine ct_I (by decide) rfl rfl (own := RX8) (Nat.le_of_ble_eq_true rfl) (fun K hl hg S rt => ?_)
  subst hl; subst hg
  unfold f_X8_tangled at hf
  show Go K 3 a M 0 [(0, .ref (a.2 0)), (1, .int p1), (2, .int p2)] []
  refine g_aload_n 0 S dX8_tangled_0 rfl ?_
  refine g_iload_n 1 S dX8_tangled_1 rfl ?_
  obtain ⟨r1, hr1, hf⟩ := bd1_some hf
  refine g_cVI (st := []) S ob_0 rfl ok_X8_isLine lk_X8_157 (c_X8_isLine hr1) rfl rfl ⟨by decide, by decide⟩ (rmD_z _) (Nat.le_of_ble_eq_true rfl) dX8_tangled_2 ?_
  refine g_if_eqB (tgt := 21) S dX8_tangled_5 (by decide) hf (fun c hf => ?_) (fun c hf => ?_)
  · refine g_aload_n 0 S dX8_tangled_8 rfl ?_
    refine g_iload_n 2 S dX8_tangled_9 rfl ?_
    obtain ⟨r2, hr2, hf⟩ := bd1_some hf
    refine g_cVI (st := []) S ob_0 rfl ok_X8_isLine lk_X8_157 (c_X8_isLine hr2) rfl rfl ⟨by decide, by decide⟩ (rmD_z _) (Nat.le_of_ble_eq_true rfl) dX8_tangled_10 ?_
    refine g_if_eqB (tgt := 21) S dX8_tangled_13 (by decide) hf (fun c hf => ?_) (fun c hf => ?_)
    · refine g_iload_n 1 S dX8_tangled_16 rfl ?_
      refine g_iload_n 2 S dX8_tangled_17 rfl ?_
      refine g_icmp_ne (tgt := 25) S dX8_tangled_18 (by decide) hf (fun c hf => ?_) (fun c hf => ?_)
      · refine g_iconst (v := (-1)) S dX8_tangled_21 rfl ?_
        refine g_goto (tgt := 31) S dX8_tangled_22 (by decide) ?_
        exact g_iretP rt hf dX8_tangled_31
      · refine g_aload_n 0 S dX8_tangled_25 rfl ?_
        refine g_iload_n 1 S dX8_tangled_26 rfl ?_
        refine g_iload_n 2 S dX8_tangled_27 rfl ?_
        obtain ⟨r3, hr3, hf⟩ := bd1_some hf
        refine g_cVI (st := []) S ob_0 rfl ok_X8_turnsOf lk_X8_240 (c_X8_turnsOf hr3) rfl rfl ⟨by decide, by decide⟩ (rmD_z _) (Nat.le_of_ble_eq_true rfl) dX8_tangled_28 ?_
        exact g_iretP rt hf dX8_tangled_31
    · refine g_iconst (v := (-1)) S dX8_tangled_21 rfl ?_
      refine g_goto (tgt := 31) S dX8_tangled_22 (by decide) ?_
      exact g_iretP rt hf dX8_tangled_31
  · refine g_iconst (v := (-1)) S dX8_tangled_21 rfl ?_
    refine g_goto (tgt := 31) S dX8_tangled_22 (by decide) ?_
    exact g_iretP rt hf dX8_tangled_31
-- BridleBookModel.has(II)Z
theorem dX8_has_0 : decode cX8_has 0 = .ok (.aload_n 0, 1) := by decide +kernel
theorem dX8_has_1 : decode cX8_has 1 = .ok (.getfield 99, 3) := by decide +kernel
theorem dX8_has_4 : decode cX8_has 4 = .ok (.iload_n 1, 1) := by decide +kernel
theorem dX8_has_5 : decode cX8_has 5 = .ok (.iaload, 1) := by decide +kernel
theorem dX8_has_6 : decode cX8_has 6 = .ok (.iload_n 2, 1) := by decide +kernel
theorem dX8_has_7 : decode cX8_has 7 = .ok (.if_icmp .eq 13, 3) := by decide +kernel
theorem dX8_has_10 : decode cX8_has 10 = .ok (.aload_n 0, 1) := by decide +kernel
theorem dX8_has_11 : decode cX8_has 11 = .ok (.getfield 102, 3) := by decide +kernel
theorem dX8_has_14 : decode cX8_has 14 = .ok (.iload_n 1, 1) := by decide +kernel
theorem dX8_has_15 : decode cX8_has 15 = .ok (.iaload, 1) := by decide +kernel
theorem dX8_has_16 : decode cX8_has 16 = .ok (.iload_n 2, 1) := by decide +kernel
theorem dX8_has_17 : decode cX8_has 17 = .ok (.if_icmp .ne 7, 3) := by decide +kernel
theorem dX8_has_20 : decode cX8_has 20 = .ok (.iconst 1, 1) := by decide +kernel
theorem dX8_has_21 : decode cX8_has 21 = .ok (.goto 4, 3) := by decide +kernel
theorem dX8_has_24 : decode cX8_has 24 = .ok (.iconst 0, 1) := by decide +kernel
theorem dX8_has_25 : decode cX8_has 25 = .ok (.ireturn, 1) := by decide +kernel
def f_X8_has (z : Nat → Nat) (M : Mem) (p1 : Int32) (p2 : Int32) : Option Bool := ck (inb p1 200) (if (M 35 (Int32.toNatClampNeg p1)) = p2 then some true else ck (inb p1 200) (if (M 36 (Int32.toNatClampNeg p1)) = p2 then some true else some false))
theorem c_X8_has {l : Launch} {G : GG} {a : AA} {M : Mem} {p1 : Int32} {p2 : Int32} {r : Bool} (hf : f_X8_has a.1 M p1 p2 = some r) : CtI l G a yX8_has cX8_has 3 .boolean (rmD 0) [.ref (a.2 0), .int p1, .int p2] M (b2i r) M := by
  refine ct_I (by decide) rfl (b2i_n _) (own := RX8) (Nat.le_of_ble_eq_true rfl) (fun K hl hg S rt => ?_)
  subst hl; subst hg
  unfold f_X8_has at hf
  show Go K 3 a M 0 [(0, .ref (a.2 0)), (1, .int p1), (2, .int p2)] []
  refine g_aload_n 0 S dX8_has_0 rfl ?_
  refine g_get (v := .ref (a.2 35)) S ob_0 rfl gi_X8 (by decide) lf_X8_99 rfl dX8_has_1 ?_
  refine g_iload_n 1 S dX8_has_4 rfl ?_
  refine g_iald S ia_35 dX8_has_5 hf (fun hf => ?_)
  refine g_iload_n 2 S dX8_has_6 rfl ?_
  refine g_icmp_eq (tgt := 20) S dX8_has_7 (by decide) hf (fun c hf => ?_) (fun c hf => ?_)
  · refine g_iconst (v := 1) S dX8_has_20 rfl ?_
    refine g_goto (tgt := 25) S dX8_has_21 (by decide) ?_
    exact g_zretP rt hf dX8_has_25 rfl
  · refine g_aload_n 0 S dX8_has_10 rfl ?_
    refine g_get (v := .ref (a.2 36)) S ob_0 rfl gi_X8 (by decide) lf_X8_102 rfl dX8_has_11 ?_
    refine g_iload_n 1 S dX8_has_14 rfl ?_
    refine g_iald S ia_36 dX8_has_15 hf (fun hf => ?_)
    refine g_iload_n 2 S dX8_has_16 rfl ?_
    refine g_icmp_ne (tgt := 24) S dX8_has_17 (by decide) hf (fun c hf => ?_) (fun c hf => ?_)
    · refine g_iconst (v := 1) S dX8_has_20 rfl ?_
      refine g_goto (tgt := 25) S dX8_has_21 (by decide) ?_
      exact g_zretP rt hf dX8_has_25 rfl
    · refine g_iconst (v := 0) S dX8_has_24 rfl ?_
      exact g_zretP rt hf dX8_has_25 rfl
-- BridleBookModel.undo(I)I
theorem dX8_undo_0 : decode cX8_undo 0 = .ok (.aload_n 0, 1) := by decide +kernel
theorem dX8_undo_1 : decode cX8_undo 1 = .ok (.iload_n 1, 1) := by decide +kernel
theorem dX8_undo_2 : decode cX8_undo 2 = .ok (.invokevirtual 157, 3) := by decide +kernel
theorem dX8_undo_5 : decode cX8_undo 5 = .ok (.ifCond .ne 5, 3) := by decide +kernel
theorem dX8_undo_8 : decode cX8_undo 8 = .ok (.iconst (-1), 1) := by decide +kernel
theorem dX8_undo_9 : decode cX8_undo 9 = .ok (.ireturn, 1) := by decide +kernel
theorem dX8_undo_10 : decode cX8_undo 10 = .ok (.iconst 0, 1) := by decide +kernel
theorem dX8_undo_11 : decode cX8_undo 11 = .ok (.istore_n 2, 1) := by decide +kernel
theorem dX8_undo_12 : decode cX8_undo 12 = .ok (.iload_n 2, 1) := by decide +kernel
theorem dX8_undo_13 : decode cX8_undo 13 = .ok (.aload_n 0, 1) := by decide +kernel
theorem dX8_undo_14 : decode cX8_undo 14 = .ok (.getfield 227, 3) := by decide +kernel
theorem dX8_undo_17 : decode cX8_undo 17 = .ok (.if_icmp .ge 25, 3) := by decide +kernel
theorem dX8_undo_20 : decode cX8_undo 20 = .ok (.aload_n 0, 1) := by decide +kernel
theorem dX8_undo_21 : decode cX8_undo 21 = .ok (.iload_n 2, 1) := by decide +kernel
theorem dX8_undo_22 : decode cX8_undo 22 = .ok (.iload_n 1, 1) := by decide +kernel
theorem dX8_undo_23 : decode cX8_undo 23 = .ok (.invokevirtual 243, 3) := by decide +kernel
theorem dX8_undo_26 : decode cX8_undo 26 = .ok (.ifCond .eq 10, 3) := by decide +kernel
theorem dX8_undo_29 : decode cX8_undo 29 = .ok (.aload_n 0, 1) := by decide +kernel
theorem dX8_undo_30 : decode cX8_undo 30 = .ok (.getfield 227, 3) := by decide +kernel
theorem dX8_undo_33 : decode cX8_undo 33 = .ok (.iload_n 2, 1) := by decide +kernel
theorem dX8_undo_34 : decode cX8_undo 34 = .ok (.isub, 1) := by decide +kernel
theorem dX8_undo_35 : decode cX8_undo 35 = .ok (.ireturn, 1) := by decide +kernel
theorem dX8_undo_36 : decode cX8_undo 36 = .ok (.iinc 2 1, 3) := by decide +kernel
theorem dX8_undo_39 : decode cX8_undo 39 = .ok (.goto (-27), 3) := by decide +kernel
theorem dX8_undo_42 : decode cX8_undo 42 = .ok (.iconst 0, 1) := by decide +kernel
theorem dX8_undo_43 : decode cX8_undo 43 = .ok (.ireturn, 1) := by decide +kernel
def f_X8_undo_12 (z : Nat → Nat) (M : Mem) : Nat → Int32 → Int32 → Option Int32
  | 0, _, _ => none
  | fu + 1, x1, x2 => if (M 0 34) ≤ x2 then some 0 else bd1 (f_X8_has z M x2 x1) (fun r2 => if r2 = true then some ((M 0 34) - x2) else f_X8_undo_12 z M fu x1 (x2 + 1))
theorem t_X8_undo_12 {K : KK} {a : AA} (S : Sx K RX8 cX8_undo 3 (rmD 2)) {r : Int32} {M : Mem} (rt : RtI K a cX8_undo r M) : ∀ (fu : Nat) (x1 : Int32) (x2 : Int32), f_X8_undo_12 a.1 M fu x1 x2 = some r → Go K 3 a M 12 [(0, .ref (a.2 0)), (1, .int x1), (2, .int x2)] [] := by
  intro fu
  induction fu with
  | zero => intro x1 x2 hf; exact absurd hf (by simp [f_X8_undo_12])
  | succ fu ih =>
    intro x1 x2 hf
    rw [f_X8_undo_12] at hf
    refine g_iload_n 2 S dX8_undo_12 rfl ?_
    refine g_aload_n 0 S dX8_undo_13 rfl ?_
    refine g_get (v := .int (M 0 34)) S ob_0 rfl gi_X8 (by decide) lf_X8_227 rfl dX8_undo_14 ?_
    refine g_icmp_ge (tgt := 42) S dX8_undo_17 (by decide) hf (fun c hf => ?_) (fun c hf => ?_)
    · refine g_iconst (v := 0) S dX8_undo_42 rfl ?_
      exact g_iretP rt hf dX8_undo_43
    · refine g_aload_n 0 S dX8_undo_20 rfl ?_
      refine g_iload_n 2 S dX8_undo_21 rfl ?_
      refine g_iload_n 1 S dX8_undo_22 rfl ?_
      obtain ⟨r2, hr2, hf⟩ := bd1_some hf
      refine g_cVI (st := []) S ob_0 rfl ok_X8_has lk_X8_243 (c_X8_has hr2) rfl rfl ⟨by decide, by decide⟩ (rmD_z _) (Nat.le_of_ble_eq_true rfl) dX8_undo_23 ?_
      refine g_if_eqB (tgt := 36) S dX8_undo_26 (by decide) hf (fun c hf => ?_) (fun c hf => ?_)
      · refine g_aload_n 0 S dX8_undo_29 rfl ?_
        refine g_get (v := .int (M 0 34)) S ob_0 rfl gi_X8 (by decide) lf_X8_227 rfl dX8_undo_30 ?_
        refine g_iload_n 2 S dX8_undo_33 rfl ?_
        refine g_isub S dX8_undo_34 ?_
        exact g_iretP rt hf dX8_undo_35
      · refine g_iinc (v := (x2 + 1)) (lv' := [(2, .int (x2 + 1)), (0, .ref (a.2 0)), (1, .int x1)]) 2 S dX8_undo_36 rfl rfl (by decide) rfl ?_
        refine g_goto (tgt := 12) S dX8_undo_39 (by decide) ?_
        refine Go.sub [1, 2, 0] rfl ?_
        exact ih _ _ hf
def f_X8_undo (z : Nat → Nat) (M : Mem) (p1 : Int32) : Option Int32 := bd1 (f_X8_isLine z M p1) (fun r1 => if r1 = true then f_X8_undo_12 z M 1000 p1 0 else some (-1))
theorem c_X8_undo {l : Launch} {G : GG} {a : AA} {M : Mem} {p1 : Int32} {r : Int32} (hf : f_X8_undo a.1 M p1 = some r) : CtI l G a yX8_undo cX8_undo 3 .int (rmD 2) [.ref (a.2 0), .int p1] M r M := by
  refine ct_I (by decide) rfl rfl (own := RX8) (Nat.le_of_ble_eq_true rfl) (fun K hl hg S rt => ?_)
  subst hl; subst hg
  unfold f_X8_undo at hf
  show Go K 3 a M 0 [(0, .ref (a.2 0)), (1, .int p1)] []
  refine g_aload_n 0 S dX8_undo_0 rfl ?_
  refine g_iload_n 1 S dX8_undo_1 rfl ?_
  obtain ⟨r1, hr1, hf⟩ := bd1_some hf
  refine g_cVI (st := []) S ob_0 rfl ok_X8_isLine lk_X8_157 (c_X8_isLine hr1) rfl rfl ⟨by decide, by decide⟩ (rmD_z _) (Nat.le_of_ble_eq_true rfl) dX8_undo_2 ?_
  refine g_if_neB (tgt := 10) S dX8_undo_5 (by decide) hf (fun c hf => ?_) (fun c hf => ?_)
  · refine g_iconst (v := 0) S dX8_undo_10 rfl ?_
    refine g_istore_n (lv' := [(2, .int 0), (0, .ref (a.2 0)), (1, .int p1)]) S dX8_undo_11 (by decide) rfl ?_
    refine Go.sub [1, 2, 0] rfl ?_
    exact t_X8_undo_12  S rt 1000 _ _ hf
  · refine g_iconst (v := (-1)) S dX8_undo_8 rfl ?_
    exact g_iretP rt hf dX8_undo_9
-- BridleBookModel.unwind(I)I
theorem dX8_unwind_0 : decode cX8_unwind 0 = .ok (.iload_n 1, 1) := by decide +kernel
theorem dX8_unwind_1 : decode cX8_unwind 1 = .ok (.iconst 1, 1) := by decide +kernel
theorem dX8_unwind_2 : decode cX8_unwind 2 = .ok (.aload_n 0, 1) := by decide +kernel
theorem dX8_unwind_3 : decode cX8_unwind 3 = .ok (.getfield 227, 3) := by decide +kernel
theorem dX8_unwind_6 : decode cX8_unwind 6 = .ok (.invokestatic 111, 3) := by decide +kernel
theorem dX8_unwind_9 : decode cX8_unwind 9 = .ok (.ifCond .ne 5, 3) := by decide +kernel
theorem dX8_unwind_12 : decode cX8_unwind 12 = .ok (.iconst (-1), 1) := by decide +kernel
theorem dX8_unwind_13 : decode cX8_unwind 13 = .ok (.ireturn, 1) := by decide +kernel
theorem dX8_unwind_14 : decode cX8_unwind 14 = .ok (.aload_n 0, 1) := by decide +kernel
theorem dX8_unwind_15 : decode cX8_unwind 15 = .ok (.dup, 1) := by decide +kernel
theorem dX8_unwind_16 : decode cX8_unwind 16 = .ok (.getfield 227, 3) := by decide +kernel
theorem dX8_unwind_19 : decode cX8_unwind 19 = .ok (.iload_n 1, 1) := by decide +kernel
theorem dX8_unwind_20 : decode cX8_unwind 20 = .ok (.isub, 1) := by decide +kernel
theorem dX8_unwind_21 : decode cX8_unwind 21 = .ok (.putfield 227, 3) := by decide +kernel
theorem dX8_unwind_24 : decode cX8_unwind 24 = .ok (.aload_n 0, 1) := by decide +kernel
theorem dX8_unwind_25 : decode cX8_unwind 25 = .ok (.getfield 227, 3) := by decide +kernel
theorem dX8_unwind_28 : decode cX8_unwind 28 = .ok (.ireturn, 1) := by decide +kernel
def f_X8_unwind (z : Nat → Nat) (M : Mem) (p1 : Int32) : Option (Int32 × Mem) := bd1 (f_X8_in z M p1 1 (M 0 34)) (fun r1 => if r1 = true then some (((mu M 0 34 ((M 0 34) - p1)) 0 34), (mu M 0 34 ((M 0 34) - p1))) else some ((-1), M))
theorem c_X8_unwind {l : Launch} {G : GG} {a : AA} {M : Mem} {p1 : Int32} {r : Int32} {M' : Mem} (hf : f_X8_unwind a.1 M p1 = some (r, M')) : CtI l G a yX8_unwind cX8_unwind 2 .int (rmD 1) [.ref (a.2 0), .int p1] M r M' := by
  refine ct_I (by decide) rfl rfl (own := RX8) (Nat.le_of_ble_eq_true rfl) (fun K hl hg S rt => ?_)
  subst hl; subst hg
  unfold f_X8_unwind at hf
  show Go K 2 a M 0 [(0, .ref (a.2 0)), (1, .int p1)] []
  refine g_iload_n 1 S dX8_unwind_0 rfl ?_
  refine g_iconst (v := 1) S dX8_unwind_1 rfl ?_
  refine g_aload_n 0 S dX8_unwind_2 rfl ?_
  refine g_get (v := .int (M 0 34)) S ob_0 rfl gi_X8 (by decide) lf_X8_227 rfl dX8_unwind_3 ?_
  obtain ⟨r1, hr1, hf⟩ := bd1_some hf
  refine g_cSI (st := []) S ok_X8_in lk_X8_111 (c_X8_in hr1) rfl rfl ⟨by decide, by decide⟩ (rmD_z _) (Nat.le_of_ble_eq_true rfl) dX8_unwind_6 ?_
  refine g_if_neB (tgt := 14) S dX8_unwind_9 (by decide) hf (fun c hf => ?_) (fun c hf => ?_)
  · refine g_aload_n 0 S dX8_unwind_14 rfl ?_
    refine g_dup S dX8_unwind_15 rfl ?_
    refine g_get (v := .int (M 0 34)) S ob_0 rfl gi_X8 (by decide) lf_X8_227 rfl dX8_unwind_16 ?_
    refine g_iload_n 1 S dX8_unwind_19 rfl ?_
    refine g_isub S dX8_unwind_20 ?_
    refine g_put (ty := .int) S ob_0 rfl gi_X8 tyX8_ok nmX8 (by decide) lf_X8_227 rfl (by decide +kernel) rfl rfl (Nat.le_of_ble_eq_true rfl) rfl dX8_unwind_21 ?_
    refine g_aload_n 0 S dX8_unwind_24 rfl ?_
    refine g_get (v := .int ((mu M 0 34 ((M 0 34) - p1)) 0 34)) S ob_0 rfl gi_X8 (by decide) lf_X8_227 rfl dX8_unwind_25 ?_
    exact g_iretM rt hf dX8_unwind_28
  · refine g_iconst (v := (-1)) S dX8_unwind_12 rfl ?_
    exact g_iretM rt hf dX8_unwind_13
-- BridleBookModel.cut(III)I
theorem dX8_cut_0 : decode cX8_cut 0 = .ok (.aload_n 0, 1) := by decide +kernel
theorem dX8_cut_1 : decode cX8_cut 1 = .ok (.iload_n 1, 1) := by decide +kernel
theorem dX8_cut_2 : decode cX8_cut 2 = .ok (.invokevirtual 157, 3) := by decide +kernel
theorem dX8_cut_5 : decode cX8_cut 5 = .ok (.ifCond .eq 25, 3) := by decide +kernel
theorem dX8_cut_8 : decode cX8_cut 8 = .ok (.aload_n 0, 1) := by decide +kernel
theorem dX8_cut_9 : decode cX8_cut 9 = .ok (.iload_n 2, 1) := by decide +kernel
theorem dX8_cut_10 : decode cX8_cut 10 = .ok (.invokevirtual 157, 3) := by decide +kernel
theorem dX8_cut_13 : decode cX8_cut 13 = .ok (.ifCond .eq 17, 3) := by decide +kernel
theorem dX8_cut_16 : decode cX8_cut 16 = .ok (.iload_n 1, 1) := by decide +kernel
theorem dX8_cut_17 : decode cX8_cut 17 = .ok (.iload_n 2, 1) := by decide +kernel
theorem dX8_cut_18 : decode cX8_cut 18 = .ok (.if_icmp .eq 12, 3) := by decide +kernel
theorem dX8_cut_21 : decode cX8_cut 21 = .ok (.aload_n 0, 1) := by decide +kernel
theorem dX8_cut_22 : decode cX8_cut 22 = .ok (.iload_n 2, 1) := by decide +kernel
theorem dX8_cut_23 : decode cX8_cut 23 = .ok (.iload_n 3, 1) := by decide +kernel
theorem dX8_cut_24 : decode cX8_cut 24 = .ok (.invokevirtual 160, 3) := by decide +kernel
theorem dX8_cut_27 : decode cX8_cut 27 = .ok (.ifCond .ne 5, 3) := by decide +kernel
theorem dX8_cut_30 : decode cX8_cut 30 = .ok (.iconst (-1), 1) := by decide +kernel
theorem dX8_cut_31 : decode cX8_cut 31 = .ok (.ireturn, 1) := by decide +kernel
theorem dX8_cut_32 : decode cX8_cut 32 = .ok (.aload_n 0, 1) := by decide +kernel
theorem dX8_cut_33 : decode cX8_cut 33 = .ok (.iload_n 1, 1) := by decide +kernel
theorem dX8_cut_34 : decode cX8_cut 34 = .ok (.iload_n 2, 1) := by decide +kernel
theorem dX8_cut_35 : decode cX8_cut 35 = .ok (.invokevirtual 240, 3) := by decide +kernel
theorem dX8_cut_38 : decode cX8_cut 38 = .ok (.ifCond .ne 6, 3) := by decide +kernel
theorem dX8_cut_41 : decode cX8_cut 41 = .ok (.bipush (-2), 2) := by decide +kernel
theorem dX8_cut_43 : decode cX8_cut 43 = .ok (.ireturn, 1) := by decide +kernel
theorem dX8_cut_44 : decode cX8_cut 44 = .ok (.aload_n 0, 1) := by decide +kernel
theorem dX8_cut_45 : decode cX8_cut 45 = .ok (.iload_n 2, 1) := by decide +kernel
theorem dX8_cut_46 : decode cX8_cut 46 = .ok (.iload_n 3, 1) := by decide +kernel
theorem dX8_cut_47 : decode cX8_cut 47 = .ok (.invokevirtual 196, 3) := by decide +kernel
theorem dX8_cut_50 : decode cX8_cut 50 = .ok (.aload_n 0, 1) := by decide +kernel
theorem dX8_cut_51 : decode cX8_cut 51 = .ok (.getfield 227, 3) := by decide +kernel
theorem dX8_cut_54 : decode cX8_cut 54 = .ok (.istore 4, 2) := by decide +kernel
theorem dX8_cut_56 : decode cX8_cut 56 = .ok (.aload_n 0, 1) := by decide +kernel
theorem dX8_cut_57 : decode cX8_cut 57 = .ok (.iconst 0, 1) := by decide +kernel
theorem dX8_cut_58 : decode cX8_cut 58 = .ok (.putfield 227, 3) := by decide +kernel
theorem dX8_cut_61 : decode cX8_cut 61 = .ok (.iconst 0, 1) := by decide +kernel
theorem dX8_cut_62 : decode cX8_cut 62 = .ok (.istore 5, 2) := by decide +kernel
theorem dX8_cut_64 : decode cX8_cut 64 = .ok (.iload 5, 2) := by decide +kernel
theorem dX8_cut_66 : decode cX8_cut 66 = .ok (.iload 4, 2) := by decide +kernel
theorem dX8_cut_68 : decode cX8_cut 68 = .ok (.if_icmp .ge 44, 3) := by decide +kernel
theorem dX8_cut_71 : decode cX8_cut 71 = .ok (.aload_n 0, 1) := by decide +kernel
theorem dX8_cut_72 : decode cX8_cut 72 = .ok (.iload 5, 2) := by decide +kernel
theorem dX8_cut_74 : decode cX8_cut 74 = .ok (.iload_n 2, 1) := by decide +kernel
theorem dX8_cut_75 : decode cX8_cut 75 = .ok (.invokevirtual 243, 3) := by decide +kernel
theorem dX8_cut_78 : decode cX8_cut 78 = .ok (.ifCond .ne 28, 3) := by decide +kernel
theorem dX8_cut_81 : decode cX8_cut 81 = .ok (.aload_n 0, 1) := by decide +kernel
theorem dX8_cut_82 : decode cX8_cut 82 = .ok (.aload_n 0, 1) := by decide +kernel
theorem dX8_cut_83 : decode cX8_cut 83 = .ok (.getfield 99, 3) := by decide +kernel
theorem dX8_cut_86 : decode cX8_cut 86 = .ok (.iload 5, 2) := by decide +kernel
theorem dX8_cut_88 : decode cX8_cut 88 = .ok (.iaload, 1) := by decide +kernel
theorem dX8_cut_89 : decode cX8_cut 89 = .ok (.aload_n 0, 1) := by decide +kernel
theorem dX8_cut_90 : decode cX8_cut 90 = .ok (.getfield 102, 3) := by decide +kernel
theorem dX8_cut_93 : decode cX8_cut 93 = .ok (.iload 5, 2) := by decide +kernel
theorem dX8_cut_95 : decode cX8_cut 95 = .ok (.iaload, 1) := by decide +kernel
theorem dX8_cut_96 : decode cX8_cut 96 = .ok (.aload_n 0, 1) := by decide +kernel
theorem dX8_cut_97 : decode cX8_cut 97 = .ok (.getfield 105, 3) := by decide +kernel
theorem dX8_cut_100 : decode cX8_cut 100 = .ok (.iload 5, 2) := by decide +kernel
theorem dX8_cut_102 : decode cX8_cut 102 = .ok (.iaload, 1) := by decide +kernel
theorem dX8_cut_103 : decode cX8_cut 103 = .ok (.invokevirtual 236, 3) := by decide +kernel
theorem dX8_cut_106 : decode cX8_cut 106 = .ok (.iinc 5 1, 3) := by decide +kernel
theorem dX8_cut_109 : decode cX8_cut 109 = .ok (.goto (-45), 3) := by decide +kernel
theorem dX8_cut_112 : decode cX8_cut 112 = .ok (.aload_n 0, 1) := by decide +kernel
theorem dX8_cut_113 : decode cX8_cut 113 = .ok (.getfield 227, 3) := by decide +kernel
theorem dX8_cut_116 : decode cX8_cut 116 = .ok (.ireturn, 1) := by decide +kernel
def f_X8_cut_64 (z : Nat → Nat) : Nat → Mem → Int32 → Int32 → Int32 → Option (Int32 × Mem)
  | 0, _, _, _, _ => none
  | fu + 1, M, x2, x4, x5 => if x4 ≤ x5 then some ((M 0 34), M) else bd1 (f_X8_has z M x5 x2) (fun r6 => if r6 = true then f_X8_cut_64 z fu M x2 x4 (x5 + 1) else ck (inb x5 200) (ck (inb x5 200) (ck (inb x5 200) (bd1 (f_X8_wind0 z M (M 35 (Int32.toNatClampNeg x5)) (M 36 (Int32.toNatClampNeg x5)) (M 37 (Int32.toNatClampNeg x5))) (fun M7 => f_X8_cut_64 z fu M7 x2 x4 (x5 + 1))))))
theorem t_X8_cut_64 {K : KK} {a : AA} (S : Sx K RX8 cX8_cut 6 (rmD 2)) {r : Int32} {M' : Mem} (rt : RtI K a cX8_cut r M') : ∀ (fu : Nat) (M : Mem) (x2 : Int32) (x4 : Int32) (x5 : Int32), f_X8_cut_64 a.1 fu M x2 x4 x5 = some (r, M') → Go K 6 a M 64 [(0, .ref (a.2 0)), (2, .int x2), (4, .int x4), (5, .int x5)] [] := by
  intro fu
  induction fu with
  | zero => intro M x2 x4 x5 hf; exact absurd hf (by simp [f_X8_cut_64])
  | succ fu ih =>
    intro M x2 x4 x5 hf
    rw [f_X8_cut_64] at hf
    refine g_iload 3 S dX8_cut_64 rfl ?_
    refine g_iload 2 S dX8_cut_66 rfl ?_
    refine g_icmp_ge (tgt := 112) S dX8_cut_68 (by decide) hf (fun c hf => ?_) (fun c hf => ?_)
    · refine g_aload_n 0 S dX8_cut_112 rfl ?_
      refine g_get (v := .int (M 0 34)) S ob_0 rfl gi_X8 (by decide) lf_X8_227 rfl dX8_cut_113 ?_
      exact g_iretM rt hf dX8_cut_116
    · refine g_aload_n 0 S dX8_cut_71 rfl ?_
      refine g_iload 3 S dX8_cut_72 rfl ?_
      refine g_iload_n 1 S dX8_cut_74 rfl ?_
      obtain ⟨r6, hr6, hf⟩ := bd1_some hf
      refine g_cVI (st := []) S ob_0 rfl ok_X8_has lk_X8_243 (c_X8_has hr6) rfl rfl ⟨by decide, by decide⟩ (rmD_z _) (Nat.le_of_ble_eq_true rfl) dX8_cut_75 ?_
      refine g_if_neB (tgt := 106) S dX8_cut_78 (by decide) hf (fun c hf => ?_) (fun c hf => ?_)
      · refine g_iinc (v := (x5 + 1)) (lv' := [(5, .int (x5 + 1)), (0, .ref (a.2 0)), (2, .int x2), (4, .int x4)]) 3 S dX8_cut_106 rfl rfl (by decide) rfl ?_
        refine g_goto (tgt := 64) S dX8_cut_109 (by decide) ?_
        refine Go.sub [1, 2, 3, 0] rfl ?_
        exact ih _ _ _ _ hf
      · refine g_aload_n 0 S dX8_cut_81 rfl ?_
        refine g_aload_n 0 S dX8_cut_82 rfl ?_
        refine g_get (v := .ref (a.2 35)) S ob_0 rfl gi_X8 (by decide) lf_X8_99 rfl dX8_cut_83 ?_
        refine g_iload 3 S dX8_cut_86 rfl ?_
        refine g_iald S ia_35 dX8_cut_88 hf (fun hf => ?_)
        refine g_aload_n 0 S dX8_cut_89 rfl ?_
        refine g_get (v := .ref (a.2 36)) S ob_0 rfl gi_X8 (by decide) lf_X8_102 rfl dX8_cut_90 ?_
        refine g_iload 3 S dX8_cut_93 rfl ?_
        refine g_iald S ia_36 dX8_cut_95 hf (fun hf => ?_)
        refine g_aload_n 0 S dX8_cut_96 rfl ?_
        refine g_get (v := .ref (a.2 37)) S ob_0 rfl gi_X8 (by decide) lf_X8_105 rfl dX8_cut_97 ?_
        refine g_iload 3 S dX8_cut_100 rfl ?_
        refine g_iald S ia_37 dX8_cut_102 hf (fun hf => ?_)
        obtain ⟨M7, hM7, hf⟩ := bd1_some hf
        refine g_cVV (st := []) S ob_0 rfl ok_X8_wind0 lk_X8_236 (c_X8_wind0 hM7) rfl rfl ⟨by decide, by decide⟩ (rmD_z _) (Nat.le_of_ble_eq_true rfl) dX8_cut_103 ?_
        refine g_iinc (v := (x5 + 1)) (lv' := [(5, .int (x5 + 1)), (0, .ref (a.2 0)), (2, .int x2), (4, .int x4)]) 3 S dX8_cut_106 rfl rfl (by decide) rfl ?_
        refine g_goto (tgt := 64) S dX8_cut_109 (by decide) ?_
        refine Go.sub [1, 2, 3, 0] rfl ?_
        exact ih _ _ _ _ hf
def f_X8_cut (z : Nat → Nat) (M : Mem) (p1 : Int32) (p2 : Int32) (p3 : Int32) : Option (Int32 × Mem) := bd1 (f_X8_isLine z M p1) (fun r1 => if r1 = true then bd1 (f_X8_isLine z M p2) (fun r2 => if r2 = true then if p1 = p2 then some ((-1), M) else bd1 (f_X8_isStep z M p2 p3) (fun r3 => if r3 = true then bd1 (f_X8_turnsOf z M p1 p2) (fun r4 => if r4 = 0 then some ((-2), M) else bd1 (f_X8_end z M p2 p3) (fun M5 => f_X8_cut_64 z 1000 (mu M5 0 34 0) p2 (M5 0 34) 0)) else some ((-1), M)) else some ((-1), M)) else some ((-1), M))
theorem c_X8_cut {l : Launch} {G : GG} {a : AA} {M : Mem} {p1 : Int32} {p2 : Int32} {p3 : Int32} {r : Int32} {M' : Mem} (hf : f_X8_cut a.1 M p1 p2 p3 = some (r, M')) : CtI l G a yX8_cut cX8_cut 6 .int (rmD 2) [.ref (a.2 0), .int p1, .int p2, .int p3] M r M' := by
  refine ct_I (by decide) rfl rfl (own := RX8) (Nat.le_of_ble_eq_true rfl) (fun K hl hg S rt => ?_)
  subst hl; subst hg
  unfold f_X8_cut at hf
  show Go K 6 a M 0 [(0, .ref (a.2 0)), (1, .int p1), (2, .int p2), (3, .int p3)] []
  refine g_aload_n 0 S dX8_cut_0 rfl ?_
  refine g_iload_n 1 S dX8_cut_1 rfl ?_
  obtain ⟨r1, hr1, hf⟩ := bd1_some hf
  refine g_cVI (st := []) S ob_0 rfl ok_X8_isLine lk_X8_157 (c_X8_isLine hr1) rfl rfl ⟨by decide, by decide⟩ (rmD_z _) (Nat.le_of_ble_eq_true rfl) dX8_cut_2 ?_
  refine g_if_eqB (tgt := 30) S dX8_cut_5 (by decide) hf (fun c hf => ?_) (fun c hf => ?_)
  · refine g_aload_n 0 S dX8_cut_8 rfl ?_
    refine g_iload_n 2 S dX8_cut_9 rfl ?_
    obtain ⟨r2, hr2, hf⟩ := bd1_some hf
    refine g_cVI (st := []) S ob_0 rfl ok_X8_isLine lk_X8_157 (c_X8_isLine hr2) rfl rfl ⟨by decide, by decide⟩ (rmD_z _) (Nat.le_of_ble_eq_true rfl) dX8_cut_10 ?_
    refine g_if_eqB (tgt := 30) S dX8_cut_13 (by decide) hf (fun c hf => ?_) (fun c hf => ?_)
    · refine g_iload_n 1 S dX8_cut_16 rfl ?_
      refine g_iload_n 2 S dX8_cut_17 rfl ?_
      refine g_icmp_eq (tgt := 30) S dX8_cut_18 (by decide) hf (fun c hf => ?_) (fun c hf => ?_)
      · refine g_iconst (v := (-1)) S dX8_cut_30 rfl ?_
        exact g_iretM rt hf dX8_cut_31
      · refine g_aload_n 0 S dX8_cut_21 rfl ?_
        refine g_iload_n 2 S dX8_cut_22 rfl ?_
        refine g_iload_n 3 S dX8_cut_23 rfl ?_
        obtain ⟨r3, hr3, hf⟩ := bd1_some hf
        refine g_cVI (st := []) S ob_0 rfl ok_X8_isStep lk_X8_160 (c_X8_isStep hr3) rfl rfl ⟨by decide, by decide⟩ (rmD_z _) (Nat.le_of_ble_eq_true rfl) dX8_cut_24 ?_
        refine g_if_neB (tgt := 32) S dX8_cut_27 (by decide) hf (fun c hf => ?_) (fun c hf => ?_)
        · refine g_aload_n 0 S dX8_cut_32 rfl ?_
          refine g_iload_n 1 S dX8_cut_33 rfl ?_
          refine g_iload_n 2 S dX8_cut_34 rfl ?_
          obtain ⟨r4, hr4, hf⟩ := bd1_some hf
          refine g_cVI (st := []) S ob_0 rfl ok_X8_turnsOf lk_X8_240 (c_X8_turnsOf hr4) rfl rfl ⟨by decide, by decide⟩ (rmD_z _) (Nat.le_of_ble_eq_true rfl) dX8_cut_35 ?_
          refine g_if_ne (tgt := 44) S dX8_cut_38 (by decide) hf (fun c hf => ?_) (fun c hf => ?_)
          · refine g_bipush (v := (-2)) S dX8_cut_41 rfl ?_
            exact g_iretM rt hf dX8_cut_43
          · refine g_aload_n 0 S dX8_cut_44 rfl ?_
            refine g_iload_n 2 S dX8_cut_45 rfl ?_
            refine g_iload_n 3 S dX8_cut_46 rfl ?_
            obtain ⟨M5, hM5, hf⟩ := bd1_some hf
            refine g_cVV (st := []) S ob_0 rfl ok_X8_end lk_X8_196 (c_X8_end hM5) rfl rfl ⟨by decide, by decide⟩ (rmD_z _) (Nat.le_of_ble_eq_true rfl) dX8_cut_47 ?_
            refine g_aload_n 0 S dX8_cut_50 rfl ?_
            refine g_get (v := .int (M5 0 34)) S ob_0 rfl gi_X8 (by decide) lf_X8_227 rfl dX8_cut_51 ?_
            refine g_istore (lv' := [(4, .int (M5 0 34)), (0, .ref (a.2 0)), (1, .int p1), (2, .int p2), (3, .int p3)]) S dX8_cut_54 (by decide) rfl ?_
            refine g_aload_n 1 S dX8_cut_56 rfl ?_
            refine g_iconst (v := 0) S dX8_cut_57 rfl ?_
            refine g_put (ty := .int) S ob_0 rfl gi_X8 tyX8_ok nmX8 (by decide) lf_X8_227 rfl (by decide +kernel) rfl rfl (Nat.le_of_ble_eq_true rfl) rfl dX8_cut_58 ?_
            refine g_iconst (v := 0) S dX8_cut_61 rfl ?_
            refine g_istore (lv' := [(5, .int 0), (4, .int (M5 0 34)), (0, .ref (a.2 0)), (1, .int p1), (2, .int p2), (3, .int p3)]) S dX8_cut_62 (by decide) rfl ?_
            refine Go.sub [2, 4, 1, 0] rfl ?_
            exact t_X8_cut_64  S rt 1000 _ _ _ _ hf
        · refine g_iconst (v := (-1)) S dX8_cut_30 rfl ?_
          exact g_iretM rt hf dX8_cut_31
    · refine g_iconst (v := (-1)) S dX8_cut_30 rfl ?_
      exact g_iretM rt hf dX8_cut_31
  · refine g_iconst (v := (-1)) S dX8_cut_30 rfl ?_
    exact g_iretM rt hf dX8_cut_31
