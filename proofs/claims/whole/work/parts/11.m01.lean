-- BridleBook$Line.hasKnotAt(I)Z
theorem dX3_hasKnotAt_0 : decode cX3_hasKnotAt 0 = .ok (.iconst 0, 1) := by decide +kernel
theorem dX3_hasKnotAt_1 : decode cX3_hasKnotAt 1 = .ok (.istore_n 2, 1) := by decide +kernel
theorem dX3_hasKnotAt_2 : decode cX3_hasKnotAt 2 = .ok (.iload_n 2, 1) := by decide +kernel
theorem dX3_hasKnotAt_3 : decode cX3_hasKnotAt 3 = .ok (.aload_n 0, 1) := by decide +kernel
theorem dX3_hasKnotAt_4 : decode cX3_hasKnotAt 4 = .ok (.getfield 15, 3) := by decide +kernel
theorem dX3_hasKnotAt_7 : decode cX3_hasKnotAt 7 = .ok (.if_icmp .ge 21, 3) := by decide +kernel
theorem dX3_hasKnotAt_10 : decode cX3_hasKnotAt 10 = .ok (.aload_n 0, 1) := by decide +kernel
theorem dX3_hasKnotAt_11 : decode cX3_hasKnotAt 11 = .ok (.getfield 9, 3) := by decide +kernel
theorem dX3_hasKnotAt_14 : decode cX3_hasKnotAt 14 = .ok (.iload_n 2, 1) := by decide +kernel
theorem dX3_hasKnotAt_15 : decode cX3_hasKnotAt 15 = .ok (.iaload, 1) := by decide +kernel
theorem dX3_hasKnotAt_16 : decode cX3_hasKnotAt 16 = .ok (.iload_n 1, 1) := by decide +kernel
theorem dX3_hasKnotAt_17 : decode cX3_hasKnotAt 17 = .ok (.if_icmp .ne 5, 3) := by decide +kernel
theorem dX3_hasKnotAt_20 : decode cX3_hasKnotAt 20 = .ok (.iconst 1, 1) := by decide +kernel
theorem dX3_hasKnotAt_21 : decode cX3_hasKnotAt 21 = .ok (.ireturn, 1) := by decide +kernel
theorem dX3_hasKnotAt_22 : decode cX3_hasKnotAt 22 = .ok (.iinc 2 1, 3) := by decide +kernel
theorem dX3_hasKnotAt_25 : decode cX3_hasKnotAt 25 = .ok (.goto (-23), 3) := by decide +kernel
theorem dX3_hasKnotAt_28 : decode cX3_hasKnotAt 28 = .ok (.iconst 0, 1) := by decide +kernel
theorem dX3_hasKnotAt_29 : decode cX3_hasKnotAt 29 = .ok (.ireturn, 1) := by decide +kernel
def f_X3_hasKnotAt_2 (z : Nat → Nat) (u0 : Nat) (M : Mem) : Nat → Int32 → Int32 → Option Bool
  | 0, _, _ => none
  | fu + 1, x1, x2 => if (M u0 4) ≤ x2 then some false else ck (inb x2 10) (if (M (u0 + 1) (Int32.toNatClampNeg x2)) = x1 then some true else f_X3_hasKnotAt_2 z u0 M fu x1 (x2 + 1))
theorem t_X3_hasKnotAt_2 {K : KK} {a : AA} {u0 : Nat} (hu0 : vL a.1 u0) (S : Sx K RX3 cX3_hasKnotAt 3 (rmD 0)) {r : Bool} {M : Mem} (rt : RtI K a cX3_hasKnotAt (b2i r) M) : ∀ (fu : Nat) (x1 : Int32) (x2 : Int32), f_X3_hasKnotAt_2 a.1 u0 M fu x1 x2 = some r → Go K 3 a M 2 [(0, .ref (a.2 u0)), (1, .int x1), (2, .int x2)] [] := by
  intro fu
  induction fu with
  | zero => intro x1 x2 hf; exact absurd hf (by simp [f_X3_hasKnotAt_2])
  | succ fu ih =>
    intro x1 x2 hf
    rw [f_X3_hasKnotAt_2] at hf
    refine g_iload_n 2 S dX3_hasKnotAt_2 rfl ?_
    refine g_aload_n 0 S dX3_hasKnotAt_3 rfl ?_
    refine g_get (v := .int (M u0 4)) S (ob_L hu0) rfl gi_X3 (by decide) lf_X3_15 rfl dX3_hasKnotAt_4 ?_
    refine g_icmp_ge (tgt := 28) S dX3_hasKnotAt_7 (by decide) hf (fun c hf => ?_) (fun c hf => ?_)
    · refine g_iconst (v := 0) S dX3_hasKnotAt_28 rfl ?_
      exact g_zretP rt hf dX3_hasKnotAt_29 rfl
    · refine g_aload_n 0 S dX3_hasKnotAt_10 rfl ?_
      refine g_get (v := .ref (a.2 (u0 + 1))) S (ob_L hu0) rfl gi_X3 (by decide) lf_X3_9 rfl dX3_hasKnotAt_11 ?_
      refine g_iload_n 2 S dX3_hasKnotAt_14 rfl ?_
      refine g_iald S (ia_L1 hu0) dX3_hasKnotAt_15 hf (fun hf => ?_)
      refine g_iload_n 1 S dX3_hasKnotAt_16 rfl ?_
      refine g_icmp_ne (tgt := 22) S dX3_hasKnotAt_17 (by decide) hf (fun c hf => ?_) (fun c hf => ?_)
      · refine g_iconst (v := 1) S dX3_hasKnotAt_20 rfl ?_
        exact g_zretP rt hf dX3_hasKnotAt_21 rfl
      · refine g_iinc (v := (x2 + 1)) (lv' := [(2, .int (x2 + 1)), (0, .ref (a.2 u0)), (1, .int x1)]) 2 S dX3_hasKnotAt_22 rfl rfl (by decide) rfl ?_
        refine g_goto (tgt := 2) S dX3_hasKnotAt_25 (by decide) ?_
        refine Go.sub [1, 2, 0] rfl ?_
        exact ih _ _ hf
def f_X3_hasKnotAt (z : Nat → Nat) (u0 : Nat) (M : Mem) (p1 : Int32) : Option Bool := f_X3_hasKnotAt_2 z u0 M 1000 p1 0
theorem c_X3_hasKnotAt {l : Launch} {G : GG} {a : AA} {u0 : Nat} (hu0 : vL a.1 u0) {M : Mem} {p1 : Int32} {r : Bool} (hf : f_X3_hasKnotAt a.1 u0 M p1 = some r) : CtI l G a yX3_hasKnotAt cX3_hasKnotAt 3 .boolean (rmD 0) [.ref (a.2 u0), .int p1] M (b2i r) M := by
  refine ct_I (by decide) rfl (b2i_n _) (own := RX3) (Nat.le_of_ble_eq_true rfl) (fun K hl hg S rt => ?_)
  subst hl; subst hg
  unfold f_X3_hasKnotAt at hf
  show Go K 3 a M 0 [(0, .ref (a.2 u0)), (1, .int p1)] []
  refine g_iconst (v := 0) S dX3_hasKnotAt_0 rfl ?_
  refine g_istore_n (lv' := [(2, .int 0), (0, .ref (a.2 u0)), (1, .int p1)]) S dX3_hasKnotAt_1 (by decide) rfl ?_
  refine Go.sub [1, 2, 0] rfl ?_
  exact t_X3_hasKnotAt_2 hu0 S rt 1000 _ _ hf
-- BridleBook$Line.addKnot(I)I
theorem dX3_addKnot_0 : decode cX3_addKnot 0 = .ok (.aload_n 0, 1) := by decide +kernel
theorem dX3_addKnot_1 : decode cX3_addKnot 1 = .ok (.getfield 15, 3) := by decide +kernel
theorem dX3_addKnot_4 : decode cX3_addKnot 4 = .ok (.bipush 10, 2) := by decide +kernel
theorem dX3_addKnot_6 : decode cX3_addKnot 6 = .ok (.if_icmp .lt 6, 3) := by decide +kernel
theorem dX3_addKnot_9 : decode cX3_addKnot 9 = .ok (.bipush (-3), 2) := by decide +kernel
theorem dX3_addKnot_11 : decode cX3_addKnot 11 = .ok (.ireturn, 1) := by decide +kernel
theorem dX3_addKnot_12 : decode cX3_addKnot 12 = .ok (.aload_n 0, 1) := by decide +kernel
theorem dX3_addKnot_13 : decode cX3_addKnot 13 = .ok (.getfield 9, 3) := by decide +kernel
theorem dX3_addKnot_16 : decode cX3_addKnot 16 = .ok (.aload_n 0, 1) := by decide +kernel
theorem dX3_addKnot_17 : decode cX3_addKnot 17 = .ok (.getfield 15, 3) := by decide +kernel
theorem dX3_addKnot_20 : decode cX3_addKnot 20 = .ok (.iload_n 1, 1) := by decide +kernel
theorem dX3_addKnot_21 : decode cX3_addKnot 21 = .ok (.iastore, 1) := by decide +kernel
theorem dX3_addKnot_22 : decode cX3_addKnot 22 = .ok (.aload_n 0, 1) := by decide +kernel
theorem dX3_addKnot_23 : decode cX3_addKnot 23 = .ok (.dup, 1) := by decide +kernel
theorem dX3_addKnot_24 : decode cX3_addKnot 24 = .ok (.getfield 15, 3) := by decide +kernel
theorem dX3_addKnot_27 : decode cX3_addKnot 27 = .ok (.iconst 1, 1) := by decide +kernel
theorem dX3_addKnot_28 : decode cX3_addKnot 28 = .ok (.iadd, 1) := by decide +kernel
theorem dX3_addKnot_29 : decode cX3_addKnot 29 = .ok (.putfield 15, 3) := by decide +kernel
theorem dX3_addKnot_32 : decode cX3_addKnot 32 = .ok (.aload_n 0, 1) := by decide +kernel
theorem dX3_addKnot_33 : decode cX3_addKnot 33 = .ok (.getfield 15, 3) := by decide +kernel
theorem dX3_addKnot_36 : decode cX3_addKnot 36 = .ok (.ireturn, 1) := by decide +kernel
def f_X3_addKnot (z : Nat → Nat) (u0 : Nat) (M : Mem) (p1 : Int32) : Option (Int32 × Mem) := if (M u0 4) < 10 then ck (inb (M u0 4) 10) (lt (mu (mu M (u0 + 1) (Int32.toNatClampNeg (M u0 4)) p1) u0 4 (((mu M (u0 + 1) (Int32.toNatClampNeg (M u0 4)) p1) u0 4) + 1)) (fun M1 => some ((M1 u0 4), M1))) else some ((-3), M)
theorem c_X3_addKnot {l : Launch} {G : GG} {a : AA} {u0 : Nat} (hu0 : vL a.1 u0) {M : Mem} {p1 : Int32} {r : Int32} {M' : Mem} (hf : f_X3_addKnot a.1 u0 M p1 = some (r, M')) : CtI l G a yX3_addKnot cX3_addKnot 2 .int (rmD 0) [.ref (a.2 u0), .int p1] M r M' := by
  refine ct_I (by decide) rfl rfl (own := RX3) (Nat.le_of_ble_eq_true rfl) (fun K hl hg S rt => ?_)
  subst hl; subst hg
  unfold f_X3_addKnot at hf
  show Go K 2 a M 0 [(0, .ref (a.2 u0)), (1, .int p1)] []
  refine g_aload_n 0 S dX3_addKnot_0 rfl ?_
  refine g_get (v := .int (M u0 4)) S (ob_L hu0) rfl gi_X3 (by decide) lf_X3_15 rfl dX3_addKnot_1 ?_
  refine g_bipush (v := 10) S dX3_addKnot_4 rfl ?_
  refine g_icmp_lt (tgt := 12) S dX3_addKnot_6 (by decide) hf (fun c hf => ?_) (fun c hf => ?_)
  · refine g_aload_n 0 S dX3_addKnot_12 rfl ?_
    refine g_get (v := .ref (a.2 (u0 + 1))) S (ob_L hu0) rfl gi_X3 (by decide) lf_X3_9 rfl dX3_addKnot_13 ?_
    refine g_aload_n 0 S dX3_addKnot_16 rfl ?_
    refine g_get (v := .int (M u0 4)) S (ob_L hu0) rfl gi_X3 (by decide) lf_X3_15 rfl dX3_addKnot_17 ?_
    refine g_iload_n 1 S dX3_addKnot_20 rfl ?_
    refine g_iast S (ia_L1 hu0) dX3_addKnot_21 hf (fun hf => ?_)
    refine g_aload_n 0 S dX3_addKnot_22 rfl ?_
    refine g_dup S dX3_addKnot_23 rfl ?_
    refine g_get (v := .int ((mu M (u0 + 1) (Int32.toNatClampNeg (M u0 4)) p1) u0 4)) S (ob_L hu0) rfl gi_X3 (by decide) lf_X3_15 rfl dX3_addKnot_24 ?_
    refine g_iconst (v := 1) S dX3_addKnot_27 rfl ?_
    refine g_iadd S dX3_addKnot_28 ?_
    refine g_put (ty := .int) S (ob_L hu0) rfl gi_X3 tyX3_ok nmX3 (by decide) lf_X3_15 rfl (by decide +kernel) rfl rfl (Nat.le_of_ble_eq_true rfl) rfl dX3_addKnot_29 ?_
    obtain ⟨M1, eM1, hf⟩ := lt_some hf
    refine Go.M eM1 ?_
    refine g_aload_n 0 S dX3_addKnot_32 rfl ?_
    refine g_get (v := .int (M1 u0 4)) S (ob_L hu0) rfl gi_X3 (by decide) lf_X3_15 rfl dX3_addKnot_33 ?_
    exact g_iretM rt hf dX3_addKnot_36
  · refine g_bipush (v := (-3)) S dX3_addKnot_9 rfl ?_
    exact g_iretM rt hf dX3_addKnot_11
-- BridleBook$Line.strengthAt(I)I
theorem dX3_strengthAt_0 : decode cX3_strengthAt 0 = .ok (.aload_n 0, 1) := by decide +kernel
theorem dX3_strengthAt_1 : decode cX3_strengthAt 1 = .ok (.iload_n 1, 1) := by decide +kernel
theorem dX3_strengthAt_2 : decode cX3_strengthAt 2 = .ok (.invokevirtual 28, 3) := by decide +kernel
theorem dX3_strengthAt_5 : decode cX3_strengthAt 5 = .ok (.ifCond .eq 14, 3) := by decide +kernel
theorem dX3_strengthAt_8 : decode cX3_strengthAt 8 = .ok (.aload_n 0, 1) := by decide +kernel
theorem dX3_strengthAt_9 : decode cX3_strengthAt 9 = .ok (.getfield 22, 3) := by decide +kernel
theorem dX3_strengthAt_12 : decode cX3_strengthAt 12 = .ok (.iconst 3, 1) := by decide +kernel
theorem dX3_strengthAt_13 : decode cX3_strengthAt 13 = .ok (.imul, 1) := by decide +kernel
theorem dX3_strengthAt_14 : decode cX3_strengthAt 14 = .ok (.iconst 4, 1) := by decide +kernel
theorem dX3_strengthAt_15 : decode cX3_strengthAt 15 = .ok (.idiv, 1) := by decide +kernel
theorem dX3_strengthAt_16 : decode cX3_strengthAt 16 = .ok (.goto 7, 3) := by decide +kernel
theorem dX3_strengthAt_19 : decode cX3_strengthAt 19 = .ok (.aload_n 0, 1) := by decide +kernel
theorem dX3_strengthAt_20 : decode cX3_strengthAt 20 = .ok (.getfield 22, 3) := by decide +kernel
theorem dX3_strengthAt_23 : decode cX3_strengthAt 23 = .ok (.ireturn, 1) := by decide +kernel
def f_X3_strengthAt (z : Nat → Nat) (u0 : Nat) (M : Mem) (p1 : Int32) : Option Int32 := bd1 (f_X3_hasKnotAt z u0 M p1) (fun r1 => if r1 = true then some (((M u0 1) * 3) / 4) else some (M u0 1))
theorem c_X3_strengthAt {l : Launch} {G : GG} {a : AA} {u0 : Nat} (hu0 : vL a.1 u0) {M : Mem} {p1 : Int32} {r : Int32} (hf : f_X3_strengthAt a.1 u0 M p1 = some r) : CtI l G a yX3_strengthAt cX3_strengthAt 2 .int (rmD 1) [.ref (a.2 u0), .int p1] M r M := by
  refine ct_I (by decide) rfl rfl (own := RX3) (Nat.le_of_ble_eq_true rfl) (fun K hl hg S rt => ?_)
  subst hl; subst hg
  unfold f_X3_strengthAt at hf
  show Go K 2 a M 0 [(0, .ref (a.2 u0)), (1, .int p1)] []
  refine g_aload_n 0 S dX3_strengthAt_0 rfl ?_
  refine g_iload_n 1 S dX3_strengthAt_1 rfl ?_
  obtain ⟨r1, hr1, hf⟩ := bd1_some hf
  refine g_cVI (st := []) S (ob_L hu0) rfl ok_X3_hasKnotAt lk_X3_28 (c_X3_hasKnotAt hu0 hr1) rfl rfl ⟨by decide, by decide⟩ (rmD_z _) (Nat.le_of_ble_eq_true rfl) dX3_strengthAt_2 ?_
  refine g_if_eqB (tgt := 19) S dX3_strengthAt_5 (by decide) hf (fun c hf => ?_) (fun c hf => ?_)
  · refine g_aload_n 0 S dX3_strengthAt_8 rfl ?_
    refine g_get (v := .int (M u0 1)) S (ob_L hu0) rfl gi_X3 (by decide) lf_X3_22 rfl dX3_strengthAt_9 ?_
    refine g_iconst (v := 3) S dX3_strengthAt_12 rfl ?_
    refine g_imul S dX3_strengthAt_13 ?_
    refine g_iconst (v := 4) S dX3_strengthAt_14 rfl ?_
    refine g_idiv S dX3_strengthAt_15 (by decide) ?_
    refine g_goto (tgt := 23) S dX3_strengthAt_16 (by decide) ?_
    exact g_iretP rt hf dX3_strengthAt_23
  · refine g_aload_n 0 S dX3_strengthAt_19 rfl ?_
    refine g_get (v := .int (M u0 1)) S (ob_L hu0) rfl gi_X3 (by decide) lf_X3_22 rfl dX3_strengthAt_20 ?_
    exact g_iretP rt hf dX3_strengthAt_23
-- BridleBook$Line.shortenTo(I)V
theorem dX3_shortenTo_0 : decode cX3_shortenTo 0 = .ok (.aload_n 0, 1) := by decide +kernel
theorem dX3_shortenTo_1 : decode cX3_shortenTo 1 = .ok (.iload_n 1, 1) := by decide +kernel
theorem dX3_shortenTo_2 : decode cX3_shortenTo 2 = .ok (.putfield 19, 3) := by decide +kernel
theorem dX3_shortenTo_5 : decode cX3_shortenTo 5 = .ok (.iconst 0, 1) := by decide +kernel
theorem dX3_shortenTo_6 : decode cX3_shortenTo 6 = .ok (.istore_n 2, 1) := by decide +kernel
theorem dX3_shortenTo_7 : decode cX3_shortenTo 7 = .ok (.iconst 0, 1) := by decide +kernel
theorem dX3_shortenTo_8 : decode cX3_shortenTo 8 = .ok (.istore_n 3, 1) := by decide +kernel
theorem dX3_shortenTo_9 : decode cX3_shortenTo 9 = .ok (.iload_n 3, 1) := by decide +kernel
theorem dX3_shortenTo_10 : decode cX3_shortenTo 10 = .ok (.aload_n 0, 1) := by decide +kernel
theorem dX3_shortenTo_11 : decode cX3_shortenTo 11 = .ok (.getfield 15, 3) := by decide +kernel
theorem dX3_shortenTo_14 : decode cX3_shortenTo 14 = .ok (.if_icmp .ge 34, 3) := by decide +kernel
theorem dX3_shortenTo_17 : decode cX3_shortenTo 17 = .ok (.aload_n 0, 1) := by decide +kernel
theorem dX3_shortenTo_18 : decode cX3_shortenTo 18 = .ok (.getfield 9, 3) := by decide +kernel
theorem dX3_shortenTo_21 : decode cX3_shortenTo 21 = .ok (.iload_n 3, 1) := by decide +kernel
theorem dX3_shortenTo_22 : decode cX3_shortenTo 22 = .ok (.iaload, 1) := by decide +kernel
theorem dX3_shortenTo_23 : decode cX3_shortenTo 23 = .ok (.iload_n 1, 1) := by decide +kernel
theorem dX3_shortenTo_24 : decode cX3_shortenTo 24 = .ok (.if_icmp .gt 18, 3) := by decide +kernel
theorem dX3_shortenTo_27 : decode cX3_shortenTo 27 = .ok (.aload_n 0, 1) := by decide +kernel
theorem dX3_shortenTo_28 : decode cX3_shortenTo 28 = .ok (.getfield 9, 3) := by decide +kernel
theorem dX3_shortenTo_31 : decode cX3_shortenTo 31 = .ok (.iload_n 2, 1) := by decide +kernel
theorem dX3_shortenTo_32 : decode cX3_shortenTo 32 = .ok (.aload_n 0, 1) := by decide +kernel
theorem dX3_shortenTo_33 : decode cX3_shortenTo 33 = .ok (.getfield 9, 3) := by decide +kernel
theorem dX3_shortenTo_36 : decode cX3_shortenTo 36 = .ok (.iload_n 3, 1) := by decide +kernel
theorem dX3_shortenTo_37 : decode cX3_shortenTo 37 = .ok (.iaload, 1) := by decide +kernel
theorem dX3_shortenTo_38 : decode cX3_shortenTo 38 = .ok (.iastore, 1) := by decide +kernel
theorem dX3_shortenTo_39 : decode cX3_shortenTo 39 = .ok (.iinc 2 1, 3) := by decide +kernel
theorem dX3_shortenTo_42 : decode cX3_shortenTo 42 = .ok (.iinc 3 1, 3) := by decide +kernel
theorem dX3_shortenTo_45 : decode cX3_shortenTo 45 = .ok (.goto (-36), 3) := by decide +kernel
theorem dX3_shortenTo_48 : decode cX3_shortenTo 48 = .ok (.aload_n 0, 1) := by decide +kernel
theorem dX3_shortenTo_49 : decode cX3_shortenTo 49 = .ok (.iload_n 2, 1) := by decide +kernel
theorem dX3_shortenTo_50 : decode cX3_shortenTo 50 = .ok (.putfield 15, 3) := by decide +kernel
theorem dX3_shortenTo_53 : decode cX3_shortenTo 53 = .ok (.return_, 1) := by decide +kernel
def f_X3_shortenTo_9 (z : Nat → Nat) (u0 : Nat) : Nat → Mem → Int32 → Int32 → Int32 → Option Mem
  | 0, _, _, _, _ => none
  | fu + 1, M, x1, x2, x3 => if (M u0 4) ≤ x3 then some (mu M u0 4 x2) else ck (inb x3 10) (if x1 < (M (u0 + 1) (Int32.toNatClampNeg x3)) then f_X3_shortenTo_9 z u0 fu M x1 x2 (x3 + 1) else ck (inb x3 10) (ck (inb x2 10) (lt (mu M (u0 + 1) (Int32.toNatClampNeg x2) (M (u0 + 1) (Int32.toNatClampNeg x3))) (fun M1 => f_X3_shortenTo_9 z u0 fu M1 x1 (x2 + 1) (x3 + 1)))))
theorem t_X3_shortenTo_9 {K : KK} {a : AA} {u0 : Nat} (hu0 : vL a.1 u0) (S : Sx K RX3 cX3_shortenTo 4 (rmD 0))  {M' : Mem} (rt : RtV K a cX3_shortenTo M') : ∀ (fu : Nat) (M : Mem) (x1 : Int32) (x2 : Int32) (x3 : Int32), f_X3_shortenTo_9 a.1 u0 fu M x1 x2 x3 = some M' → Go K 4 a M 9 [(0, .ref (a.2 u0)), (1, .int x1), (2, .int x2), (3, .int x3)] [] := by
  intro fu
  induction fu with
  | zero => intro M x1 x2 x3 hf; exact absurd hf (by simp [f_X3_shortenTo_9])
  | succ fu ih =>
    intro M x1 x2 x3 hf
    rw [f_X3_shortenTo_9] at hf
    refine g_iload_n 3 S dX3_shortenTo_9 rfl ?_
    refine g_aload_n 0 S dX3_shortenTo_10 rfl ?_
    refine g_get (v := .int (M u0 4)) S (ob_L hu0) rfl gi_X3 (by decide) lf_X3_15 rfl dX3_shortenTo_11 ?_
    refine g_icmp_ge (tgt := 48) S dX3_shortenTo_14 (by decide) hf (fun c hf => ?_) (fun c hf => ?_)
    · refine g_aload_n 0 S dX3_shortenTo_48 rfl ?_
      refine g_iload_n 2 S dX3_shortenTo_49 rfl ?_
      refine g_put (ty := .int) S (ob_L hu0) rfl gi_X3 tyX3_ok nmX3 (by decide) lf_X3_15 rfl (by decide +kernel) rfl rfl (Nat.le_of_ble_eq_true rfl) rfl dX3_shortenTo_50 ?_
      exact g_vretM rt hf dX3_shortenTo_53
    · refine g_aload_n 0 S dX3_shortenTo_17 rfl ?_
      refine g_get (v := .ref (a.2 (u0 + 1))) S (ob_L hu0) rfl gi_X3 (by decide) lf_X3_9 rfl dX3_shortenTo_18 ?_
      refine g_iload_n 3 S dX3_shortenTo_21 rfl ?_
      refine g_iald S (ia_L1 hu0) dX3_shortenTo_22 hf (fun hf => ?_)
      refine g_iload_n 1 S dX3_shortenTo_23 rfl ?_
      refine g_icmp_gt (tgt := 42) S dX3_shortenTo_24 (by decide) hf (fun c hf => ?_) (fun c hf => ?_)
      · refine g_iinc (v := (x3 + 1)) (lv' := [(3, .int (x3 + 1)), (0, .ref (a.2 u0)), (1, .int x1), (2, .int x2)]) 3 S dX3_shortenTo_42 rfl rfl (by decide) rfl ?_
        refine g_goto (tgt := 9) S dX3_shortenTo_45 (by decide) ?_
        refine Go.sub [1, 2, 3, 0] rfl ?_
        exact ih _ _ _ _ hf
      · refine g_aload_n 0 S dX3_shortenTo_27 rfl ?_
        refine g_get (v := .ref (a.2 (u0 + 1))) S (ob_L hu0) rfl gi_X3 (by decide) lf_X3_9 rfl dX3_shortenTo_28 ?_
        refine g_iload_n 2 S dX3_shortenTo_31 rfl ?_
        refine g_aload_n 0 S dX3_shortenTo_32 rfl ?_
        refine g_get (v := .ref (a.2 (u0 + 1))) S (ob_L hu0) rfl gi_X3 (by decide) lf_X3_9 rfl dX3_shortenTo_33 ?_
        refine g_iload_n 3 S dX3_shortenTo_36 rfl ?_
        refine g_iald S (ia_L1 hu0) dX3_shortenTo_37 hf (fun hf => ?_)
        refine g_iast S (ia_L1 hu0) dX3_shortenTo_38 hf (fun hf => ?_)
        obtain ⟨M1, eM1, hf⟩ := lt_some hf
        refine Go.M eM1 ?_
        refine g_iinc (v := (x2 + 1)) (lv' := [(2, .int (x2 + 1)), (0, .ref (a.2 u0)), (1, .int x1), (3, .int x3)]) 2 S dX3_shortenTo_39 rfl rfl (by decide) rfl ?_
        refine g_iinc (v := (x3 + 1)) (lv' := [(3, .int (x3 + 1)), (2, .int (x2 + 1)), (0, .ref (a.2 u0)), (1, .int x1)]) 3 S dX3_shortenTo_42 rfl rfl (by decide) rfl ?_
        refine g_goto (tgt := 9) S dX3_shortenTo_45 (by decide) ?_
        refine Go.sub [2, 3, 1, 0] rfl ?_
        exact ih _ _ _ _ hf
def f_X3_shortenTo (z : Nat → Nat) (u0 : Nat) (M : Mem) (p1 : Int32) : Option Mem := f_X3_shortenTo_9 z u0 1000 (mu M u0 0 p1) p1 0 0
theorem c_X3_shortenTo {l : Launch} {G : GG} {a : AA} {u0 : Nat} (hu0 : vL a.1 u0) {M : Mem} {p1 : Int32}  {M' : Mem} (hf : f_X3_shortenTo a.1 u0 M p1 = some M') : CtV l G a yX3_shortenTo cX3_shortenTo 4 (rmD 0) [.ref (a.2 u0), .int p1] M M' := by
  refine ct_V (by decide) rfl (own := RX3) (Nat.le_of_ble_eq_true rfl) (fun K hl hg S rt => ?_)
  subst hl; subst hg
  unfold f_X3_shortenTo at hf
  show Go K 4 a M 0 [(0, .ref (a.2 u0)), (1, .int p1)] []
  refine g_aload_n 0 S dX3_shortenTo_0 rfl ?_
  refine g_iload_n 1 S dX3_shortenTo_1 rfl ?_
  refine g_put (ty := .int) S (ob_L hu0) rfl gi_X3 tyX3_ok nmX3 (by decide) lf_X3_19 rfl (by decide +kernel) rfl rfl (Nat.le_of_ble_eq_true rfl) rfl dX3_shortenTo_2 ?_
  refine g_iconst (v := 0) S dX3_shortenTo_5 rfl ?_
  refine g_istore_n (lv' := [(2, .int 0), (0, .ref (a.2 u0)), (1, .int p1)]) S dX3_shortenTo_6 (by decide) rfl ?_
  refine g_iconst (v := 0) S dX3_shortenTo_7 rfl ?_
  refine g_istore_n (lv' := [(3, .int 0), (2, .int 0), (0, .ref (a.2 u0)), (1, .int p1)]) S dX3_shortenTo_8 (by decide) rfl ?_
  refine Go.sub [2, 3, 1, 0] rfl ?_
  exact t_X3_shortenTo_9 hu0 S rt 1000 _ _ _ _ hf
-- BridleBook$Tables.replaceLift(II)I
theorem dX4_replaceLift_0 : decode cX4_replaceLift 0 = .ok (.aload_n 0, 1) := by decide +kernel
theorem dX4_replaceLift_1 : decode cX4_replaceLift 1 = .ok (.iload_n 1, 1) := by decide +kernel
theorem dX4_replaceLift_2 : decode cX4_replaceLift 2 = .ok (.invokevirtual 22, 3) := by decide +kernel
theorem dX4_replaceLift_5 : decode cX4_replaceLift 5 = .ok (.istore_n 3, 1) := by decide +kernel
theorem dX4_replaceLift_6 : decode cX4_replaceLift 6 = .ok (.iload_n 1, 1) := by decide +kernel
theorem dX4_replaceLift_7 : decode cX4_replaceLift 7 = .ok (.invokestatic 18, 3) := by decide +kernel
theorem dX4_replaceLift_10 : decode cX4_replaceLift 10 = .ok (.ifCond .eq 10, 3) := by decide +kernel
theorem dX4_replaceLift_13 : decode cX4_replaceLift 13 = .ok (.aload_n 0, 1) := by decide +kernel
theorem dX4_replaceLift_14 : decode cX4_replaceLift 14 = .ok (.getfield 9, 3) := by decide +kernel
theorem dX4_replaceLift_17 : decode cX4_replaceLift 17 = .ok (.iload_n 1, 1) := by decide +kernel
theorem dX4_replaceLift_18 : decode cX4_replaceLift 18 = .ok (.iload_n 2, 1) := by decide +kernel
theorem dX4_replaceLift_19 : decode cX4_replaceLift 19 = .ok (.iastore, 1) := by decide +kernel
theorem dX4_replaceLift_20 : decode cX4_replaceLift 20 = .ok (.iload_n 3, 1) := by decide +kernel
theorem dX4_replaceLift_21 : decode cX4_replaceLift 21 = .ok (.ireturn, 1) := by decide +kernel
def f_X4_replaceLift (z : Nat → Nat) (M : Mem) (p1 : Int32) (p2 : Int32) : Option (Int32 × Mem) := bd1 (f_X4_liftAt z M p1) (fun r1 => bd1 (f_X7_isAngle z M p1) (fun r2 => if r2 = true then ck (inb p1 18) (some (r1, (mu M 70 (Int32.toNatClampNeg p1) p2))) else some (r1, M)))
theorem c_X4_replaceLift {l : Launch} {G : GG} {a : AA} {M : Mem} {p1 : Int32} {p2 : Int32} {r : Int32} {M' : Mem} (hf : f_X4_replaceLift a.1 M p1 p2 = some (r, M')) : CtI l G a yX4_replaceLift cX4_replaceLift 4 .int (rmD 3) [.ref (a.2 51), .int p1, .int p2] M r M' := by
  refine ct_I (by decide) rfl rfl (own := RX4) (Nat.le_of_ble_eq_true rfl) (fun K hl hg S rt => ?_)
  subst hl; subst hg
  unfold f_X4_replaceLift at hf
  show Go K 4 a M 0 [(0, .ref (a.2 51)), (1, .int p1), (2, .int p2)] []
  refine g_aload_n 0 S dX4_replaceLift_0 rfl ?_
  refine g_iload_n 1 S dX4_replaceLift_1 rfl ?_
  obtain ⟨r1, hr1, hf⟩ := bd1_some hf
  refine g_cVI (st := []) S ob_51 rfl ok_X4_liftAt lk_X4_22 (c_X4_liftAt hr1) rfl rfl ⟨by decide, by decide⟩ (rmD_z _) (Nat.le_of_ble_eq_true rfl) dX4_replaceLift_2 ?_
  refine g_istore_n (lv' := [(3, .int r1), (0, .ref (a.2 51)), (1, .int p1), (2, .int p2)]) S dX4_replaceLift_5 (by decide) rfl ?_
  refine g_iload_n 2 S dX4_replaceLift_6 rfl ?_
  obtain ⟨r2, hr2, hf⟩ := bd1_some hf
  refine g_cNI (st := []) S ok_X7_isAngle ln_X4_18 (c_X7_isAngle hr2) rfl rfl ⟨by decide, by decide⟩ (rmD_z _) (Nat.le_of_ble_eq_true rfl) dX4_replaceLift_7 ?_
  refine g_if_eqB (tgt := 20) S dX4_replaceLift_10 (by decide) hf (fun c hf => ?_) (fun c hf => ?_)
  · refine g_aload_n 1 S dX4_replaceLift_13 rfl ?_
    refine g_get (v := .ref (a.2 70)) S ob_51 rfl gi_X4 (by decide) lf_X4_9 rfl dX4_replaceLift_14 ?_
    refine g_iload_n 2 S dX4_replaceLift_17 rfl ?_
    refine g_iload_n 3 S dX4_replaceLift_18 rfl ?_
    refine g_iast S ia_70 dX4_replaceLift_19 hf (fun hf => ?_)
    refine g_iload_n 0 S dX4_replaceLift_20 rfl ?_
    exact g_iretM rt hf dX4_replaceLift_21
  · refine g_iload_n 0 S dX4_replaceLift_20 rfl ?_
    exact g_iretM rt hf dX4_replaceLift_21
-- BridleBook$Tables.replaceDrag(II)I
theorem dX4_replaceDrag_0 : decode cX4_replaceDrag 0 = .ok (.aload_n 0, 1) := by decide +kernel
theorem dX4_replaceDrag_1 : decode cX4_replaceDrag 1 = .ok (.iload_n 1, 1) := by decide +kernel
theorem dX4_replaceDrag_2 : decode cX4_replaceDrag 2 = .ok (.invokevirtual 26, 3) := by decide +kernel
theorem dX4_replaceDrag_5 : decode cX4_replaceDrag 5 = .ok (.istore_n 3, 1) := by decide +kernel
theorem dX4_replaceDrag_6 : decode cX4_replaceDrag 6 = .ok (.iload_n 1, 1) := by decide +kernel
theorem dX4_replaceDrag_7 : decode cX4_replaceDrag 7 = .ok (.invokestatic 18, 3) := by decide +kernel
theorem dX4_replaceDrag_10 : decode cX4_replaceDrag 10 = .ok (.ifCond .eq 10, 3) := by decide +kernel
theorem dX4_replaceDrag_13 : decode cX4_replaceDrag 13 = .ok (.aload_n 0, 1) := by decide +kernel
theorem dX4_replaceDrag_14 : decode cX4_replaceDrag 14 = .ok (.getfield 15, 3) := by decide +kernel
theorem dX4_replaceDrag_17 : decode cX4_replaceDrag 17 = .ok (.iload_n 1, 1) := by decide +kernel
theorem dX4_replaceDrag_18 : decode cX4_replaceDrag 18 = .ok (.iload_n 2, 1) := by decide +kernel
theorem dX4_replaceDrag_19 : decode cX4_replaceDrag 19 = .ok (.iastore, 1) := by decide +kernel
theorem dX4_replaceDrag_20 : decode cX4_replaceDrag 20 = .ok (.iload_n 3, 1) := by decide +kernel
theorem dX4_replaceDrag_21 : decode cX4_replaceDrag 21 = .ok (.ireturn, 1) := by decide +kernel
def f_X4_replaceDrag (z : Nat → Nat) (M : Mem) (p1 : Int32) (p2 : Int32) : Option (Int32 × Mem) := bd1 (f_X4_dragAt z M p1) (fun r1 => bd1 (f_X7_isAngle z M p1) (fun r2 => if r2 = true then ck (inb p1 18) (some (r1, (mu M 71 (Int32.toNatClampNeg p1) p2))) else some (r1, M)))
theorem c_X4_replaceDrag {l : Launch} {G : GG} {a : AA} {M : Mem} {p1 : Int32} {p2 : Int32} {r : Int32} {M' : Mem} (hf : f_X4_replaceDrag a.1 M p1 p2 = some (r, M')) : CtI l G a yX4_replaceDrag cX4_replaceDrag 4 .int (rmD 3) [.ref (a.2 51), .int p1, .int p2] M r M' := by
  refine ct_I (by decide) rfl rfl (own := RX4) (Nat.le_of_ble_eq_true rfl) (fun K hl hg S rt => ?_)
  subst hl; subst hg
  unfold f_X4_replaceDrag at hf
  show Go K 4 a M 0 [(0, .ref (a.2 51)), (1, .int p1), (2, .int p2)] []
  refine g_aload_n 0 S dX4_replaceDrag_0 rfl ?_
  refine g_iload_n 1 S dX4_replaceDrag_1 rfl ?_
  obtain ⟨r1, hr1, hf⟩ := bd1_some hf
  refine g_cVI (st := []) S ob_51 rfl ok_X4_dragAt lk_X4_26 (c_X4_dragAt hr1) rfl rfl ⟨by decide, by decide⟩ (rmD_z _) (Nat.le_of_ble_eq_true rfl) dX4_replaceDrag_2 ?_
  refine g_istore_n (lv' := [(3, .int r1), (0, .ref (a.2 51)), (1, .int p1), (2, .int p2)]) S dX4_replaceDrag_5 (by decide) rfl ?_
  refine g_iload_n 2 S dX4_replaceDrag_6 rfl ?_
  obtain ⟨r2, hr2, hf⟩ := bd1_some hf
  refine g_cNI (st := []) S ok_X7_isAngle ln_X4_18 (c_X7_isAngle hr2) rfl rfl ⟨by decide, by decide⟩ (rmD_z _) (Nat.le_of_ble_eq_true rfl) dX4_replaceDrag_7 ?_
  refine g_if_eqB (tgt := 20) S dX4_replaceDrag_10 (by decide) hf (fun c hf => ?_) (fun c hf => ?_)
  · refine g_aload_n 1 S dX4_replaceDrag_13 rfl ?_
    refine g_get (v := .ref (a.2 71)) S ob_51 rfl gi_X4 (by decide) lf_X4_15 rfl dX4_replaceDrag_14 ?_
    refine g_iload_n 2 S dX4_replaceDrag_17 rfl ?_
    refine g_iload_n 3 S dX4_replaceDrag_18 rfl ?_
    refine g_iast S ia_71 dX4_replaceDrag_19 hf (fun hf => ?_)
    refine g_iload_n 0 S dX4_replaceDrag_20 rfl ?_
    exact g_iretM rt hf dX4_replaceDrag_21
  · refine g_iload_n 0 S dX4_replaceDrag_20 rfl ?_
    exact g_iretM rt hf dX4_replaceDrag_21
-- java/util/Arrays.fill([II)V
theorem dJ7_fill_53178_0 : decode cJ7_fill_53178 0 = .ok (.iconst 0, 1) := by decide +kernel
theorem dJ7_fill_53178_1 : decode cJ7_fill_53178 1 = .ok (.istore_n 2, 1) := by decide +kernel
theorem dJ7_fill_53178_2 : decode cJ7_fill_53178 2 = .ok (.aload_n 0, 1) := by decide +kernel
theorem dJ7_fill_53178_3 : decode cJ7_fill_53178 3 = .ok (.arraylength, 1) := by decide +kernel
theorem dJ7_fill_53178_4 : decode cJ7_fill_53178 4 = .ok (.istore_n 3, 1) := by decide +kernel
theorem dJ7_fill_53178_5 : decode cJ7_fill_53178 5 = .ok (.iload_n 2, 1) := by decide +kernel
theorem dJ7_fill_53178_6 : decode cJ7_fill_53178 6 = .ok (.iload_n 3, 1) := by decide +kernel
theorem dJ7_fill_53178_7 : decode cJ7_fill_53178 7 = .ok (.if_icmp .ge 13, 3) := by decide +kernel
theorem dJ7_fill_53178_10 : decode cJ7_fill_53178 10 = .ok (.aload_n 0, 1) := by decide +kernel
theorem dJ7_fill_53178_11 : decode cJ7_fill_53178 11 = .ok (.iload_n 2, 1) := by decide +kernel
theorem dJ7_fill_53178_12 : decode cJ7_fill_53178 12 = .ok (.iload_n 1, 1) := by decide +kernel
theorem dJ7_fill_53178_13 : decode cJ7_fill_53178 13 = .ok (.iastore, 1) := by decide +kernel
theorem dJ7_fill_53178_14 : decode cJ7_fill_53178 14 = .ok (.iinc 2 1, 3) := by decide +kernel
theorem dJ7_fill_53178_17 : decode cJ7_fill_53178 17 = .ok (.goto (-12), 3) := by decide +kernel
theorem dJ7_fill_53178_20 : decode cJ7_fill_53178 20 = .ok (.return_, 1) := by decide +kernel
def f_J7_fill_53178_5 (z : Nat → Nat) (u1 len : Nat) : Nat → Mem → Int32 → Int32 → Int32 → Option Mem
  | 0, _, _, _, _ => none
  | fu + 1, M, x1, x2, x3 => if x3 ≤ x2 then some M else ck (inb x2 len) (f_J7_fill_53178_5 z u1 len fu (mu M u1 (Int32.toNatClampNeg x2) x1) x1 (x2 + 1) x3)
theorem t_J7_fill_53178_5 {K : KK} {a : AA} {u1 len : Nat} (hu1 : IA a.1 u1 len) (S : Sx K RJ7 cJ7_fill_53178 4 (rmD 0))  {M' : Mem} (rt : RtV K a cJ7_fill_53178 M') : ∀ (fu : Nat) (M : Mem) (x1 : Int32) (x2 : Int32) (x3 : Int32), f_J7_fill_53178_5 a.1 u1 len fu M x1 x2 x3 = some M' → Go K 4 a M 5 [(0, .ref (a.2 u1)), (1, .int x1), (2, .int x2), (3, .int x3)] [] := by
  intro fu
  induction fu with
  | zero => intro M x1 x2 x3 hf; exact absurd hf (by simp [f_J7_fill_53178_5])
  | succ fu ih =>
    intro M x1 x2 x3 hf
    rw [f_J7_fill_53178_5] at hf
    refine g_iload_n 2 S dJ7_fill_53178_5 rfl ?_
    refine g_iload_n 3 S dJ7_fill_53178_6 rfl ?_
    refine g_icmp_ge (tgt := 20) S dJ7_fill_53178_7 (by decide) hf (fun c hf => ?_) (fun c hf => ?_)
    · exact g_vretM rt hf dJ7_fill_53178_20
    · refine g_aload_n 0 S dJ7_fill_53178_10 rfl ?_
      refine g_iload_n 2 S dJ7_fill_53178_11 rfl ?_
      refine g_iload_n 1 S dJ7_fill_53178_12 rfl ?_
      refine g_iast S hu1 dJ7_fill_53178_13 hf (fun hf => ?_)
      refine g_iinc (v := (x2 + 1)) (lv' := [(2, .int (x2 + 1)), (0, .ref (a.2 u1)), (1, .int x1), (3, .int x3)]) 2 S dJ7_fill_53178_14 rfl rfl (by decide) rfl ?_
      refine g_goto (tgt := 5) S dJ7_fill_53178_17 (by decide) ?_
      refine Go.sub [1, 2, 0, 3] rfl ?_
      exact ih _ _ _ _ hf
def f_J7_fill_53178 (z : Nat → Nat) (u1 len : Nat) (M : Mem) (p2 : Int32) : Option Mem := f_J7_fill_53178_5 z u1 len 1000 M p2 0 (Int32.ofNat len)
theorem c_J7_fill_53178 {l : Launch} {G : GG} {a : AA} {u1 len : Nat} (hu1 : IA a.1 u1 len) {M : Mem} {p2 : Int32}  {M' : Mem} (hf : f_J7_fill_53178 a.1 u1 len M p2 = some M') : CtV l G a yJ7_fill_53178 cJ7_fill_53178 4 (rmD 0) [.ref (a.2 u1), .int p2] M M' := by
  refine ct_V (by decide) rfl (own := RJ7) (Nat.le_of_ble_eq_true rfl) (fun K hl hg S rt => ?_)
  subst hl; subst hg
  unfold f_J7_fill_53178 at hf
  show Go K 4 a M 0 [(0, .ref (a.2 u1)), (1, .int p2)] []
  refine g_iconst (v := 0) S dJ7_fill_53178_0 rfl ?_
  refine g_istore_n (lv' := [(2, .int 0), (0, .ref (a.2 u1)), (1, .int p2)]) S dJ7_fill_53178_1 (by decide) rfl ?_
  refine g_aload_n 1 S dJ7_fill_53178_2 rfl ?_
  refine g_alen (v := Int32.ofNat len) S hu1 rfl dJ7_fill_53178_3 ?_
  refine g_istore_n (lv' := [(3, .int (Int32.ofNat len)), (2, .int 0), (0, .ref (a.2 u1)), (1, .int p2)]) S dJ7_fill_53178_4 (by decide) rfl ?_
  refine Go.sub [2, 3, 1, 0] rfl ?_
  exact t_J7_fill_53178_5 hu1 S rt 1000 _ _ _ _ hf
-- BridleBook$Train.clear()V
theorem dX5_clear_0 : decode cX5_clear 0 = .ok (.aload_n 0, 1) := by decide +kernel
theorem dX5_clear_1 : decode cX5_clear 1 = .ok (.getfield 9, 3) := by decide +kernel
theorem dX5_clear_4 : decode cX5_clear 4 = .ok (.iconst 0, 1) := by decide +kernel
theorem dX5_clear_5 : decode cX5_clear 5 = .ok (.invokestatic 18, 3) := by decide +kernel
theorem dX5_clear_8 : decode cX5_clear 8 = .ok (.aload_n 0, 1) := by decide +kernel
theorem dX5_clear_9 : decode cX5_clear 9 = .ok (.getfield 15, 3) := by decide +kernel
theorem dX5_clear_12 : decode cX5_clear 12 = .ok (.iconst 0, 1) := by decide +kernel
theorem dX5_clear_13 : decode cX5_clear 13 = .ok (.invokestatic 18, 3) := by decide +kernel
theorem dX5_clear_16 : decode cX5_clear 16 = .ok (.return_, 1) := by decide +kernel
def f_X5_clear (z : Nat → Nat) (M : Mem) : Option Mem := bd1 (f_J7_fill_53178 z 72 202 M 0) (fun M1 => bd1 (f_J7_fill_53178 z 73 202 M1 0) (fun M2 => some M2))
theorem c_X5_clear {l : Launch} {G : GG} {a : AA} {M : Mem}  {M' : Mem} (hf : f_X5_clear a.1 M = some M') : CtV l G a yX5_clear cX5_clear 1 (rmD 1) [.ref (a.2 57)] M M' := by
  refine ct_V (by decide) rfl (own := RX5) (Nat.le_of_ble_eq_true rfl) (fun K hl hg S rt => ?_)
  subst hl; subst hg
  unfold f_X5_clear at hf
  show Go K 1 a M 0 [(0, .ref (a.2 57))] []
  refine g_aload_n 0 S dX5_clear_0 rfl ?_
  refine g_get (v := .ref (a.2 72)) S ob_57 rfl gi_X5 (by decide) lf_X5_9 rfl dX5_clear_1 ?_
  refine g_iconst (v := 0) S dX5_clear_4 rfl ?_
  obtain ⟨M1, hM1, hf⟩ := bd1_some hf
  refine g_cSV (st := []) S ok_J7_fill_53178 lk_X5_18 (c_J7_fill_53178 ia_72 hM1) rfl rfl ⟨by decide, by decide⟩ (rmD_z _) (Nat.le_of_ble_eq_true rfl) dX5_clear_5 ?_
  refine g_aload_n 0 S dX5_clear_8 rfl ?_
  refine g_get (v := .ref (a.2 73)) S ob_57 rfl gi_X5 (by decide) lf_X5_15 rfl dX5_clear_9 ?_
  refine g_iconst (v := 0) S dX5_clear_12 rfl ?_
  obtain ⟨M2, hM2, hf⟩ := bd1_some hf
  refine g_cSV (st := []) S ok_J7_fill_53178 lk_X5_18 (c_J7_fill_53178 ia_73 hM2) rfl rfl ⟨by decide, by decide⟩ (rmD_z _) (Nat.le_of_ble_eq_true rfl) dX5_clear_13 ?_
  exact g_vretM rt hf dX5_clear_16
-- BridleBook$Train.hang(III)V
theorem dX5_hang_0 : decode cX5_hang 0 = .ok (.iload_n 1, 1) := by decide +kernel
theorem dX5_hang_1 : decode cX5_hang 1 = .ok (.iconst 1, 1) := by decide +kernel
theorem dX5_hang_2 : decode cX5_hang 2 = .ok (.sipush 200, 3) := by decide +kernel
theorem dX5_hang_5 : decode cX5_hang 5 = .ok (.invokestatic 24, 3) := by decide +kernel
theorem dX5_hang_8 : decode cX5_hang 8 = .ok (.ifCond .eq 23, 3) := by decide +kernel
theorem dX5_hang_11 : decode cX5_hang 11 = .ok (.aload_n 0, 1) := by decide +kernel
theorem dX5_hang_12 : decode cX5_hang 12 = .ok (.getfield 15, 3) := by decide +kernel
theorem dX5_hang_15 : decode cX5_hang 15 = .ok (.iload_n 1, 1) := by decide +kernel
theorem dX5_hang_16 : decode cX5_hang 16 = .ok (.dup2, 1) := by decide +kernel
theorem dX5_hang_17 : decode cX5_hang 17 = .ok (.iaload, 1) := by decide +kernel
theorem dX5_hang_18 : decode cX5_hang 18 = .ok (.iload_n 2, 1) := by decide +kernel
theorem dX5_hang_19 : decode cX5_hang 19 = .ok (.iadd, 1) := by decide +kernel
theorem dX5_hang_20 : decode cX5_hang 20 = .ok (.iastore, 1) := by decide +kernel
theorem dX5_hang_21 : decode cX5_hang 21 = .ok (.aload_n 0, 1) := by decide +kernel
theorem dX5_hang_22 : decode cX5_hang 22 = .ok (.getfield 9, 3) := by decide +kernel
theorem dX5_hang_25 : decode cX5_hang 25 = .ok (.iload_n 1, 1) := by decide +kernel
theorem dX5_hang_26 : decode cX5_hang 26 = .ok (.dup2, 1) := by decide +kernel
theorem dX5_hang_27 : decode cX5_hang 27 = .ok (.iaload, 1) := by decide +kernel
theorem dX5_hang_28 : decode cX5_hang 28 = .ok (.iload_n 3, 1) := by decide +kernel
theorem dX5_hang_29 : decode cX5_hang 29 = .ok (.iadd, 1) := by decide +kernel
theorem dX5_hang_30 : decode cX5_hang 30 = .ok (.iastore, 1) := by decide +kernel
theorem dX5_hang_31 : decode cX5_hang 31 = .ok (.return_, 1) := by decide +kernel
def f_X5_hang (z : Nat → Nat) (M : Mem) (p1 : Int32) (p2 : Int32) (p3 : Int32) : Option Mem := bd1 (f_X7_within z M p1 1 200) (fun r1 => if r1 = true then ck (inb p1 202) (ck (inb p1 202) (lt (mu M 73 (Int32.toNatClampNeg p1) ((M 73 (Int32.toNatClampNeg p1)) + p2)) (fun M2 => ck (inb p1 202) (ck (inb p1 202) (lt (mu M2 72 (Int32.toNatClampNeg p1) ((M2 72 (Int32.toNatClampNeg p1)) + p3)) (fun M3 => some M3)))))) else some M)
theorem c_X5_hang {l : Launch} {G : GG} {a : AA} {M : Mem} {p1 : Int32} {p2 : Int32} {p3 : Int32}  {M' : Mem} (hf : f_X5_hang a.1 M p1 p2 p3 = some M') : CtV l G a yX5_hang cX5_hang 4 (rmD 1) [.ref (a.2 57), .int p1, .int p2, .int p3] M M' := by
  refine ct_V (by decide) rfl (own := RX5) (Nat.le_of_ble_eq_true rfl) (fun K hl hg S rt => ?_)
  subst hl; subst hg
  unfold f_X5_hang at hf
  show Go K 4 a M 0 [(0, .ref (a.2 57)), (1, .int p1), (2, .int p2), (3, .int p3)] []
  refine g_iload_n 1 S dX5_hang_0 rfl ?_
  refine g_iconst (v := 1) S dX5_hang_1 rfl ?_
  refine g_sipush (v := 200) S dX5_hang_2 rfl ?_
  obtain ⟨r1, hr1, hf⟩ := bd1_some hf
  refine g_cNI (st := []) S ok_X7_within ln_X5_24 (c_X7_within hr1) rfl rfl ⟨by decide, by decide⟩ (rmD_z _) (Nat.le_of_ble_eq_true rfl) dX5_hang_5 ?_
  refine g_if_eqB (tgt := 31) S dX5_hang_8 (by decide) hf (fun c hf => ?_) (fun c hf => ?_)
  · refine g_aload_n 0 S dX5_hang_11 rfl ?_
    refine g_get (v := .ref (a.2 73)) S ob_57 rfl gi_X5 (by decide) lf_X5_15 rfl dX5_hang_12 ?_
    refine g_iload_n 1 S dX5_hang_15 rfl ?_
    refine g_dup2 S dX5_hang_16 rfl rfl ?_
    refine g_iald S ia_73 dX5_hang_17 hf (fun hf => ?_)
    refine g_iload_n 2 S dX5_hang_18 rfl ?_
    refine g_iadd S dX5_hang_19 ?_
    refine g_iast S ia_73 dX5_hang_20 hf (fun hf => ?_)
    obtain ⟨M2, eM2, hf⟩ := lt_some hf
    refine Go.M eM2 ?_
    refine g_aload_n 0 S dX5_hang_21 rfl ?_
    refine g_get (v := .ref (a.2 72)) S ob_57 rfl gi_X5 (by decide) lf_X5_9 rfl dX5_hang_22 ?_
    refine g_iload_n 1 S dX5_hang_25 rfl ?_
    refine g_dup2 S dX5_hang_26 rfl rfl ?_
    refine g_iald S ia_72 dX5_hang_27 hf (fun hf => ?_)
    refine g_iload_n 3 S dX5_hang_28 rfl ?_
    refine g_iadd S dX5_hang_29 ?_
    refine g_iast S ia_72 dX5_hang_30 hf (fun hf => ?_)
    obtain ⟨M3, eM3, hf⟩ := lt_some hf
    refine Go.M eM3 ?_
    exact g_vretM rt hf dX5_hang_31
  · exact g_vretM rt hf dX5_hang_31
-- BridleBook$Train.sumFromEnd(II)V
theorem dX5_sumFromEnd_0 : decode cX5_sumFromEnd 0 = .ok (.iload_n 1, 1) := by decide +kernel
theorem dX5_sumFromEnd_1 : decode cX5_sumFromEnd 1 = .ok (.sipush 200, 3) := by decide +kernel
theorem dX5_sumFromEnd_4 : decode cX5_sumFromEnd 4 = .ok (.invokestatic 28, 3) := by decide +kernel
theorem dX5_sumFromEnd_7 : decode cX5_sumFromEnd 7 = .ok (.istore_n 3, 1) := by decide +kernel
theorem dX5_sumFromEnd_8 : decode cX5_sumFromEnd 8 = .ok (.iload_n 3, 1) := by decide +kernel
theorem dX5_sumFromEnd_9 : decode cX5_sumFromEnd 9 = .ok (.iconst 1, 1) := by decide +kernel
theorem dX5_sumFromEnd_10 : decode cX5_sumFromEnd 10 = .ok (.if_icmp .lt 45, 3) := by decide +kernel
theorem dX5_sumFromEnd_13 : decode cX5_sumFromEnd 13 = .ok (.aload_n 0, 1) := by decide +kernel
theorem dX5_sumFromEnd_14 : decode cX5_sumFromEnd 14 = .ok (.getfield 15, 3) := by decide +kernel
theorem dX5_sumFromEnd_17 : decode cX5_sumFromEnd 17 = .ok (.iload_n 3, 1) := by decide +kernel
theorem dX5_sumFromEnd_18 : decode cX5_sumFromEnd 18 = .ok (.dup2, 1) := by decide +kernel
theorem dX5_sumFromEnd_19 : decode cX5_sumFromEnd 19 = .ok (.iaload, 1) := by decide +kernel
theorem dX5_sumFromEnd_20 : decode cX5_sumFromEnd 20 = .ok (.aload_n 0, 1) := by decide +kernel
theorem dX5_sumFromEnd_21 : decode cX5_sumFromEnd 21 = .ok (.getfield 15, 3) := by decide +kernel
theorem dX5_sumFromEnd_24 : decode cX5_sumFromEnd 24 = .ok (.iload_n 3, 1) := by decide +kernel
theorem dX5_sumFromEnd_25 : decode cX5_sumFromEnd 25 = .ok (.iconst 1, 1) := by decide +kernel
theorem dX5_sumFromEnd_26 : decode cX5_sumFromEnd 26 = .ok (.iadd, 1) := by decide +kernel
theorem dX5_sumFromEnd_27 : decode cX5_sumFromEnd 27 = .ok (.iaload, 1) := by decide +kernel
theorem dX5_sumFromEnd_28 : decode cX5_sumFromEnd 28 = .ok (.iload_n 2, 1) := by decide +kernel
theorem dX5_sumFromEnd_29 : decode cX5_sumFromEnd 29 = .ok (.isub, 1) := by decide +kernel
theorem dX5_sumFromEnd_30 : decode cX5_sumFromEnd 30 = .ok (.iadd, 1) := by decide +kernel
theorem dX5_sumFromEnd_31 : decode cX5_sumFromEnd 31 = .ok (.iastore, 1) := by decide +kernel
theorem dX5_sumFromEnd_32 : decode cX5_sumFromEnd 32 = .ok (.aload_n 0, 1) := by decide +kernel
theorem dX5_sumFromEnd_33 : decode cX5_sumFromEnd 33 = .ok (.getfield 9, 3) := by decide +kernel
theorem dX5_sumFromEnd_36 : decode cX5_sumFromEnd 36 = .ok (.iload_n 3, 1) := by decide +kernel
theorem dX5_sumFromEnd_37 : decode cX5_sumFromEnd 37 = .ok (.dup2, 1) := by decide +kernel
theorem dX5_sumFromEnd_38 : decode cX5_sumFromEnd 38 = .ok (.iaload, 1) := by decide +kernel
theorem dX5_sumFromEnd_39 : decode cX5_sumFromEnd 39 = .ok (.aload_n 0, 1) := by decide +kernel
theorem dX5_sumFromEnd_40 : decode cX5_sumFromEnd 40 = .ok (.getfield 9, 3) := by decide +kernel
theorem dX5_sumFromEnd_43 : decode cX5_sumFromEnd 43 = .ok (.iload_n 3, 1) := by decide +kernel
theorem dX5_sumFromEnd_44 : decode cX5_sumFromEnd 44 = .ok (.iconst 1, 1) := by decide +kernel
theorem dX5_sumFromEnd_45 : decode cX5_sumFromEnd 45 = .ok (.iadd, 1) := by decide +kernel
theorem dX5_sumFromEnd_46 : decode cX5_sumFromEnd 46 = .ok (.iaload, 1) := by decide +kernel
theorem dX5_sumFromEnd_47 : decode cX5_sumFromEnd 47 = .ok (.iadd, 1) := by decide +kernel
theorem dX5_sumFromEnd_48 : decode cX5_sumFromEnd 48 = .ok (.iastore, 1) := by decide +kernel
theorem dX5_sumFromEnd_49 : decode cX5_sumFromEnd 49 = .ok (.iinc 3 (-1), 3) := by decide +kernel
theorem dX5_sumFromEnd_52 : decode cX5_sumFromEnd 52 = .ok (.goto (-44), 3) := by decide +kernel
theorem dX5_sumFromEnd_55 : decode cX5_sumFromEnd 55 = .ok (.return_, 1) := by decide +kernel
def f_X5_sumFromEnd_8 (z : Nat → Nat) : Nat → Mem → Int32 → Int32 → Option Mem
  | 0, _, _, _ => none
  | fu + 1, M, x2, x3 => if x3 < 1 then some M else ck (inb x3 202) (ck (inb (x3 + 1) 202) (ck (inb x3 202) (lt (mu M 73 (Int32.toNatClampNeg x3) ((M 73 (Int32.toNatClampNeg x3)) + ((M 73 (Int32.toNatClampNeg (x3 + 1))) - x2))) (fun M1 => ck (inb x3 202) (ck (inb (x3 + 1) 202) (ck (inb x3 202) (lt (mu M1 72 (Int32.toNatClampNeg x3) ((M1 72 (Int32.toNatClampNeg x3)) + (M1 72 (Int32.toNatClampNeg (x3 + 1))))) (fun M2 => f_X5_sumFromEnd_8 z fu M2 x2 (x3 + (-1))))))))))
theorem t_X5_sumFromEnd_8 {K : KK} {a : AA} (S : Sx K RX5 cX5_sumFromEnd 4 (rmD 1))  {M' : Mem} (rt : RtV K a cX5_sumFromEnd M') : ∀ (fu : Nat) (M : Mem) (x2 : Int32) (x3 : Int32), f_X5_sumFromEnd_8 a.1 fu M x2 x3 = some M' → Go K 4 a M 8 [(0, .ref (a.2 57)), (2, .int x2), (3, .int x3)] [] := by
  intro fu
  induction fu with
  | zero => intro M x2 x3 hf; exact absurd hf (by simp [f_X5_sumFromEnd_8])
  | succ fu ih =>
    intro M x2 x3 hf
    rw [f_X5_sumFromEnd_8] at hf
    refine g_iload_n 2 S dX5_sumFromEnd_8 rfl ?_
    refine g_iconst (v := 1) S dX5_sumFromEnd_9 rfl ?_
    refine g_icmp_lt (tgt := 55) S dX5_sumFromEnd_10 (by decide) hf (fun c hf => ?_) (fun c hf => ?_)
    · exact g_vretM rt hf dX5_sumFromEnd_55
    · refine g_aload_n 0 S dX5_sumFromEnd_13 rfl ?_
      refine g_get (v := .ref (a.2 73)) S ob_57 rfl gi_X5 (by decide) lf_X5_15 rfl dX5_sumFromEnd_14 ?_
      refine g_iload_n 2 S dX5_sumFromEnd_17 rfl ?_
      refine g_dup2 S dX5_sumFromEnd_18 rfl rfl ?_
      refine g_iald S ia_73 dX5_sumFromEnd_19 hf (fun hf => ?_)
      refine g_aload_n 0 S dX5_sumFromEnd_20 rfl ?_
      refine g_get (v := .ref (a.2 73)) S ob_57 rfl gi_X5 (by decide) lf_X5_15 rfl dX5_sumFromEnd_21 ?_
      refine g_iload_n 2 S dX5_sumFromEnd_24 rfl ?_
      refine g_iconst (v := 1) S dX5_sumFromEnd_25 rfl ?_
      refine g_iadd S dX5_sumFromEnd_26 ?_
      refine g_iald S ia_73 dX5_sumFromEnd_27 hf (fun hf => ?_)
      refine g_iload_n 1 S dX5_sumFromEnd_28 rfl ?_
      refine g_isub S dX5_sumFromEnd_29 ?_
      refine g_iadd S dX5_sumFromEnd_30 ?_
      refine g_iast S ia_73 dX5_sumFromEnd_31 hf (fun hf => ?_)
      obtain ⟨M1, eM1, hf⟩ := lt_some hf
      refine Go.M eM1 ?_
      refine g_aload_n 0 S dX5_sumFromEnd_32 rfl ?_
      refine g_get (v := .ref (a.2 72)) S ob_57 rfl gi_X5 (by decide) lf_X5_9 rfl dX5_sumFromEnd_33 ?_
      refine g_iload_n 2 S dX5_sumFromEnd_36 rfl ?_
      refine g_dup2 S dX5_sumFromEnd_37 rfl rfl ?_
      refine g_iald S ia_72 dX5_sumFromEnd_38 hf (fun hf => ?_)
      refine g_aload_n 0 S dX5_sumFromEnd_39 rfl ?_
      refine g_get (v := .ref (a.2 72)) S ob_57 rfl gi_X5 (by decide) lf_X5_9 rfl dX5_sumFromEnd_40 ?_
      refine g_iload_n 2 S dX5_sumFromEnd_43 rfl ?_
      refine g_iconst (v := 1) S dX5_sumFromEnd_44 rfl ?_
      refine g_iadd S dX5_sumFromEnd_45 ?_
      refine g_iald S ia_72 dX5_sumFromEnd_46 hf (fun hf => ?_)
      refine g_iadd S dX5_sumFromEnd_47 ?_
      refine g_iast S ia_72 dX5_sumFromEnd_48 hf (fun hf => ?_)
      obtain ⟨M2, eM2, hf⟩ := lt_some hf
      refine Go.M eM2 ?_
      refine g_iinc (v := (x3 + (-1))) (lv' := [(3, .int (x3 + (-1))), (0, .ref (a.2 57)), (2, .int x2)]) 2 S dX5_sumFromEnd_49 rfl rfl (by decide) rfl ?_
      refine g_goto (tgt := 8) S dX5_sumFromEnd_52 (by decide) ?_
      refine Go.sub [1, 2, 0] rfl ?_
      exact ih _ _ _ hf
def f_X5_sumFromEnd (z : Nat → Nat) (M : Mem) (p1 : Int32) (p2 : Int32) : Option Mem := f_X5_sumFromEnd_8 z 1000 M p2 (imin p1 200)
theorem c_X5_sumFromEnd {l : Launch} {G : GG} {a : AA} {M : Mem} {p1 : Int32} {p2 : Int32}  {M' : Mem} (hf : f_X5_sumFromEnd a.1 M p1 p2 = some M') : CtV l G a yX5_sumFromEnd cX5_sumFromEnd 4 (rmD 1) [.ref (a.2 57), .int p1, .int p2] M M' := by
  refine ct_V (by decide) rfl (own := RX5) (Nat.le_of_ble_eq_true rfl) (fun K hl hg S rt => ?_)
  subst hl; subst hg
  unfold f_X5_sumFromEnd at hf
  show Go K 4 a M 0 [(0, .ref (a.2 57)), (1, .int p1), (2, .int p2)] []
  refine g_iload_n 1 S dX5_sumFromEnd_0 rfl ?_
  refine g_sipush (v := 200) S dX5_sumFromEnd_1 rfl ?_
  refine g_mmin S lk_X5_28 (by decide) (Nat.le_of_ble_eq_true rfl) dX5_sumFromEnd_4 ?_
  refine g_istore_n (lv' := [(3, .int (imin p1 200)), (0, .ref (a.2 57)), (1, .int p1), (2, .int p2)]) S dX5_sumFromEnd_7 (by decide) rfl ?_
  refine Go.sub [1, 3, 0] rfl ?_
  exact t_X5_sumFromEnd_8  S rt 1000 _ _ _ hf
-- BridleBook$Train.acrossAt(I)I
theorem dX5_acrossAt_0 : decode cX5_acrossAt 0 = .ok (.iload_n 1, 1) := by decide +kernel
theorem dX5_acrossAt_1 : decode cX5_acrossAt 1 = .ok (.iconst 1, 1) := by decide +kernel
theorem dX5_acrossAt_2 : decode cX5_acrossAt 2 = .ok (.sipush 200, 3) := by decide +kernel
theorem dX5_acrossAt_5 : decode cX5_acrossAt 5 = .ok (.invokestatic 24, 3) := by decide +kernel
theorem dX5_acrossAt_8 : decode cX5_acrossAt 8 = .ok (.ifCond .eq 12, 3) := by decide +kernel
theorem dX5_acrossAt_11 : decode cX5_acrossAt 11 = .ok (.aload_n 0, 1) := by decide +kernel
theorem dX5_acrossAt_12 : decode cX5_acrossAt 12 = .ok (.getfield 9, 3) := by decide +kernel
theorem dX5_acrossAt_15 : decode cX5_acrossAt 15 = .ok (.iload_n 1, 1) := by decide +kernel
theorem dX5_acrossAt_16 : decode cX5_acrossAt 16 = .ok (.iaload, 1) := by decide +kernel
theorem dX5_acrossAt_17 : decode cX5_acrossAt 17 = .ok (.goto 4, 3) := by decide +kernel
theorem dX5_acrossAt_20 : decode cX5_acrossAt 20 = .ok (.iconst 0, 1) := by decide +kernel
theorem dX5_acrossAt_21 : decode cX5_acrossAt 21 = .ok (.ireturn, 1) := by decide +kernel
def f_X5_acrossAt (z : Nat → Nat) (M : Mem) (p1 : Int32) : Option Int32 := bd1 (f_X7_within z M p1 1 200) (fun r1 => if r1 = true then ck (inb p1 202) (some (M 72 (Int32.toNatClampNeg p1))) else some 0)
theorem c_X5_acrossAt {l : Launch} {G : GG} {a : AA} {M : Mem} {p1 : Int32} {r : Int32} (hf : f_X5_acrossAt a.1 M p1 = some r) : CtI l G a yX5_acrossAt cX5_acrossAt 2 .int (rmD 1) [.ref (a.2 57), .int p1] M r M := by
  refine ct_I (by decide) rfl rfl (own := RX5) (Nat.le_of_ble_eq_true rfl) (fun K hl hg S rt => ?_)
  subst hl; subst hg
  unfold f_X5_acrossAt at hf
  show Go K 2 a M 0 [(0, .ref (a.2 57)), (1, .int p1)] []
  refine g_iload_n 1 S dX5_acrossAt_0 rfl ?_
  refine g_iconst (v := 1) S dX5_acrossAt_1 rfl ?_
  refine g_sipush (v := 200) S dX5_acrossAt_2 rfl ?_
  obtain ⟨r1, hr1, hf⟩ := bd1_some hf
  refine g_cNI (st := []) S ok_X7_within ln_X5_24 (c_X7_within hr1) rfl rfl ⟨by decide, by decide⟩ (rmD_z _) (Nat.le_of_ble_eq_true rfl) dX5_acrossAt_5 ?_
  refine g_if_eqB (tgt := 20) S dX5_acrossAt_8 (by decide) hf (fun c hf => ?_) (fun c hf => ?_)
  · refine g_aload_n 0 S dX5_acrossAt_11 rfl ?_
    refine g_get (v := .ref (a.2 72)) S ob_57 rfl gi_X5 (by decide) lf_X5_9 rfl dX5_acrossAt_12 ?_
    refine g_iload_n 1 S dX5_acrossAt_15 rfl ?_
    refine g_iald S ia_72 dX5_acrossAt_16 hf (fun hf => ?_)
    refine g_goto (tgt := 21) S dX5_acrossAt_17 (by decide) ?_
    exact g_iretP rt hf dX5_acrossAt_21
  · refine g_iconst (v := 0) S dX5_acrossAt_20 rfl ?_
    exact g_iretP rt hf dX5_acrossAt_21
-- BridleBook$Train.upAt(I)I
theorem dX5_upAt_0 : decode cX5_upAt 0 = .ok (.iload_n 1, 1) := by decide +kernel
theorem dX5_upAt_1 : decode cX5_upAt 1 = .ok (.iconst 1, 1) := by decide +kernel
theorem dX5_upAt_2 : decode cX5_upAt 2 = .ok (.sipush 200, 3) := by decide +kernel
theorem dX5_upAt_5 : decode cX5_upAt 5 = .ok (.invokestatic 24, 3) := by decide +kernel
theorem dX5_upAt_8 : decode cX5_upAt 8 = .ok (.ifCond .eq 12, 3) := by decide +kernel
theorem dX5_upAt_11 : decode cX5_upAt 11 = .ok (.aload_n 0, 1) := by decide +kernel
theorem dX5_upAt_12 : decode cX5_upAt 12 = .ok (.getfield 15, 3) := by decide +kernel
theorem dX5_upAt_15 : decode cX5_upAt 15 = .ok (.iload_n 1, 1) := by decide +kernel
theorem dX5_upAt_16 : decode cX5_upAt 16 = .ok (.iaload, 1) := by decide +kernel
theorem dX5_upAt_17 : decode cX5_upAt 17 = .ok (.goto 4, 3) := by decide +kernel
theorem dX5_upAt_20 : decode cX5_upAt 20 = .ok (.iconst 0, 1) := by decide +kernel
theorem dX5_upAt_21 : decode cX5_upAt 21 = .ok (.ireturn, 1) := by decide +kernel
def f_X5_upAt (z : Nat → Nat) (M : Mem) (p1 : Int32) : Option Int32 := bd1 (f_X7_within z M p1 1 200) (fun r1 => if r1 = true then ck (inb p1 202) (some (M 73 (Int32.toNatClampNeg p1))) else some 0)
theorem c_X5_upAt {l : Launch} {G : GG} {a : AA} {M : Mem} {p1 : Int32} {r : Int32} (hf : f_X5_upAt a.1 M p1 = some r) : CtI l G a yX5_upAt cX5_upAt 2 .int (rmD 1) [.ref (a.2 57), .int p1] M r M := by
  refine ct_I (by decide) rfl rfl (own := RX5) (Nat.le_of_ble_eq_true rfl) (fun K hl hg S rt => ?_)
  subst hl; subst hg
  unfold f_X5_upAt at hf
  show Go K 2 a M 0 [(0, .ref (a.2 57)), (1, .int p1)] []
  refine g_iload_n 1 S dX5_upAt_0 rfl ?_
  refine g_iconst (v := 1) S dX5_upAt_1 rfl ?_
  refine g_sipush (v := 200) S dX5_upAt_2 rfl ?_
  obtain ⟨r1, hr1, hf⟩ := bd1_some hf
  refine g_cNI (st := []) S ok_X7_within ln_X5_24 (c_X7_within hr1) rfl rfl ⟨by decide, by decide⟩ (rmD_z _) (Nat.le_of_ble_eq_true rfl) dX5_upAt_5 ?_
  refine g_if_eqB (tgt := 20) S dX5_upAt_8 (by decide) hf (fun c hf => ?_) (fun c hf => ?_)
  · refine g_aload_n 0 S dX5_upAt_11 rfl ?_
    refine g_get (v := .ref (a.2 73)) S ob_57 rfl gi_X5 (by decide) lf_X5_15 rfl dX5_upAt_12 ?_
    refine g_iload_n 1 S dX5_upAt_15 rfl ?_
    refine g_iald S ia_73 dX5_upAt_16 hf (fun hf => ?_)
    refine g_goto (tgt := 21) S dX5_upAt_17 (by decide) ?_
    exact g_iretP rt hf dX5_upAt_21
  · refine g_iconst (v := 0) S dX5_upAt_20 rfl ?_
    exact g_iretP rt hf dX5_upAt_21
-- BridleBook$Train.rootFrom(JJ)J
theorem dX5_rootFrom_0 : decode cX5_rootFrom 0 = .ok (.lload_n 0, 1) := by decide +kernel
theorem dX5_rootFrom_1 : decode cX5_rootFrom 1 = .ok (.lstore 4, 2) := by decide +kernel
theorem dX5_rootFrom_3 : decode cX5_rootFrom 3 = .ok (.iconst 0, 1) := by decide +kernel
theorem dX5_rootFrom_4 : decode cX5_rootFrom 4 = .ok (.istore 6, 2) := by decide +kernel
theorem dX5_rootFrom_6 : decode cX5_rootFrom 6 = .ok (.iload 6, 2) := by decide +kernel
theorem dX5_rootFrom_8 : decode cX5_rootFrom 8 = .ok (.bipush 64, 2) := by decide +kernel
theorem dX5_rootFrom_10 : decode cX5_rootFrom 10 = .ok (.if_icmp .ge 44, 3) := by decide +kernel
theorem dX5_rootFrom_13 : decode cX5_rootFrom 13 = .ok (.lload 4, 2) := by decide +kernel
theorem dX5_rootFrom_15 : decode cX5_rootFrom 15 = .ok (.lconst 0, 1) := by decide +kernel
theorem dX5_rootFrom_16 : decode cX5_rootFrom 16 = .ok (.lcmp, 1) := by decide +kernel
theorem dX5_rootFrom_17 : decode cX5_rootFrom 17 = .ok (.ifCond .le 37, 3) := by decide +kernel
theorem dX5_rootFrom_20 : decode cX5_rootFrom 20 = .ok (.lload 4, 2) := by decide +kernel
theorem dX5_rootFrom_22 : decode cX5_rootFrom 22 = .ok (.lload_n 2, 1) := by decide +kernel
theorem dX5_rootFrom_23 : decode cX5_rootFrom 23 = .ok (.lload 4, 2) := by decide +kernel
theorem dX5_rootFrom_25 : decode cX5_rootFrom 25 = .ok (.ldiv, 1) := by decide +kernel
theorem dX5_rootFrom_26 : decode cX5_rootFrom 26 = .ok (.ladd, 1) := by decide +kernel
theorem dX5_rootFrom_27 : decode cX5_rootFrom 27 = .ok (.ldc2_w 49, 3) := by decide +kernel
theorem dX5_rootFrom_30 : decode cX5_rootFrom 30 = .ok (.ldiv, 1) := by decide +kernel
theorem dX5_rootFrom_31 : decode cX5_rootFrom 31 = .ok (.lstore 7, 2) := by decide +kernel
theorem dX5_rootFrom_33 : decode cX5_rootFrom 33 = .ok (.lload 7, 2) := by decide +kernel
theorem dX5_rootFrom_35 : decode cX5_rootFrom 35 = .ok (.lload 4, 2) := by decide +kernel
theorem dX5_rootFrom_37 : decode cX5_rootFrom 37 = .ok (.lcmp, 1) := by decide +kernel
theorem dX5_rootFrom_38 : decode cX5_rootFrom 38 = .ok (.ifCond .lt 6, 3) := by decide +kernel
theorem dX5_rootFrom_41 : decode cX5_rootFrom 41 = .ok (.lload 4, 2) := by decide +kernel
theorem dX5_rootFrom_43 : decode cX5_rootFrom 43 = .ok (.lreturn, 1) := by decide +kernel
theorem dX5_rootFrom_44 : decode cX5_rootFrom 44 = .ok (.lload 7, 2) := by decide +kernel
theorem dX5_rootFrom_46 : decode cX5_rootFrom 46 = .ok (.lstore 4, 2) := by decide +kernel
theorem dX5_rootFrom_48 : decode cX5_rootFrom 48 = .ok (.iinc 6 1, 3) := by decide +kernel
theorem dX5_rootFrom_51 : decode cX5_rootFrom 51 = .ok (.goto (-45), 3) := by decide +kernel
theorem dX5_rootFrom_54 : decode cX5_rootFrom 54 = .ok (.lload 4, 2) := by decide +kernel
theorem dX5_rootFrom_56 : decode cX5_rootFrom 56 = .ok (.lreturn, 1) := by decide +kernel
def f_X5_rootFrom_6 (z : Nat → Nat) (M : Mem) : Nat → Int64 → Int64 → Int32 → Option Int64
  | 0, _, _, _ => none
  | fu + 1, x2, x4, x6 => if 64 ≤ x6 then some x4 else if 0 < x4 then ck (decide (¬ x4 = 0)) (if ((x4 + (x2 / x4)) / 2) < x4 then f_X5_rootFrom_6 z M fu x2 ((x4 + (x2 / x4)) / 2) (x6 + 1) else some x4) else some x4
theorem t_X5_rootFrom_6 {K : KK} {a : AA} (S : Sx K RX5 cX5_rootFrom 9 (rmD 0)) {r : Int64} {M : Mem} (rt : RtL K a cX5_rootFrom r M) : ∀ (fu : Nat) (x2 : Int64) (x4 : Int64) (x6 : Int32), f_X5_rootFrom_6 a.1 M fu x2 x4 x6 = some r → Go K 9 a M 6 [(2, .long x2), (4, .long x4), (6, .int x6)] [] := by
  intro fu
  induction fu with
  | zero => intro x2 x4 x6 hf; exact absurd hf (by simp [f_X5_rootFrom_6])
  | succ fu ih =>
    intro x2 x4 x6 hf
    rw [f_X5_rootFrom_6] at hf
    refine g_iload 2 S dX5_rootFrom_6 rfl ?_
    refine g_bipush (v := 64) S dX5_rootFrom_8 rfl ?_
    refine g_icmp_ge (tgt := 54) S dX5_rootFrom_10 (by decide) hf (fun c hf => ?_) (fun c hf => ?_)
    · refine g_lload 1 S dX5_rootFrom_54 rfl ?_
      exact g_lretP rt hf dX5_rootFrom_56
    · refine g_lload 1 S dX5_rootFrom_13 rfl ?_
      refine g_lconst (v := 0) S dX5_rootFrom_15 rfl ?_
      refine g_lcmp S dX5_rootFrom_16 ?_
      refine g_ifl_le (tgt := 54) S dX5_rootFrom_17 (by decide) hf (fun c hf => ?_) (fun c hf => ?_)
      · refine g_lload 1 S dX5_rootFrom_20 rfl ?_
        refine g_lload_n 0 S dX5_rootFrom_22 rfl ?_
        refine g_lload 1 S dX5_rootFrom_23 rfl ?_
        refine g_ldivC S dX5_rootFrom_25 hf (fun hf => ?_)
        refine g_ladd S dX5_rootFrom_26 ?_
        refine g_ldc2 S lc_X5_49 dX5_rootFrom_27 ?_
        refine g_ldiv S dX5_rootFrom_30 (by decide) ?_
        refine g_lstore (lv' := [(7, .long ((x4 + (x2 / x4)) / 2)), (2, .long x2), (4, .long x4), (6, .int x6)]) S dX5_rootFrom_31 (by decide) rfl ?_
        refine g_lload 0 S dX5_rootFrom_33 rfl ?_
        refine g_lload 2 S dX5_rootFrom_35 rfl ?_
        refine g_lcmp S dX5_rootFrom_37 ?_
        refine g_ifl_lt (tgt := 44) S dX5_rootFrom_38 (by decide) hf (fun c hf => ?_) (fun c hf => ?_)
        · refine g_lload 0 S dX5_rootFrom_44 rfl ?_
          refine g_lstore (lv' := [(4, .long ((x4 + (x2 / x4)) / 2)), (7, .long ((x4 + (x2 / x4)) / 2)), (2, .long x2), (6, .int x6)]) S dX5_rootFrom_46 (by decide) rfl ?_
          refine g_iinc (v := (x6 + 1)) (lv' := [(6, .int (x6 + 1)), (4, .long ((x4 + (x2 / x4)) / 2)), (7, .long ((x4 + (x2 / x4)) / 2)), (2, .long x2)]) 3 S dX5_rootFrom_48 rfl rfl (by decide) rfl ?_
          refine g_goto (tgt := 6) S dX5_rootFrom_51 (by decide) ?_
          refine Go.sub [3, 1, 0] rfl ?_
          exact ih _ _ _ hf
        · refine g_lload 2 S dX5_rootFrom_41 rfl ?_
          exact g_lretP rt hf dX5_rootFrom_43
      · refine g_lload 1 S dX5_rootFrom_54 rfl ?_
        exact g_lretP rt hf dX5_rootFrom_56
def f_X5_rootFrom (z : Nat → Nat) (M : Mem) (p1 : Int64) (p2 : Int64) : Option Int64 := f_X5_rootFrom_6 z M 1000 p2 p1 0
theorem c_X5_rootFrom {l : Launch} {G : GG} {a : AA} {M : Mem} {p1 : Int64} {p2 : Int64} {r : Int64} (hf : f_X5_rootFrom a.1 M p1 p2 = some r) : CtL l G a yX5_rootFrom cX5_rootFrom 9 (rmD 0) [.long p1, .long p2] M r M := by
  refine ct_L (by decide) rfl (own := RX5) (Nat.le_of_ble_eq_true rfl) (fun K hl hg S rt => ?_)
  subst hl; subst hg
  unfold f_X5_rootFrom at hf
  show Go K 9 a M 0 [(0, .long p1), (2, .long p2)] []
  refine g_lload_n 0 S dX5_rootFrom_0 rfl ?_
  refine g_lstore (lv' := [(4, .long p1), (0, .long p1), (2, .long p2)]) S dX5_rootFrom_1 (by decide) rfl ?_
  refine g_iconst (v := 0) S dX5_rootFrom_3 rfl ?_
  refine g_istore (lv' := [(6, .int 0), (4, .long p1), (0, .long p1), (2, .long p2)]) S dX5_rootFrom_4 (by decide) rfl ?_
  refine Go.sub [3, 1, 0] rfl ?_
  exact t_X5_rootFrom_6  S rt 1000 _ _ _ hf
-- BridleBook$Train.tensionAt(I)I
theorem dX5_tensionAt_0 : decode cX5_tensionAt 0 = .ok (.aload_n 0, 1) := by decide +kernel
theorem dX5_tensionAt_1 : decode cX5_tensionAt 1 = .ok (.iload_n 1, 1) := by decide +kernel
theorem dX5_tensionAt_2 : decode cX5_tensionAt 2 = .ok (.invokevirtual 34, 3) := by decide +kernel
theorem dX5_tensionAt_5 : decode cX5_tensionAt 5 = .ok (.i2l, 1) := by decide +kernel
theorem dX5_tensionAt_6 : decode cX5_tensionAt 6 = .ok (.lstore_n 2, 1) := by decide +kernel
theorem dX5_tensionAt_7 : decode cX5_tensionAt 7 = .ok (.aload_n 0, 1) := by decide +kernel
theorem dX5_tensionAt_8 : decode cX5_tensionAt 8 = .ok (.iload_n 1, 1) := by decide +kernel
theorem dX5_tensionAt_9 : decode cX5_tensionAt 9 = .ok (.invokevirtual 38, 3) := by decide +kernel
theorem dX5_tensionAt_12 : decode cX5_tensionAt 12 = .ok (.i2l, 1) := by decide +kernel
theorem dX5_tensionAt_13 : decode cX5_tensionAt 13 = .ok (.lstore 4, 2) := by decide +kernel
theorem dX5_tensionAt_15 : decode cX5_tensionAt 15 = .ok (.lload_n 2, 1) := by decide +kernel
theorem dX5_tensionAt_16 : decode cX5_tensionAt 16 = .ok (.invokestatic 41, 3) := by decide +kernel
theorem dX5_tensionAt_19 : decode cX5_tensionAt 19 = .ok (.lload 4, 2) := by decide +kernel
theorem dX5_tensionAt_21 : decode cX5_tensionAt 21 = .ok (.invokestatic 41, 3) := by decide +kernel
theorem dX5_tensionAt_24 : decode cX5_tensionAt 24 = .ok (.ladd, 1) := by decide +kernel
theorem dX5_tensionAt_25 : decode cX5_tensionAt 25 = .ok (.lload_n 2, 1) := by decide +kernel
theorem dX5_tensionAt_26 : decode cX5_tensionAt 26 = .ok (.lload_n 2, 1) := by decide +kernel
theorem dX5_tensionAt_27 : decode cX5_tensionAt 27 = .ok (.lmul, 1) := by decide +kernel
theorem dX5_tensionAt_28 : decode cX5_tensionAt 28 = .ok (.lload 4, 2) := by decide +kernel
theorem dX5_tensionAt_30 : decode cX5_tensionAt 30 = .ok (.lload 4, 2) := by decide +kernel
theorem dX5_tensionAt_32 : decode cX5_tensionAt 32 = .ok (.lmul, 1) := by decide +kernel
theorem dX5_tensionAt_33 : decode cX5_tensionAt 33 = .ok (.ladd, 1) := by decide +kernel
theorem dX5_tensionAt_34 : decode cX5_tensionAt 34 = .ok (.invokestatic 45, 3) := by decide +kernel
theorem dX5_tensionAt_37 : decode cX5_tensionAt 37 = .ok (.l2i, 1) := by decide +kernel
theorem dX5_tensionAt_38 : decode cX5_tensionAt 38 = .ok (.ireturn, 1) := by decide +kernel
def f_X5_tensionAt (z : Nat → Nat) (M : Mem) (p1 : Int32) : Option Int32 := bd1 (f_X5_acrossAt z M p1) (fun r1 => bd1 (f_X5_upAt z M p1) (fun r2 => bd1 (f_X5_rootFrom z M ((labs (Int32.toInt64 r1)) + (labs (Int32.toInt64 r2))) (((Int32.toInt64 r1) * (Int32.toInt64 r1)) + ((Int32.toInt64 r2) * (Int32.toInt64 r2)))) (fun r3 => some (Int64.toInt32 r3))))
theorem c_X5_tensionAt {l : Launch} {G : GG} {a : AA} {M : Mem} {p1 : Int32} {r : Int32} (hf : f_X5_tensionAt a.1 M p1 = some r) : CtI l G a yX5_tensionAt cX5_tensionAt 6 .int (rmD 2) [.ref (a.2 57), .int p1] M r M := by
  refine ct_I (by decide) rfl rfl (own := RX5) (Nat.le_of_ble_eq_true rfl) (fun K hl hg S rt => ?_)
  subst hl; subst hg
  unfold f_X5_tensionAt at hf
  show Go K 6 a M 0 [(0, .ref (a.2 57)), (1, .int p1)] []
  refine g_aload_n 0 S dX5_tensionAt_0 rfl ?_
  refine g_iload_n 1 S dX5_tensionAt_1 rfl ?_
  obtain ⟨r1, hr1, hf⟩ := bd1_some hf
  refine g_cVI (st := []) S ob_57 rfl ok_X5_acrossAt lk_X5_34 (c_X5_acrossAt hr1) rfl rfl ⟨by decide, by decide⟩ (rmD_z _) (Nat.le_of_ble_eq_true rfl) dX5_tensionAt_2 ?_
  refine g_i2l S dX5_tensionAt_5 ?_
  refine g_lstore_n (lv' := [(2, .long (Int32.toInt64 r1)), (0, .ref (a.2 57)), (1, .int p1)]) S dX5_tensionAt_6 (by decide) rfl ?_
  refine g_aload_n 1 S dX5_tensionAt_7 rfl ?_
  refine g_iload_n 2 S dX5_tensionAt_8 rfl ?_
  obtain ⟨r2, hr2, hf⟩ := bd1_some hf
  refine g_cVI (st := []) S ob_57 rfl ok_X5_upAt lk_X5_38 (c_X5_upAt hr2) rfl rfl ⟨by decide, by decide⟩ (rmD_z _) (Nat.le_of_ble_eq_true rfl) dX5_tensionAt_9 ?_
  refine g_i2l S dX5_tensionAt_12 ?_
  refine g_lstore (lv' := [(4, .long (Int32.toInt64 r2)), (2, .long (Int32.toInt64 r1)), (0, .ref (a.2 57)), (1, .int p1)]) S dX5_tensionAt_13 (by decide) rfl ?_
  refine g_lload_n 1 S dX5_tensionAt_15 rfl ?_
  refine g_mabsL S lk_X5_41 (by decide) (Nat.le_of_ble_eq_true rfl) dX5_tensionAt_16 ?_
  refine g_lload 0 S dX5_tensionAt_19 rfl ?_
  refine g_mabsL S lk_X5_41 (by decide) (Nat.le_of_ble_eq_true rfl) dX5_tensionAt_21 ?_
  refine g_ladd S dX5_tensionAt_24 ?_
  refine g_lload_n 1 S dX5_tensionAt_25 rfl ?_
  refine g_lload_n 1 S dX5_tensionAt_26 rfl ?_
  refine g_lmul S dX5_tensionAt_27 ?_
  refine g_lload 0 S dX5_tensionAt_28 rfl ?_
  refine g_lload 0 S dX5_tensionAt_30 rfl ?_
  refine g_lmul S dX5_tensionAt_32 ?_
  refine g_ladd S dX5_tensionAt_33 ?_
  obtain ⟨r3, hr3, hf⟩ := bd1_some hf
  refine g_cSL (st := []) S ok_X5_rootFrom lk_X5_45 (c_X5_rootFrom hr3) rfl rfl ⟨by decide, by decide⟩ (rmD_z _) (Nat.le_of_ble_eq_true rfl) dX5_tensionAt_34 ?_
  refine g_l2i S dX5_tensionAt_37 ?_
  exact g_iretP rt hf dX5_tensionAt_38
-- BridleBook$Train.hundredths(II)I
theorem dX5_hundredths_0 : decode cX5_hundredths 0 = .ok (.iload_n 1, 1) := by decide +kernel
theorem dX5_hundredths_1 : decode cX5_hundredths 1 = .ok (.ifCond .ne 7, 3) := by decide +kernel
theorem dX5_hundredths_4 : decode cX5_hundredths 4 = .ok (.iconst 0, 1) := by decide +kernel
theorem dX5_hundredths_5 : decode cX5_hundredths 5 = .ok (.goto 13, 3) := by decide +kernel
theorem dX5_hundredths_8 : decode cX5_hundredths 8 = .ok (.ldc2_w 51, 3) := by decide +kernel
theorem dX5_hundredths_11 : decode cX5_hundredths 11 = .ok (.iload_n 0, 1) := by decide +kernel
theorem dX5_hundredths_12 : decode cX5_hundredths 12 = .ok (.i2l, 1) := by decide +kernel
theorem dX5_hundredths_13 : decode cX5_hundredths 13 = .ok (.lmul, 1) := by decide +kernel
theorem dX5_hundredths_14 : decode cX5_hundredths 14 = .ok (.iload_n 1, 1) := by decide +kernel
theorem dX5_hundredths_15 : decode cX5_hundredths 15 = .ok (.i2l, 1) := by decide +kernel
theorem dX5_hundredths_16 : decode cX5_hundredths 16 = .ok (.ldiv, 1) := by decide +kernel
theorem dX5_hundredths_17 : decode cX5_hundredths 17 = .ok (.l2i, 1) := by decide +kernel
theorem dX5_hundredths_18 : decode cX5_hundredths 18 = .ok (.ireturn, 1) := by decide +kernel
def f_X5_hundredths (z : Nat → Nat) (M : Mem) (p1 : Int32) (p2 : Int32) : Option Int32 := if p2 = 0 then some 0 else ck (decide (¬ (Int32.toInt64 p2) = 0)) (some (Int64.toInt32 ((100 * (Int32.toInt64 p1)) / (Int32.toInt64 p2))))
theorem c_X5_hundredths {l : Launch} {G : GG} {a : AA} {M : Mem} {p1 : Int32} {p2 : Int32} {r : Int32} (hf : f_X5_hundredths a.1 M p1 p2 = some r) : CtI l G a yX5_hundredths cX5_hundredths 2 .int (rmD 0) [.int p1, .int p2] M r M := by
  refine ct_I (by decide) rfl rfl (own := RX5) (Nat.le_of_ble_eq_true rfl) (fun K hl hg S rt => ?_)
  subst hl; subst hg
  unfold f_X5_hundredths at hf
  show Go K 2 a M 0 [(0, .int p1), (1, .int p2)] []
  refine g_iload_n 1 S dX5_hundredths_0 rfl ?_
  refine g_if_ne (tgt := 8) S dX5_hundredths_1 (by decide) hf (fun c hf => ?_) (fun c hf => ?_)
  · refine g_iconst (v := 0) S dX5_hundredths_4 rfl ?_
    refine g_goto (tgt := 18) S dX5_hundredths_5 (by decide) ?_
    exact g_iretP rt hf dX5_hundredths_18
  · refine g_ldc2 S lc_X5_51 dX5_hundredths_8 ?_
    refine g_iload_n 0 S dX5_hundredths_11 rfl ?_
    refine g_i2l S dX5_hundredths_12 ?_
    refine g_lmul S dX5_hundredths_13 ?_
    refine g_iload_n 1 S dX5_hundredths_14 rfl ?_
    refine g_i2l S dX5_hundredths_15 ?_
    refine g_ldivC S dX5_hundredths_16 hf (fun hf => ?_)
    refine g_l2i S dX5_hundredths_17 ?_
    exact g_iretP rt hf dX5_hundredths_18
-- BridleBook$Train.placeAcross(I)I
theorem dX5_placeAcross_0 : decode cX5_placeAcross 0 = .ok (.iconst 0, 1) := by decide +kernel
theorem dX5_placeAcross_1 : decode cX5_placeAcross 1 = .ok (.istore_n 2, 1) := by decide +kernel
theorem dX5_placeAcross_2 : decode cX5_placeAcross 2 = .ok (.iconst 1, 1) := by decide +kernel
theorem dX5_placeAcross_3 : decode cX5_placeAcross 3 = .ok (.istore_n 3, 1) := by decide +kernel
theorem dX5_placeAcross_4 : decode cX5_placeAcross 4 = .ok (.iload_n 3, 1) := by decide +kernel
theorem dX5_placeAcross_5 : decode cX5_placeAcross 5 = .ok (.iload_n 1, 1) := by decide +kernel
theorem dX5_placeAcross_6 : decode cX5_placeAcross 6 = .ok (.if_icmp .gt 25, 3) := by decide +kernel
theorem dX5_placeAcross_9 : decode cX5_placeAcross 9 = .ok (.iload_n 2, 1) := by decide +kernel
theorem dX5_placeAcross_10 : decode cX5_placeAcross 10 = .ok (.aload_n 0, 1) := by decide +kernel
theorem dX5_placeAcross_11 : decode cX5_placeAcross 11 = .ok (.iload_n 3, 1) := by decide +kernel
theorem dX5_placeAcross_12 : decode cX5_placeAcross 12 = .ok (.invokevirtual 34, 3) := by decide +kernel
theorem dX5_placeAcross_15 : decode cX5_placeAcross 15 = .ok (.aload_n 0, 1) := by decide +kernel
theorem dX5_placeAcross_16 : decode cX5_placeAcross 16 = .ok (.iload_n 3, 1) := by decide +kernel
theorem dX5_placeAcross_17 : decode cX5_placeAcross 17 = .ok (.invokevirtual 53, 3) := by decide +kernel
theorem dX5_placeAcross_20 : decode cX5_placeAcross 20 = .ok (.invokestatic 56, 3) := by decide +kernel
theorem dX5_placeAcross_23 : decode cX5_placeAcross 23 = .ok (.iadd, 1) := by decide +kernel
theorem dX5_placeAcross_24 : decode cX5_placeAcross 24 = .ok (.istore_n 2, 1) := by decide +kernel
theorem dX5_placeAcross_25 : decode cX5_placeAcross 25 = .ok (.iinc 3 1, 3) := by decide +kernel
theorem dX5_placeAcross_28 : decode cX5_placeAcross 28 = .ok (.goto (-24), 3) := by decide +kernel
theorem dX5_placeAcross_31 : decode cX5_placeAcross 31 = .ok (.iload_n 2, 1) := by decide +kernel
theorem dX5_placeAcross_32 : decode cX5_placeAcross 32 = .ok (.ireturn, 1) := by decide +kernel
def f_X5_placeAcross_4 (z : Nat → Nat) (M : Mem) : Nat → Int32 → Int32 → Int32 → Option Int32
  | 0, _, _, _ => none
  | fu + 1, x1, x2, x3 => if x1 < x3 then some x2 else bd1 (f_X5_acrossAt z M x3) (fun r1 => bd1 (f_X5_tensionAt z M x3) (fun r2 => bd1 (f_X5_hundredths z M r1 r2) (fun r3 => f_X5_placeAcross_4 z M fu x1 (x2 + r3) (x3 + 1))))
theorem t_X5_placeAcross_4 {K : KK} {a : AA} (S : Sx K RX5 cX5_placeAcross 4 (rmD 3)) {r : Int32} {M : Mem} (rt : RtI K a cX5_placeAcross r M) : ∀ (fu : Nat) (x1 : Int32) (x2 : Int32) (x3 : Int32), f_X5_placeAcross_4 a.1 M fu x1 x2 x3 = some r → Go K 4 a M 4 [(0, .ref (a.2 57)), (1, .int x1), (2, .int x2), (3, .int x3)] [] := by
  intro fu
  induction fu with
  | zero => intro x1 x2 x3 hf; exact absurd hf (by simp [f_X5_placeAcross_4])
  | succ fu ih =>
    intro x1 x2 x3 hf
    rw [f_X5_placeAcross_4] at hf
    refine g_iload_n 3 S dX5_placeAcross_4 rfl ?_
    refine g_iload_n 1 S dX5_placeAcross_5 rfl ?_
    refine g_icmp_gt (tgt := 31) S dX5_placeAcross_6 (by decide) hf (fun c hf => ?_) (fun c hf => ?_)
    · refine g_iload_n 2 S dX5_placeAcross_31 rfl ?_
      exact g_iretP rt hf dX5_placeAcross_32
    · refine g_iload_n 2 S dX5_placeAcross_9 rfl ?_
      refine g_aload_n 0 S dX5_placeAcross_10 rfl ?_
      refine g_iload_n 3 S dX5_placeAcross_11 rfl ?_
      obtain ⟨r1, hr1, hf⟩ := bd1_some hf
      refine g_cVI (st := [.int x2]) S ob_57 rfl ok_X5_acrossAt lk_X5_34 (c_X5_acrossAt hr1) rfl rfl ⟨by decide, by decide⟩ (rmD_z _) (Nat.le_of_ble_eq_true rfl) dX5_placeAcross_12 ?_
      refine g_aload_n 0 S dX5_placeAcross_15 rfl ?_
      refine g_iload_n 3 S dX5_placeAcross_16 rfl ?_
      obtain ⟨r2, hr2, hf⟩ := bd1_some hf
      refine g_cVI (st := [.int r1, .int x2]) S ob_57 rfl ok_X5_tensionAt lk_X5_53 (c_X5_tensionAt hr2) rfl rfl ⟨by decide, by decide⟩ (rmD_z _) (Nat.le_of_ble_eq_true rfl) dX5_placeAcross_17 ?_
      obtain ⟨r3, hr3, hf⟩ := bd1_some hf
      refine g_cSI (st := [.int x2]) S ok_X5_hundredths lk_X5_56 (c_X5_hundredths hr3) rfl rfl ⟨by decide, by decide⟩ (rmD_z _) (Nat.le_of_ble_eq_true rfl) dX5_placeAcross_20 ?_
      refine g_iadd S dX5_placeAcross_23 ?_
      refine g_istore_n (lv' := [(2, .int (x2 + r3)), (0, .ref (a.2 57)), (1, .int x1), (3, .int x3)]) S dX5_placeAcross_24 (by decide) rfl ?_
      refine g_iinc (v := (x3 + 1)) (lv' := [(3, .int (x3 + 1)), (2, .int (x2 + r3)), (0, .ref (a.2 57)), (1, .int x1)]) 3 S dX5_placeAcross_25 rfl rfl (by decide) rfl ?_
      refine g_goto (tgt := 4) S dX5_placeAcross_28 (by decide) ?_
      refine Go.sub [2, 3, 1, 0] rfl ?_
      exact ih _ _ _ hf
def f_X5_placeAcross (z : Nat → Nat) (M : Mem) (p1 : Int32) : Option Int32 := f_X5_placeAcross_4 z M 1000 p1 0 1
theorem c_X5_placeAcross {l : Launch} {G : GG} {a : AA} {M : Mem} {p1 : Int32} {r : Int32} (hf : f_X5_placeAcross a.1 M p1 = some r) : CtI l G a yX5_placeAcross cX5_placeAcross 4 .int (rmD 3) [.ref (a.2 57), .int p1] M r M := by
  refine ct_I (by decide) rfl rfl (own := RX5) (Nat.le_of_ble_eq_true rfl) (fun K hl hg S rt => ?_)
  subst hl; subst hg
  unfold f_X5_placeAcross at hf
  show Go K 4 a M 0 [(0, .ref (a.2 57)), (1, .int p1)] []
  refine g_iconst (v := 0) S dX5_placeAcross_0 rfl ?_
  refine g_istore_n (lv' := [(2, .int 0), (0, .ref (a.2 57)), (1, .int p1)]) S dX5_placeAcross_1 (by decide) rfl ?_
  refine g_iconst (v := 1) S dX5_placeAcross_2 rfl ?_
  refine g_istore_n (lv' := [(3, .int 1), (2, .int 0), (0, .ref (a.2 57)), (1, .int p1)]) S dX5_placeAcross_3 (by decide) rfl ?_
  refine Go.sub [2, 3, 1, 0] rfl ?_
  exact t_X5_placeAcross_4  S rt 1000 _ _ _ hf
-- BridleBook$Train.placeUp(I)I
theorem dX5_placeUp_0 : decode cX5_placeUp 0 = .ok (.iconst 0, 1) := by decide +kernel
theorem dX5_placeUp_1 : decode cX5_placeUp 1 = .ok (.istore_n 2, 1) := by decide +kernel
theorem dX5_placeUp_2 : decode cX5_placeUp 2 = .ok (.iconst 1, 1) := by decide +kernel
theorem dX5_placeUp_3 : decode cX5_placeUp 3 = .ok (.istore_n 3, 1) := by decide +kernel
theorem dX5_placeUp_4 : decode cX5_placeUp 4 = .ok (.iload_n 3, 1) := by decide +kernel
theorem dX5_placeUp_5 : decode cX5_placeUp 5 = .ok (.iload_n 1, 1) := by decide +kernel
theorem dX5_placeUp_6 : decode cX5_placeUp 6 = .ok (.if_icmp .gt 25, 3) := by decide +kernel
theorem dX5_placeUp_9 : decode cX5_placeUp 9 = .ok (.iload_n 2, 1) := by decide +kernel
theorem dX5_placeUp_10 : decode cX5_placeUp 10 = .ok (.aload_n 0, 1) := by decide +kernel
theorem dX5_placeUp_11 : decode cX5_placeUp 11 = .ok (.iload_n 3, 1) := by decide +kernel
theorem dX5_placeUp_12 : decode cX5_placeUp 12 = .ok (.invokevirtual 38, 3) := by decide +kernel
theorem dX5_placeUp_15 : decode cX5_placeUp 15 = .ok (.aload_n 0, 1) := by decide +kernel
theorem dX5_placeUp_16 : decode cX5_placeUp 16 = .ok (.iload_n 3, 1) := by decide +kernel
theorem dX5_placeUp_17 : decode cX5_placeUp 17 = .ok (.invokevirtual 53, 3) := by decide +kernel
theorem dX5_placeUp_20 : decode cX5_placeUp 20 = .ok (.invokestatic 56, 3) := by decide +kernel
theorem dX5_placeUp_23 : decode cX5_placeUp 23 = .ok (.iadd, 1) := by decide +kernel
theorem dX5_placeUp_24 : decode cX5_placeUp 24 = .ok (.istore_n 2, 1) := by decide +kernel
theorem dX5_placeUp_25 : decode cX5_placeUp 25 = .ok (.iinc 3 1, 3) := by decide +kernel
theorem dX5_placeUp_28 : decode cX5_placeUp 28 = .ok (.goto (-24), 3) := by decide +kernel
theorem dX5_placeUp_31 : decode cX5_placeUp 31 = .ok (.iload_n 2, 1) := by decide +kernel
theorem dX5_placeUp_32 : decode cX5_placeUp 32 = .ok (.ireturn, 1) := by decide +kernel
def f_X5_placeUp_4 (z : Nat → Nat) (M : Mem) : Nat → Int32 → Int32 → Int32 → Option Int32
  | 0, _, _, _ => none
  | fu + 1, x1, x2, x3 => if x1 < x3 then some x2 else bd1 (f_X5_upAt z M x3) (fun r1 => bd1 (f_X5_tensionAt z M x3) (fun r2 => bd1 (f_X5_hundredths z M r1 r2) (fun r3 => f_X5_placeUp_4 z M fu x1 (x2 + r3) (x3 + 1))))
theorem t_X5_placeUp_4 {K : KK} {a : AA} (S : Sx K RX5 cX5_placeUp 4 (rmD 3)) {r : Int32} {M : Mem} (rt : RtI K a cX5_placeUp r M) : ∀ (fu : Nat) (x1 : Int32) (x2 : Int32) (x3 : Int32), f_X5_placeUp_4 a.1 M fu x1 x2 x3 = some r → Go K 4 a M 4 [(0, .ref (a.2 57)), (1, .int x1), (2, .int x2), (3, .int x3)] [] := by
  intro fu
  induction fu with
  | zero => intro x1 x2 x3 hf; exact absurd hf (by simp [f_X5_placeUp_4])
  | succ fu ih =>
    intro x1 x2 x3 hf
    rw [f_X5_placeUp_4] at hf
    refine g_iload_n 3 S dX5_placeUp_4 rfl ?_
    refine g_iload_n 1 S dX5_placeUp_5 rfl ?_
    refine g_icmp_gt (tgt := 31) S dX5_placeUp_6 (by decide) hf (fun c hf => ?_) (fun c hf => ?_)
    · refine g_iload_n 2 S dX5_placeUp_31 rfl ?_
      exact g_iretP rt hf dX5_placeUp_32
    · refine g_iload_n 2 S dX5_placeUp_9 rfl ?_
      refine g_aload_n 0 S dX5_placeUp_10 rfl ?_
      refine g_iload_n 3 S dX5_placeUp_11 rfl ?_
      obtain ⟨r1, hr1, hf⟩ := bd1_some hf
      refine g_cVI (st := [.int x2]) S ob_57 rfl ok_X5_upAt lk_X5_38 (c_X5_upAt hr1) rfl rfl ⟨by decide, by decide⟩ (rmD_z _) (Nat.le_of_ble_eq_true rfl) dX5_placeUp_12 ?_
      refine g_aload_n 0 S dX5_placeUp_15 rfl ?_
      refine g_iload_n 3 S dX5_placeUp_16 rfl ?_
      obtain ⟨r2, hr2, hf⟩ := bd1_some hf
      refine g_cVI (st := [.int r1, .int x2]) S ob_57 rfl ok_X5_tensionAt lk_X5_53 (c_X5_tensionAt hr2) rfl rfl ⟨by decide, by decide⟩ (rmD_z _) (Nat.le_of_ble_eq_true rfl) dX5_placeUp_17 ?_
      obtain ⟨r3, hr3, hf⟩ := bd1_some hf
      refine g_cSI (st := [.int x2]) S ok_X5_hundredths lk_X5_56 (c_X5_hundredths hr3) rfl rfl ⟨by decide, by decide⟩ (rmD_z _) (Nat.le_of_ble_eq_true rfl) dX5_placeUp_20 ?_
      refine g_iadd S dX5_placeUp_23 ?_
      refine g_istore_n (lv' := [(2, .int (x2 + r3)), (0, .ref (a.2 57)), (1, .int x1), (3, .int x3)]) S dX5_placeUp_24 (by decide) rfl ?_
      refine g_iinc (v := (x3 + 1)) (lv' := [(3, .int (x3 + 1)), (2, .int (x2 + r3)), (0, .ref (a.2 57)), (1, .int x1)]) 3 S dX5_placeUp_25 rfl rfl (by decide) rfl ?_
      refine g_goto (tgt := 4) S dX5_placeUp_28 (by decide) ?_
      refine Go.sub [2, 3, 1, 0] rfl ?_
      exact ih _ _ _ hf
def f_X5_placeUp (z : Nat → Nat) (M : Mem) (p1 : Int32) : Option Int32 := f_X5_placeUp_4 z M 1000 p1 0 1
theorem c_X5_placeUp {l : Launch} {G : GG} {a : AA} {M : Mem} {p1 : Int32} {r : Int32} (hf : f_X5_placeUp a.1 M p1 = some r) : CtI l G a yX5_placeUp cX5_placeUp 4 .int (rmD 3) [.ref (a.2 57), .int p1] M r M := by
  refine ct_I (by decide) rfl rfl (own := RX5) (Nat.le_of_ble_eq_true rfl) (fun K hl hg S rt => ?_)
  subst hl; subst hg
  unfold f_X5_placeUp at hf
  show Go K 4 a M 0 [(0, .ref (a.2 57)), (1, .int p1)] []
  refine g_iconst (v := 0) S dX5_placeUp_0 rfl ?_
  refine g_istore_n (lv' := [(2, .int 0), (0, .ref (a.2 57)), (1, .int p1)]) S dX5_placeUp_1 (by decide) rfl ?_
  refine g_iconst (v := 1) S dX5_placeUp_2 rfl ?_
  refine g_istore_n (lv' := [(3, .int 1), (2, .int 0), (0, .ref (a.2 57)), (1, .int p1)]) S dX5_placeUp_3 (by decide) rfl ?_
  refine Go.sub [2, 3, 1, 0] rfl ?_
  exact t_X5_placeUp_4  S rt 1000 _ _ _ hf
