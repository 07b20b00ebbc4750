/-! the law's loop -/
def HIall (Inv : (Nat → Nat) → Mem → Prop) : Prop := HI_kite Inv ∧ HI_panel Inv ∧ HI_knot Inv ∧ HI_table Inv ∧ HI_force Inv ∧ HI_stands Inv ∧ HI_steady Inv ∧ HI_pull Inv ∧ HI_trim Inv ∧ HI_wind Inv ∧ HI_line Inv ∧ HI_tie Inv ∧ HI_untie Inv ∧ HI_weaken Inv ∧ HI_ofLine Inv ∧ HI_step Inv ∧ HI_part Inv ∧ HI_least Inv ∧ HI_flyer Inv ∧ HI_blow Inv ∧ HI_tree Inv ∧ HI_agree Inv ∧ HI_fly Inv ∧ HI_why Inv ∧ HI_cone Inv ∧ HI_turn Inv ∧ HI_tangled Inv ∧ HI_undo Inv ∧ HI_unwind Inv ∧ HI_cut Inv ∧ HI_count Inv
def RtF (K : KK) : Prop := ∀ (c n pc : Nat) (H : Heap) (locs : List Loc) (ls : Array Slot), c ≤ 600000 → n ≤ 7302250 → decode cL_law pc = .ok (.ireturn, 1) → va_S (kF K) (kS K).heap H locs → W (kP K) (kL K) (kE K) (kR K) (kS K) (kM K) (kA K) (kB K) (kT K) (kC K) H locs c n (kQ K) (F0 (kM K) pc ls [.int 1])
theorem g_slen {K : KK} {own : String} {cc : ByteArray} {nL : Nat} {rm : Room} {a : AA} {M : Mem} {pc : Nat} {lv : List (Nat × Value)} {st : List Value} {b L : Nat} {xs : Nat → Int32} (S : Sx K own cc nL rm) (X : Xs K b L xs) (d : decode cc pc = .ok (.arraylength, 1)) (k : Go K nL a M (pc + 1) lv (.int (nI L) :: st)) : Go K nL a M pc lv (.ref b :: st) := fun H locs ls h1 h2 => va_slen S.1 S.2.1 X.1 X.2.1 X.2.2 h1.2.2 d (k H locs ls h1 h2)
theorem nx_5 {K : KK} {a : AA} {M : Mem} {b i : Nat} (S : Sx K RL cL_law 4 room_1) (k : Go K 4 a M 18 [(0, .ref b), (1, .ref (a.2 50)), (2, .ref (a.2 0)), (3, .int (nI (i + 5)))] []) : Go K 4 a M 1245 [(0, .ref b), (1, .ref (a.2 50)), (2, .ref (a.2 0)), (3, .int (nI i))] [] := by
  refine g_iinc (v := (nI i + 5)) (lv' := [(3, .int (nI i + 5)), (0, .ref b), (1, .ref (a.2 50)), (2, .ref (a.2 0))]) 3 S dL_law_1245 rfl rfl (by decide) rfl ?_
  refine g_goto (tgt := 18) S dL_law_1248 (by decide) ?_
  have e : nI i + 5 = nI (i + 5) := nI_add i 5
  rw [e]
  exact Go.sub [1, 2, 3, 0] rfl k
theorem law_loop {Inv : (Nat → Nat) → Mem → Prop} (HA : HIall Inv) {b L : Nat} {xs : Nat → Int32} (hL : L ≤ 2560) : ∀ (k i : Nat) (K : KK) (a : AA) (M : Mem), L + 1 ≤ i + 5 * k → i ≤ 2565 → kc K + 4 * k ≤ 100000 → ks K + 25 * k ≤ 100000 → Sx K RL cL_law 4 room_1 → Xs K b L xs → RtF K → Inv a.1 M → Go K 4 a M 18 [(0, .ref b), (1, .ref (a.2 50)), (2, .ref (a.2 0)), (3, .int (nI i))] [] := by
  obtain ⟨Hkite, Hpanel, Hknot, Htable, Hforce, Hstands, Hsteady, Hpull, Htrim, Hwind, Hline, Htie, Huntie, Hweaken, HofLine, Hstep, Hpart, Hleast, Hflyer, Hblow, Htree, Hagree, Hfly, Hwhy, Hcone, Hturn, Htangled, Hundo, Hunwind, Hcut, Hcount⟩ := HA
  intro k
  induction k with
  | zero =>
    intro i K a M h1 h2 h3 h4 S X rt inv
    refine g_iload_n 3 S dL_law_18 rfl ?_
    refine g_aload_n 0 S dL_law_19 rfl ?_
    refine g_slen S X dL_law_20 ?_
    refine g_iconst (v := 5) S dL_law_21 rfl ?_
    refine g_isub S dL_law_22 ?_
    have hlt : nI L - 5 < nI i := by
      rw [Int32.lt_iff_toInt_lt, show ((nI L - 5 : Int32)).toInt = (L : Int) - 5 from pk_sub_toInt (a := L) (b := 5) (by omega) (by decide), nI_toInt (by omega)]
      omega
    refine g_icmp_gt (et := some ()) (ef := some ()) (res := ()) (tgt := 1251) S dL_law_23 (by decide) (ite_self _) (fun c _ => ?_) (fun c _ => absurd hlt c)
    refine g_iconst (v := 1) S dL_law_1251 rfl ?_
    exact fun H locs ls w1 w2 => rt (kc K) (ks K) 1252 H locs ls (by omega) (by omega) dL_law_1252 w1.2.2
  | succ k ih =>
    intro i K a M h1 h2 h3 h4 S X rt inv
    refine g_iload_n 3 S dL_law_18 rfl ?_
    refine g_aload_n 0 S dL_law_19 rfl ?_
    refine g_slen S X dL_law_20 ?_
    refine g_iconst (v := 5) S dL_law_21 rfl ?_
    refine g_isub S dL_law_22 ?_
    refine g_icmp_gt (et := some ()) (ef := some ()) (res := ()) (tgt := 1251) S dL_law_23 (by decide) (ite_self _) (fun c _ => ?_) (fun c _ => ?_)
    · refine g_iconst (v := 1) S dL_law_1251 rfl ?_
      exact fun H locs ls w1 w2 => rt (kc K) (ks K) 1252 H locs ls (by omega) (by omega) dL_law_1252 w1.2.2
    · have hi : i + 5 ≤ L := by
        rw [Int32.lt_iff_toInt_lt, show ((nI L - 5 : Int32)).toInt = (L : Int) - 5 from pk_sub_toInt (a := L) (b := 5) (by omega) (by decide), nI_toInt (by omega)] at c
        omega
      have nx : ∀ (K' : KK) (a' : AA) (M' : Mem), kc K' ≤ kc K + 4 → ks K' ≤ ks K + 25 → Sx K' RL cL_law 4 room_1 → Xs K' b L xs → RtF K' → Inv a'.1 M' → Go K' 4 a' M' 1245 [(0, .ref b), (1, .ref (a'.2 50)), (2, .ref (a'.2 0)), (3, .int (nI i))] [] := fun K' a' M' q1 q2 S' X' rt' inv' => nx_5 S' (ih (i + 5) K' a' M' (by omega) (by omega) (by omega) (by omega) S' X' rt' inv')
      have nx0 : ∀ M', Inv a.1 M' → Go K 4 a M' 1245 [(0, .ref b), (1, .ref (a.2 50)), (2, .ref (a.2 0)), (3, .int (nI i))] [] := fun M' q => nx K a M' (by omega) (by omega) S X rt q
      refine g_aload_n 0 S dL_law_26 rfl ?_
      refine g_iload_n 3 S dL_law_27 rfl ?_
      refine g_sld S X (vp_in_nI (by omega) (by omega)) dL_law_28 ?_
      refine g_bipush (v := 31) S dL_law_29 rfl ?_
      refine g_iand S dL_law_31 ?_
      generalize (xs (Int32.toNatClampNeg (nI i)) &&& 31) = v
      by_cases c0 : v = 0
      · refine g_tabIn (tgt := 172) 0 S dL_law_32 c0 (by decide) (by decide) rfl (by decide) ?_
        have hroom : kc K + 4 ≤ room_1.cells ∧ ks K + 25 ≤ room_1.slots := ⟨Nat.le_trans (show kc K + 4 ≤ 100000 by omega) (by decide), Nat.le_trans (show ks K + 25 ≤ 100000 by omega) (by decide)⟩
        refine lc_kite Hkite S X hi hL hroom inv (fun a' M' q5 q0 q => ?_)
        have h9 := nx (kU K (kc K + 4) (ks K + 25)) a' M' (show kc K + 4 ≤ kc K + 4 by omega) (show ks K + 25 ≤ ks K + 25 by omega) (Sx.up S hroom.1 hroom.2) X rt q
        rw [q5, q0] at h9
        exact h9
      by_cases c1 : v = 1
      · refine g_tabIn (tgt := 185) 1 S dL_law_32 c1 (by decide) (by decide) rfl (by decide) ?_
        exact lc_panel Hpanel S X hi hL inv nx0
      by_cases c2 : v = 2
      · refine g_tabIn (tgt := 238) 2 S dL_law_32 c2 (by decide) (by decide) rfl (by decide) ?_
        exact lc_knot Hknot S X hi hL inv nx0
      by_cases c3 : v = 3
      · refine g_tabIn (tgt := 271) 3 S dL_law_32 c3 (by decide) (by decide) rfl (by decide) ?_
        exact lc_table Htable S X hi hL inv nx0
      by_cases c4 : v = 4
      · refine g_tabIn (tgt := 314) 4 S dL_law_32 c4 (by decide) (by decide) rfl (by decide) ?_
        exact lc_force Hforce S X hi hL inv nx0
      by_cases c5 : v = 5
      · refine g_tabIn (tgt := 367) 5 S dL_law_32 c5 (by decide) (by decide) rfl (by decide) ?_
        exact lc_stands Hstands S X hi hL inv nx0
      by_cases c6 : v = 6
      · refine g_tabIn (tgt := 400) 6 S dL_law_32 c6 (by decide) (by decide) rfl (by decide) ?_
        exact lc_steady Hsteady S X hi hL inv nx0
      by_cases c7 : v = 7
      · refine g_tabIn (tgt := 433) 7 S dL_law_32 c7 (by decide) (by decide) rfl (by decide) ?_
        exact lc_pull Hpull S X hi hL inv nx0
      by_cases c8 : v = 8
      · refine g_tabIn (tgt := 476) 8 S dL_law_32 c8 (by decide) (by decide) rfl (by decide) ?_
        exact lc_trim Htrim S X hi hL inv nx0
      by_cases c9 : v = 9
      · refine g_tabIn (tgt := 529) 9 S dL_law_32 c9 (by decide) (by decide) rfl (by decide) ?_
        exact lc_wind Hwind S X hi hL inv nx0
      by_cases c10 : v = 10
      · refine g_tabIn (tgt := 562) 10 S dL_law_32 c10 (by decide) (by decide) rfl (by decide) ?_
        have hroom : kc K + 2 ≤ room_1.cells ∧ ks K + 15 ≤ room_1.slots := ⟨Nat.le_trans (show kc K + 2 ≤ 100000 by omega) (by decide), Nat.le_trans (show ks K + 15 ≤ 100000 by omega) (by decide)⟩
        refine lc_line Hline S X hi hL hroom inv (fun a' M' q5 q0 q => ?_)
        have h9 := nx (kU K (kc K + 2) (ks K + 15)) a' M' (show kc K + 2 ≤ kc K + 4 by omega) (show ks K + 15 ≤ ks K + 25 by omega) (Sx.up S hroom.1 hroom.2) X rt q
        rw [q5, q0] at h9
        exact h9
      by_cases c11 : v = 11
      · refine g_tabIn (tgt := 605) 11 S dL_law_32 c11 (by decide) (by decide) rfl (by decide) ?_
        exact lc_tie Htie S X hi hL inv nx0
      by_cases c12 : v = 12
      · refine g_tabIn (tgt := 648) 12 S dL_law_32 c12 (by decide) (by decide) rfl (by decide) ?_
        exact lc_untie Huntie S X hi hL inv nx0
      by_cases c13 : v = 13
      · refine g_tabIn (tgt := 671) 13 S dL_law_32 c13 (by decide) (by decide) rfl (by decide) ?_
        exact lc_weaken Hweaken S X hi hL inv nx0
      by_cases c14 : v = 14
      · refine g_tabIn (tgt := 704) 14 S dL_law_32 c14 (by decide) (by decide) rfl (by decide) ?_
        exact lc_ofLine HofLine S X hi hL inv nx0
      by_cases c15 : v = 15
      · refine g_tabIn (tgt := 737) 15 S dL_law_32 c15 (by decide) (by decide) rfl (by decide) ?_
        exact lc_step Hstep S X hi hL inv nx0
      by_cases c16 : v = 16
      · refine g_tabIn (tgt := 780) 16 S dL_law_32 c16 (by decide) (by decide) rfl (by decide) ?_
        exact lc_part Hpart S X hi hL inv nx0
      by_cases c17 : v = 17
      · refine g_tabIn (tgt := 803) 17 S dL_law_32 c17 (by decide) (by decide) rfl (by decide) ?_
        exact lc_least Hleast S X hi hL inv nx0
      by_cases c18 : v = 18
      · refine g_tabIn (tgt := 836) 18 S dL_law_32 c18 (by decide) (by decide) rfl (by decide) ?_
        have hroom : kc K + 1 ≤ room_1.cells ∧ ks K + 4 ≤ room_1.slots := ⟨Nat.le_trans (show kc K + 1 ≤ 100000 by omega) (by decide), Nat.le_trans (show ks K + 4 ≤ 100000 by omega) (by decide)⟩
        refine lc_flyer Hflyer S X hi hL hroom inv (fun a' M' q5 q0 q => ?_)
        have h9 := nx (kU K (kc K + 1) (ks K + 4)) a' M' (show kc K + 1 ≤ kc K + 4 by omega) (show ks K + 4 ≤ ks K + 25 by omega) (Sx.up S hroom.1 hroom.2) X rt q
        rw [q5, q0] at h9
        exact h9
      by_cases c19 : v = 19
      · refine g_tabIn (tgt := 869) 19 S dL_law_32 c19 (by decide) (by decide) rfl (by decide) ?_
        exact lc_blow Hblow S X hi hL inv nx0
      by_cases c20 : v = 20
      · refine g_tabIn (tgt := 902) 20 S dL_law_32 c20 (by decide) (by decide) rfl (by decide) ?_
        exact lc_tree Htree S X hi hL inv nx0
      by_cases c21 : v = 21
      · refine g_tabIn (tgt := 925) 21 S dL_law_32 c21 (by decide) (by decide) rfl (by decide) ?_
        exact lc_agree Hagree S X hi hL inv nx0
      by_cases c22 : v = 22
      · refine g_tabIn (tgt := 968) 22 S dL_law_32 c22 (by decide) (by decide) rfl (by decide) ?_
        exact lc_fly Hfly S X hi hL inv nx0
      by_cases c23 : v = 23
      · refine g_tabIn (tgt := 1001) 23 S dL_law_32 c23 (by decide) (by decide) rfl (by decide) ?_
        exact lc_why Hwhy S X hi hL inv nx0
      by_cases c24 : v = 24
      · refine g_tabIn (tgt := 1024) 24 S dL_law_32 c24 (by decide) (by decide) rfl (by decide) ?_
        exact lc_cone Hcone S X hi hL inv nx0
      by_cases c25 : v = 25
      · refine g_tabIn (tgt := 1057) 25 S dL_law_32 c25 (by decide) (by decide) rfl (by decide) ?_
        exact lc_turn Hturn S X hi hL inv nx0
      by_cases c26 : v = 26
      · refine g_tabIn (tgt := 1100) 26 S dL_law_32 c26 (by decide) (by decide) rfl (by decide) ?_
        exact lc_tangled Htangled S X hi hL inv nx0
      by_cases c27 : v = 27
      · refine g_tabIn (tgt := 1133) 27 S dL_law_32 c27 (by decide) (by decide) rfl (by decide) ?_
        exact lc_undo Hundo S X hi hL inv nx0
      by_cases c28 : v = 28
      · refine g_tabIn (tgt := 1156) 28 S dL_law_32 c28 (by decide) (by decide) rfl (by decide) ?_
        exact lc_unwind Hunwind S X hi hL inv nx0
      by_cases c29 : v = 29
      · refine g_tabIn (tgt := 1179) 29 S dL_law_32 c29 (by decide) (by decide) rfl (by decide) ?_
        exact lc_cut Hcut S X hi hL inv nx0
      by_cases c30 : v = 30
      · refine g_tabIn (tgt := 1222) 30 S dL_law_32 c30 (by decide) (by decide) rfl (by decide) ?_
        exact lc_count Hcount S X hi hL inv nx0
      refine g_tabOut (tgt := 1245) S dL_law_32 (by have := sw_ne c0; simp only [show ((0 : Int32).toInt) = 0 from by decide] at this; have := sw_ne c1; simp only [show ((1 : Int32).toInt) = 1 from by decide] at this; have := sw_ne c2; simp only [show ((2 : Int32).toInt) = 2 from by decide] at this; have := sw_ne c3; simp only [show ((3 : Int32).toInt) = 3 from by decide] at this; have := sw_ne c4; simp only [show ((4 : Int32).toInt) = 4 from by decide] at this; have := sw_ne c5; simp only [show ((5 : Int32).toInt) = 5 from by decide] at this; have := sw_ne c6; simp only [show ((6 : Int32).toInt) = 6 from by decide] at this; have := sw_ne c7; simp only [show ((7 : Int32).toInt) = 7 from by decide] at this; have := sw_ne c8; simp only [show ((8 : Int32).toInt) = 8 from by decide] at this; have := sw_ne c9; simp only [show ((9 : Int32).toInt) = 9 from by decide] at this; have := sw_ne c10; simp only [show ((10 : Int32).toInt) = 10 from by decide] at this; have := sw_ne c11; simp only [show ((11 : Int32).toInt) = 11 from by decide] at this; have := sw_ne c12; simp only [show ((12 : Int32).toInt) = 12 from by decide] at this; have := sw_ne c13; simp only [show ((13 : Int32).toInt) = 13 from by decide] at this; have := sw_ne c14; simp only [show ((14 : Int32).toInt) = 14 from by decide] at this; have := sw_ne c15; simp only [show ((15 : Int32).toInt) = 15 from by decide] at this; have := sw_ne c16; simp only [show ((16 : Int32).toInt) = 16 from by decide] at this; have := sw_ne c17; simp only [show ((17 : Int32).toInt) = 17 from by decide] at this; have := sw_ne c18; simp only [show ((18 : Int32).toInt) = 18 from by decide] at this; have := sw_ne c19; simp only [show ((19 : Int32).toInt) = 19 from by decide] at this; have := sw_ne c20; simp only [show ((20 : Int32).toInt) = 20 from by decide] at this; have := sw_ne c21; simp only [show ((21 : Int32).toInt) = 21 from by decide] at this; have := sw_ne c22; simp only [show ((22 : Int32).toInt) = 22 from by decide] at this; have := sw_ne c23; simp only [show ((23 : Int32).toInt) = 23 from by decide] at this; have := sw_ne c24; simp only [show ((24 : Int32).toInt) = 24 from by decide] at this; have := sw_ne c25; simp only [show ((25 : Int32).toInt) = 25 from by decide] at this; have := sw_ne c26; simp only [show ((26 : Int32).toInt) = 26 from by decide] at this; have := sw_ne c27; simp only [show ((27 : Int32).toInt) = 27 from by decide] at this; have := sw_ne c28; simp only [show ((28 : Int32).toInt) = 28 from by decide] at this; have := sw_ne c29; simp only [show ((29 : Int32).toInt) = 29 from by decide] at this; have := sw_ne c30; simp only [show ((30 : Int32).toInt) = 30 from by decide] at this; omega) (by decide) ?_
      exact nx0 M inv
