theorem lk_X7_212 : Cond.methodLink RX7 212 yX7_hasFlyer ∈ lw_g := lg_mem 443 (by decide +kernel) rfl
theorem g_iretA {K : KK} {cc : ByteArray} {nL : Nat} {a : AA} {M : Mem} {pc : Nat} {lv : List (Nat × Value)} {r0 : Int32} {res : Option Int32} (rt : ∀ r, res = some r → RtI K a cc r M) (hf : some (some r0) = some res) (d : decode cc pc = .ok (.ireturn, 1)) : Go K nL a M pc lv [.int r0] := fun H locs ls h1 _ => rt r0 (Option.some.inj hf).symm pc H locs ls d h1
theorem mu_s {M : Mem} {n k : Nat} {v : Int32} : mu M n k v n k = v := by simp [mu, va_up]
theorem w_idiv {K : KK} {own : String} {cc : ByteArray} {nL c n0 : Nat} {rm : Room} {ws : va_W} {pc : Nat} {lv : List (Nat × Value)} {st : List Value} {x y : Int32} (S : Sx K own cc nL rm) (d : decode cc pc = .ok (.idiv, 1)) (hne : ¬ y = 0) (k : GoW K c n0 nL ws (pc + 1) lv (.int (x / y) :: st)) : GoW K c n0 nL ws pc lv (.int y :: .int x :: st) := fun H locs ls h1 h2 => lv_idiv S.1 S.2.1 d hne (k H locs ls h1 h2)
theorem w_irem {K : KK} {own : String} {cc : ByteArray} {nL c n0 : Nat} {rm : Room} {ws : va_W} {pc : Nat} {lv : List (Nat × Value)} {st : List Value} {x y : Int32} (S : Sx K own cc nL rm) (d : decode cc pc = .ok (.irem, 1)) (hne : ¬ y = 0) (k : GoW K c n0 nL ws (pc + 1) lv (.int (irem x y) :: st)) : GoW K c n0 nL ws pc lv (.int y :: .int x :: st) := fun H locs ls h1 h2 => lv_irem S.1 S.2.1 d hne (k H locs ls h1 h2)
theorem nl_X7_94 : (RX7, 94, yX2_init, "BridleBook") ∈ nn_l := by decide +kernel
theorem lk_X7_147 : Cond.methodLink RX7 147 yX3_init ∈ lw_g := lg_mem 288 (by decide +kernel) rfl
theorem lk_X7_215 : Cond.methodLink RX7 215 yX1_init ∈ lw_g := lg_mem 452 (by decide +kernel) rfl
theorem dX7_kite_0 : decode cX7_kite 0 = .ok (.aload_n 0, 1) := by decide +kernel
theorem dX7_kite_1 : decode cX7_kite 1 = .ok (.getfield 22, 3) := by decide +kernel
theorem dX7_kite_4 : decode cX7_kite 4 = .ok (.bipush 20, 2) := by decide +kernel
theorem dX7_kite_6 : decode cX7_kite 6 = .ok (.if_icmp .lt 6, 3) := by decide +kernel
theorem dX7_kite_9 : decode cX7_kite 9 = .ok (.bipush (-3), 2) := by decide +kernel
theorem dX7_kite_11 : decode cX7_kite 11 = .ok (.ireturn, 1) := by decide +kernel
theorem dX7_kite_12 : decode cX7_kite 12 = .ok (.aload_n 0, 1) := by decide +kernel
theorem dX7_kite_13 : decode cX7_kite 13 = .ok (.getfield 18, 3) := by decide +kernel
theorem dX7_kite_16 : decode cX7_kite 16 = .ok (.aload_n 0, 1) := by decide +kernel
theorem dX7_kite_17 : decode cX7_kite 17 = .ok (.getfield 22, 3) := by decide +kernel
theorem dX7_kite_20 : decode cX7_kite 20 = .ok (.new 16, 3) := by decide +kernel
theorem dX7_kite_23 : decode cX7_kite 23 = .ok (.dup, 1) := by decide +kernel
theorem dX7_kite_24 : decode cX7_kite 24 = .ok (.invokespecial 94, 3) := by decide +kernel
theorem dX7_kite_27 : decode cX7_kite 27 = .ok (.aastore, 1) := by decide +kernel
theorem dX7_kite_28 : decode cX7_kite 28 = .ok (.aload_n 0, 1) := by decide +kernel
theorem dX7_kite_29 : decode cX7_kite 29 = .ok (.dup, 1) := by decide +kernel
theorem dX7_kite_30 : decode cX7_kite 30 = .ok (.getfield 22, 3) := by decide +kernel
theorem dX7_kite_33 : decode cX7_kite 33 = .ok (.iconst 1, 1) := by decide +kernel
theorem dX7_kite_34 : decode cX7_kite 34 = .ok (.iadd, 1) := by decide +kernel
theorem dX7_kite_35 : decode cX7_kite 35 = .ok (.putfield 22, 3) := by decide +kernel
theorem dX7_kite_38 : decode cX7_kite 38 = .ok (.aload_n 0, 1) := by decide +kernel
theorem dX7_kite_39 : decode cX7_kite 39 = .ok (.getfield 22, 3) := by decide +kernel
theorem dX7_kite_42 : decode cX7_kite 42 = .ok (.iconst 1, 1) := by decide +kernel
theorem dX7_kite_43 : decode cX7_kite 43 = .ok (.isub, 1) := by decide +kernel
theorem dX7_kite_44 : decode cX7_kite 44 = .ok (.ireturn, 1) := by decide +kernel
def f_X7_kite (z : Nat → Nat) (M : Mem) : Option (Option Int32) := if (M 50 2) < 20 then some none else some (some (-3))
theorem p_X7_kite {K : KK} {a : AA} {M : Mem} (S : Sx K RX7 cX7_kite 1 (rmC 2 4 25)) {res : Option Int32} (rt : ∀ r, res = some r → RtI K a cX7_kite r M) (mk : res = none → Go K 1 a M 20 [(0, .ref (a.2 50))] [.int (M 50 2), .ref (a.2 52)]) (hf : f_X7_kite a.1 M  = some res) : Go K 1 a M 0 [(0, .ref (a.2 50))] [] := by
  unfold f_X7_kite at hf
  refine g_aload_n 0 S dX7_kite_0 rfl ?_
  refine g_get (v := .int (M 50 2)) S ob_50 rfl gi_X7 (by decide) lf_X7_22 rfl dX7_kite_1 ?_
  refine g_bipush (v := 20) S dX7_kite_4 rfl ?_
  refine g_icmp_lt (tgt := 12) S dX7_kite_6 (by decide) hf (fun c hf => ?_) (fun c hf => ?_)
  · refine g_aload_n 0 S dX7_kite_12 rfl ?_
    refine g_get (v := .ref (a.2 52)) S ob_50 rfl gi_X7 (by decide) lf_X7_18 rfl dX7_kite_13 ?_
    refine g_aload_n 0 S dX7_kite_16 rfl ?_
    refine g_get (v := .int (M 50 2)) S ob_50 rfl gi_X7 (by decide) lf_X7_22 rfl dX7_kite_17 ?_
    exact mk (Option.some.inj hf).symm
  · refine g_bipush (v := (-3)) S dX7_kite_9 rfl ?_
    exact g_iretA rt hf dX7_kite_11
set_option maxRecDepth 20000 in
theorem c_X7_kite {l : Launch} {G : GG} {a : AA} {M : Mem} (hz : a.1 0 ≤ 20 ∧ a.1 1 ≤ 10 ∧ a.1 2 ≤ 10) (hc : M 50 2 = nI (a.1 0)) {res : Option Int32} (hf : f_X7_kite a.1 M  = some res) (hn : res = none → a.1 0 < 20) : CtA l G yX7_kite cX7_kite 1 (rmC 2 4 25) [.ref (a.2 50)] a M (fun r u => (res = some r ∧ u = (a, M)) ∨ (res = none ∧ r = nI (a.1 0) ∧ u.1.1 = (va_up a.1 0 (a.1 0 + 1)) ∧ (∀ n, n < 100 → u.1.2 n = a.2 n) ∧ u.2 = mu (nk_M (100 + 4 * a.1 0) M) 50 2 (nI (a.1 0 + 1)))) 4 25 := by
  refine ct_A (by decide) rfl (own := RX7) (Nat.le_of_ble_eq_true rfl) (fun K hl hg h0 h1 S rt => ?_)
  subst hl; subst hg
  refine p_X7_kite S (fun r hr pc H locs ls d h => ?_) (fun hnone => ?_) hf
  · have h9 := rt r (a, M) pc H locs ls (Or.inl ⟨hr, rfl⟩) d h
    unfold go_W
    rw [h0, h1]
    exact W.widen (Nat.zero_le _) (Nat.zero_le _) h9
  · have hlt := hn hnone
    refine Go.raw h0 h1 ?_
    refine w_new (ci := 2) (fs := [.null, .null, .null, .int 0, .int 0, .int 0, .int 0]) (l := []) S rfl gi_X2 tyX2_ok lx_X7_16 li_X2 ln_X2 (fun j hj => by rcases (show j = 0 ∨ j = 1 ∨ j = 2 ∨ j = 3 ∨ j = 4 ∨ j = 5 ∨ j = 6 by omega) with rfl | rfl | rfl | rfl | rfl | rfl | rfl <;> rfl) (Nat.le_of_ble_eq_true rfl) (Nat.le_of_ble_eq_true rfl) dX7_kite_20 (fun q => ?_)
    refine GoW.wd (ws' := wd_W (kG K) a.1 a.2 M ++ [(q, .inr (2, [.null, .null, .null, .int 0, .int 0, .int 0, .int 0]))]) rfl ?_
    refine w_dup S dX7_kite_23 rfl ?_
    refine w_cIN (st := [.ref q, .int (M 50 2), .ref (a.2 52)]) S ok_X2_init rfl nl_X7_94 (c_X2_init (r := wd_W (kG K) a.1 a.2 M)) rfl rfl ⟨by decide, by decide⟩ ⟨rfl, rfl⟩ ⟨Nat.le_of_ble_eq_true rfl, Nat.le_of_ble_eq_true rfl⟩ (Nat.le_of_ble_eq_true rfl) dX7_kite_24 (fun u _ => ?_)
    obtain ⟨q1, q2, q3⟩ := u
    rw [hc]
    refine w_grow (t := 52) (t0 := 2) (j := 0) (z' := (va_up a.1 0 (a.1 0 + 1))) (ad' := (nk_ad (100 + 4 * a.1 0) a.2 q q1 q2 q3)) (M' := (nk_M (100 + 4 * a.1 0) M)) S (in_fix (by decide)) rfl rfl rfl rfl (vp_in_nI hlt (by decide)) dX7_kite_27 (fun k hk hD => pk_kite ⟨hlt, hz.2.1, hz.2.2⟩ hD hk) ?_
    refine GoW.up (a := ((va_up a.1 0 (a.1 0 + 1)), (nk_ad (100 + 4 * a.1 0) a.2 q q1 q2 q3))) ?_
    have e9 : ∀ n, n < 100 → (nk_ad (100 + 4 * a.1 0) a.2 q q1 q2 q3) n = a.2 n := fun n hn => by unfold nk_ad; simp only [show ∀ k, n ≠ 100 + 4 * a.1 0 + k from fun k => by omega, show n ≠ 100 + 4 * a.1 0 by omega, if_false]
    have e50 : a.2 50 = (((va_up a.1 0 (a.1 0 + 1)), (nk_ad (100 + 4 * a.1 0) a.2 q q1 q2 q3)) : AA).2 50 := (e9 50 (by decide)).symm
    rw [e50]
    have S2 := Sx.up (c := 4) (n0 := 25) S (Nat.le_of_ble_eq_true rfl) (Nat.le_of_ble_eq_true rfl)
    have eN : (nk_M (100 + 4 * a.1 0) M) 50 2 = nI (a.1 0) := by rw [← hc]; unfold nk_M; simp only [show ∀ k, 50 ≠ 100 + 4 * a.1 0 + k from fun k => by omega, show 50 ≠ 100 + 4 * a.1 0 by omega, if_false, or_self]
    refine g_aload_n 0 S2 dX7_kite_28 rfl ?_
    refine g_dup S2 dX7_kite_29 rfl ?_
    refine g_get (v := .int ((nk_M (100 + 4 * a.1 0) M) 50 2)) S2 ob_50 rfl gi_X7 (by decide) lf_X7_22 rfl dX7_kite_30 ?_
    refine g_iconst (v := 1) S2 dX7_kite_33 rfl ?_
    refine g_iadd S2 dX7_kite_34 ?_
    refine g_put (ty := .int) S2 ob_50 rfl gi_X7 tyX7_ok nmX7 (by decide) lf_X7_22 rfl (by decide +kernel) rfl rfl (Nat.le_of_ble_eq_true rfl) rfl dX7_kite_35 ?_
    refine g_aload_n 0 S2 dX7_kite_38 rfl ?_
    refine g_get (v := .int ((mu (nk_M (100 + 4 * a.1 0) M) 50 2 ((nk_M (100 + 4 * a.1 0) M) 50 2 + 1)) 50 2)) S2 ob_50 rfl gi_X7 (by decide) lf_X7_22 rfl dX7_kite_39 ?_
    refine g_iconst (v := 1) S2 dX7_kite_42 rfl ?_
    refine g_isub S2 dX7_kite_43 ?_
    exact g_Aret rt (Or.inr ⟨hnone, by rw [mu_s, eN, nI_1, nI_pred], rfl, e9, by rw [eN, nI_1]⟩) (Nat.le_refl _) (Nat.le_refl _) dX7_kite_44
theorem dX7_line_0 : decode cX7_line 0 = .ok (.iload_n 1, 1) := by decide +kernel
theorem dX7_line_1 : decode cX7_line 1 = .ok (.iconst 1, 1) := by decide +kernel
theorem dX7_line_2 : decode cX7_line 2 = .ok (.sipush 200, 3) := by decide +kernel
theorem dX7_line_5 : decode cX7_line 5 = .ok (.invokestatic 99, 3) := by decide +kernel
theorem dX7_line_8 : decode cX7_line 8 = .ok (.ifCond .eq 23, 3) := by decide +kernel
theorem dX7_line_11 : decode cX7_line 11 = .ok (.iload_n 2, 1) := by decide +kernel
theorem dX7_line_12 : decode cX7_line 12 = .ok (.iconst 1, 1) := by decide +kernel
theorem dX7_line_13 : decode cX7_line 13 = .ok (.ldc 146, 2) := by decide +kernel
theorem dX7_line_15 : decode cX7_line 15 = .ok (.invokestatic 99, 3) := by decide +kernel
theorem dX7_line_18 : decode cX7_line 18 = .ok (.ifCond .eq 13, 3) := by decide +kernel
theorem dX7_line_21 : decode cX7_line 21 = .ok (.iload_n 3, 1) := by decide +kernel
theorem dX7_line_22 : decode cX7_line 22 = .ok (.iconst 0, 1) := by decide +kernel
theorem dX7_line_23 : decode cX7_line 23 = .ok (.bipush 9, 2) := by decide +kernel
theorem dX7_line_25 : decode cX7_line 25 = .ok (.invokestatic 99, 3) := by decide +kernel
theorem dX7_line_28 : decode cX7_line 28 = .ok (.ifCond .ne 5, 3) := by decide +kernel
theorem dX7_line_31 : decode cX7_line 31 = .ok (.iconst (-1), 1) := by decide +kernel
theorem dX7_line_32 : decode cX7_line 32 = .ok (.ireturn, 1) := by decide +kernel
theorem dX7_line_33 : decode cX7_line 33 = .ok (.aload_n 0, 1) := by decide +kernel
theorem dX7_line_34 : decode cX7_line 34 = .ok (.getfield 36, 3) := by decide +kernel
theorem dX7_line_37 : decode cX7_line 37 = .ok (.bipush 10, 2) := by decide +kernel
theorem dX7_line_39 : decode cX7_line 39 = .ok (.if_icmp .lt 6, 3) := by decide +kernel
theorem dX7_line_42 : decode cX7_line 42 = .ok (.bipush (-3), 2) := by decide +kernel
theorem dX7_line_44 : decode cX7_line 44 = .ok (.ireturn, 1) := by decide +kernel
theorem dX7_line_45 : decode cX7_line 45 = .ok (.aload_n 0, 1) := by decide +kernel
theorem dX7_line_46 : decode cX7_line 46 = .ok (.getfield 32, 3) := by decide +kernel
theorem dX7_line_49 : decode cX7_line 49 = .ok (.aload_n 0, 1) := by decide +kernel
theorem dX7_line_50 : decode cX7_line 50 = .ok (.getfield 36, 3) := by decide +kernel
theorem dX7_line_53 : decode cX7_line 53 = .ok (.new 30, 3) := by decide +kernel
theorem dX7_line_56 : decode cX7_line 56 = .ok (.dup, 1) := by decide +kernel
theorem dX7_line_57 : decode cX7_line 57 = .ok (.iload_n 1, 1) := by decide +kernel
theorem dX7_line_58 : decode cX7_line 58 = .ok (.iload_n 2, 1) := by decide +kernel
theorem dX7_line_59 : decode cX7_line 59 = .ok (.iload_n 3, 1) := by decide +kernel
theorem dX7_line_60 : decode cX7_line 60 = .ok (.invokespecial 147, 3) := by decide +kernel
theorem dX7_line_63 : decode cX7_line 63 = .ok (.aastore, 1) := by decide +kernel
theorem dX7_line_64 : decode cX7_line 64 = .ok (.aload_n 0, 1) := by decide +kernel
theorem dX7_line_65 : decode cX7_line 65 = .ok (.dup, 1) := by decide +kernel
theorem dX7_line_66 : decode cX7_line 66 = .ok (.getfield 36, 3) := by decide +kernel
theorem dX7_line_69 : decode cX7_line 69 = .ok (.iconst 1, 1) := by decide +kernel
theorem dX7_line_70 : decode cX7_line 70 = .ok (.iadd, 1) := by decide +kernel
theorem dX7_line_71 : decode cX7_line 71 = .ok (.putfield 36, 3) := by decide +kernel
theorem dX7_line_74 : decode cX7_line 74 = .ok (.aload_n 0, 1) := by decide +kernel
theorem dX7_line_75 : decode cX7_line 75 = .ok (.getfield 36, 3) := by decide +kernel
theorem dX7_line_78 : decode cX7_line 78 = .ok (.iconst 1, 1) := by decide +kernel
theorem dX7_line_79 : decode cX7_line 79 = .ok (.isub, 1) := by decide +kernel
theorem dX7_line_80 : decode cX7_line 80 = .ok (.ireturn, 1) := by decide +kernel
def f_X7_line (z : Nat → Nat) (M : Mem) (p1 : Int32) (p2 : Int32) (p3 : Int32) : Option (Option Int32) := bd1 (f_X7_within z M p1 1 200) (fun r1 => if r1 = true then bd1 (f_X7_within z M p2 1 99999) (fun r2 => if r2 = true then bd1 (f_X7_within z M p3 0 9) (fun r3 => if r3 = true then if (M 50 5) < 10 then some none else some (some (-3)) else some (some (-1))) else some (some (-1))) else some (some (-1)))
theorem p_X7_line {K : KK} {a : AA} {M : Mem} {p1 : Int32} {p2 : Int32} {p3 : Int32} (S : Sx K RX7 cX7_line 4 (rmC 2 2 15)) {res : Option Int32} (rt : ∀ r, res = some r → RtI K a cX7_line r M) (mk : res = none → Go K 4 a M 53 [(0, .ref (a.2 50)), (1, .int p1), (2, .int p2), (3, .int p3)] [.int (M 50 5), .ref (a.2 55)]) (hf : f_X7_line a.1 M p1 p2 p3 = some res) : Go K 4 a M 0 [(0, .ref (a.2 50)), (1, .int p1), (2, .int p2), (3, .int p3)] [] := by
  unfold f_X7_line at hf
  refine g_iload_n 1 S dX7_line_0 rfl ?_
  refine g_iconst (v := 1) S dX7_line_1 rfl ?_
  refine g_sipush (v := 200) S dX7_line_2 rfl ?_
  obtain ⟨r1, hr1, hf⟩ := bd1_some hf
  refine g_cSI (st := []) S ok_X7_within lk_X7_99 (c_X7_within hr1) rfl rfl ⟨by decide, by decide⟩ (rmD_z _) (Nat.le_of_ble_eq_true rfl) dX7_line_5 ?_
  refine g_if_eqB (tgt := 31) S dX7_line_8 (by decide) hf (fun c hf => ?_) (fun c hf => ?_)
  · refine g_iload_n 2 S dX7_line_11 rfl ?_
    refine g_iconst (v := 1) S dX7_line_12 rfl ?_
    refine g_ldc S lc_X7_146 dX7_line_13 ?_
    obtain ⟨r2, hr2, hf⟩ := bd1_some hf
    refine g_cSI (st := []) S ok_X7_within lk_X7_99 (c_X7_within hr2) rfl rfl ⟨by decide, by decide⟩ (rmD_z _) (Nat.le_of_ble_eq_true rfl) dX7_line_15 ?_
    refine g_if_eqB (tgt := 31) S dX7_line_18 (by decide) hf (fun c hf => ?_) (fun c hf => ?_)
    · refine g_iload_n 3 S dX7_line_21 rfl ?_
      refine g_iconst (v := 0) S dX7_line_22 rfl ?_
      refine g_bipush (v := 9) S dX7_line_23 rfl ?_
      obtain ⟨r3, hr3, hf⟩ := bd1_some hf
      refine g_cSI (st := []) S ok_X7_within lk_X7_99 (c_X7_within hr3) rfl rfl ⟨by decide, by decide⟩ (rmD_z _) (Nat.le_of_ble_eq_true rfl) dX7_line_25 ?_
      refine g_if_neB (tgt := 33) S dX7_line_28 (by decide) hf (fun c hf => ?_) (fun c hf => ?_)
      · refine g_aload_n 0 S dX7_line_33 rfl ?_
        refine g_get (v := .int (M 50 5)) S ob_50 rfl gi_X7 (by decide) lf_X7_36 rfl dX7_line_34 ?_
        refine g_bipush (v := 10) S dX7_line_37 rfl ?_
        refine g_icmp_lt (tgt := 45) S dX7_line_39 (by decide) hf (fun c hf => ?_) (fun c hf => ?_)
        · refine g_aload_n 0 S dX7_line_45 rfl ?_
          refine g_get (v := .ref (a.2 55)) S ob_50 rfl gi_X7 (by decide) lf_X7_32 rfl dX7_line_46 ?_
          refine g_aload_n 0 S dX7_line_49 rfl ?_
          refine g_get (v := .int (M 50 5)) S ob_50 rfl gi_X7 (by decide) lf_X7_36 rfl dX7_line_50 ?_
          exact mk (Option.some.inj hf).symm
        · refine g_bipush (v := (-3)) S dX7_line_42 rfl ?_
          exact g_iretA rt hf dX7_line_44
      · refine g_iconst (v := (-1)) S dX7_line_31 rfl ?_
        exact g_iretA rt hf dX7_line_32
    · refine g_iconst (v := (-1)) S dX7_line_31 rfl ?_
      exact g_iretA rt hf dX7_line_32
  · refine g_iconst (v := (-1)) S dX7_line_31 rfl ?_
    exact g_iretA rt hf dX7_line_32
set_option maxRecDepth 20000 in
theorem c_X7_line {l : Launch} {G : GG} {a : AA} {M : Mem} {p1 : Int32} {p2 : Int32} {p3 : Int32} (hz : a.1 0 ≤ 20 ∧ a.1 1 ≤ 10 ∧ a.1 2 ≤ 10) (hc : M 50 5 = nI (a.1 1)) {res : Option Int32} (hf : f_X7_line a.1 M p1 p2 p3 = some res) (hn : res = none → a.1 1 < 10) : CtA l G yX7_line cX7_line 4 (rmC 2 2 15) [.ref (a.2 50), .int p1, .int p2, .int p3] a M (fun r u => (res = some r ∧ u = (a, M)) ∨ (res = none ∧ r = nI (a.1 1) ∧ u.1.1 = (va_up a.1 1 (a.1 1 + 1)) ∧ (∀ n, n < 100 → u.1.2 n = a.2 n) ∧ u.2 = mu (nl_M (200 + 2 * a.1 1) M p1 p2 p3) 50 5 (nI (a.1 1 + 1)))) 2 15 := by
  refine ct_A (by decide) rfl (own := RX7) (Nat.le_of_ble_eq_true rfl) (fun K hl hg h0 h1 S rt => ?_)
  subst hl; subst hg
  refine p_X7_line S (fun r hr pc H locs ls d h => ?_) (fun hnone => ?_) hf
  · have h9 := rt r (a, M) pc H locs ls (Or.inl ⟨hr, rfl⟩) d h
    unfold go_W
    rw [h0, h1]
    exact W.widen (Nat.zero_le _) (Nat.zero_le _) h9
  · have hlt := hn hnone
    refine Go.raw h0 h1 ?_
    refine w_new (ci := 3) (fs := [.int 0, .int 0, .int 0, .null, .int 0]) (l := []) S rfl gi_X3 tyX3_ok lx_X7_30 li_X3 ln_X3 (fun j hj => by rcases (show j = 0 ∨ j = 1 ∨ j = 2 ∨ j = 3 ∨ j = 4 by omega) with rfl | rfl | rfl | rfl | rfl <;> rfl) (Nat.le_of_ble_eq_true rfl) (Nat.le_of_ble_eq_true rfl) dX7_line_53 (fun q => ?_)
    refine GoW.wd (ws' := wd_W (kG K) a.1 a.2 M ++ [(q, .inr (3, [.int 0, .int 0, .int 0, .null, .int 0]))]) rfl ?_
    refine w_dup S dX7_line_56 rfl ?_
    refine w_iload_n 1 S dX7_line_57 rfl ?_
    refine w_iload_n 2 S dX7_line_58 rfl ?_
    refine w_iload_n 3 S dX7_line_59 rfl ?_
    refine w_cI (st := [.ref q, .int (M 50 5), .ref (a.2 55)]) S ok_X3_init rfl lk_X7_147 (c_X3_init (r := wd_W (kG K) a.1 a.2 M)) rfl rfl ⟨by decide, by decide⟩ ⟨rfl, rfl⟩ ⟨Nat.le_of_ble_eq_true rfl, Nat.le_of_ble_eq_true rfl⟩ (Nat.le_of_ble_eq_true rfl) dX7_line_60 (fun u _ => ?_)
    obtain ⟨q1, rfl⟩ : ∃ x, x = u := ⟨_, rfl⟩
    rw [hc]
    refine w_grow (t := 55) (t0 := 3) (j := 0) (z' := (va_up a.1 1 (a.1 1 + 1))) (ad' := (nl_ad (200 + 2 * a.1 1) a.2 q q1)) (M' := (nl_M (200 + 2 * a.1 1) M p1 p2 p3)) S (in_fix (by decide)) rfl rfl rfl rfl (vp_in_nI hlt (by decide)) dX7_line_63 (fun k hk hD => pk_line ⟨hz.1, hlt, hz.2.2⟩ hD hk) ?_
    refine GoW.up (a := ((va_up a.1 1 (a.1 1 + 1)), (nl_ad (200 + 2 * a.1 1) a.2 q q1))) ?_
    have e9 : ∀ n, n < 100 → (nl_ad (200 + 2 * a.1 1) a.2 q q1) n = a.2 n := fun n hn => by unfold nl_ad; simp only [show ∀ k, n ≠ 200 + 2 * a.1 1 + k from fun k => by omega, show n ≠ 200 + 2 * a.1 1 by omega, if_false]
    have e50 : a.2 50 = (((va_up a.1 1 (a.1 1 + 1)), (nl_ad (200 + 2 * a.1 1) a.2 q q1)) : AA).2 50 := (e9 50 (by decide)).symm
    rw [e50]
    have S2 := Sx.up (c := 2) (n0 := 15) S (Nat.le_of_ble_eq_true rfl) (Nat.le_of_ble_eq_true rfl)
    have eN : (nl_M (200 + 2 * a.1 1) M p1 p2 p3) 50 5 = nI (a.1 1) := by rw [← hc]; unfold nl_M; simp only [show ∀ k, 50 ≠ 200 + 2 * a.1 1 + k from fun k => by omega, show 50 ≠ 200 + 2 * a.1 1 by omega, if_false, or_self]
    refine g_aload_n 0 S2 dX7_line_64 rfl ?_
    refine g_dup S2 dX7_line_65 rfl ?_
    refine g_get (v := .int ((nl_M (200 + 2 * a.1 1) M p1 p2 p3) 50 5)) S2 ob_50 rfl gi_X7 (by decide) lf_X7_36 rfl dX7_line_66 ?_
    refine g_iconst (v := 1) S2 dX7_line_69 rfl ?_
    refine g_iadd S2 dX7_line_70 ?_
    refine g_put (ty := .int) S2 ob_50 rfl gi_X7 tyX7_ok nmX7 (by decide) lf_X7_36 rfl (by decide +kernel) rfl rfl (Nat.le_of_ble_eq_true rfl) rfl dX7_line_71 ?_
    refine g_aload_n 0 S2 dX7_line_74 rfl ?_
    refine g_get (v := .int ((mu (nl_M (200 + 2 * a.1 1) M p1 p2 p3) 50 5 ((nl_M (200 + 2 * a.1 1) M p1 p2 p3) 50 5 + 1)) 50 5)) S2 ob_50 rfl gi_X7 (by decide) lf_X7_36 rfl dX7_line_75 ?_
    refine g_iconst (v := 1) S2 dX7_line_78 rfl ?_
    refine g_isub S2 dX7_line_79 ?_
    exact g_Aret rt (Or.inr ⟨hnone, by rw [mu_s, eN, nI_1, nI_pred], rfl, e9, by rw [eN, nI_1]⟩) (Nat.le_refl _) (Nat.le_refl _) dX7_line_80
theorem dX7_flyer_0 : decode cX7_flyer 0 = .ok (.iload_n 1, 1) := by decide +kernel
theorem dX7_flyer_1 : decode cX7_flyer 1 = .ok (.invokestatic 209, 3) := by decide +kernel
theorem dX7_flyer_4 : decode cX7_flyer 4 = .ok (.ifCond .eq 11, 3) := by decide +kernel
theorem dX7_flyer_7 : decode cX7_flyer 7 = .ok (.aload_n 0, 1) := by decide +kernel
theorem dX7_flyer_8 : decode cX7_flyer 8 = .ok (.iload_n 2, 1) := by decide +kernel
theorem dX7_flyer_9 : decode cX7_flyer 9 = .ok (.invokevirtual 150, 3) := by decide +kernel
theorem dX7_flyer_12 : decode cX7_flyer 12 = .ok (.ifnonnull 5, 3) := by decide +kernel
theorem dX7_flyer_15 : decode cX7_flyer 15 = .ok (.iconst (-1), 1) := by decide +kernel
theorem dX7_flyer_16 : decode cX7_flyer 16 = .ok (.ireturn, 1) := by decide +kernel
theorem dX7_flyer_17 : decode cX7_flyer 17 = .ok (.aload_n 0, 1) := by decide +kernel
theorem dX7_flyer_18 : decode cX7_flyer 18 = .ok (.iload_n 2, 1) := by decide +kernel
theorem dX7_flyer_19 : decode cX7_flyer 19 = .ok (.invokevirtual 212, 3) := by decide +kernel
theorem dX7_flyer_22 : decode cX7_flyer 22 = .ok (.ifCond .eq 6, 3) := by decide +kernel
theorem dX7_flyer_25 : decode cX7_flyer 25 = .ok (.bipush (-2), 2) := by decide +kernel
theorem dX7_flyer_27 : decode cX7_flyer 27 = .ok (.ireturn, 1) := by decide +kernel
theorem dX7_flyer_28 : decode cX7_flyer 28 = .ok (.aload_n 0, 1) := by decide +kernel
theorem dX7_flyer_29 : decode cX7_flyer 29 = .ok (.getfield 52, 3) := by decide +kernel
theorem dX7_flyer_32 : decode cX7_flyer 32 = .ok (.bipush 10, 2) := by decide +kernel
theorem dX7_flyer_34 : decode cX7_flyer 34 = .ok (.if_icmp .lt 6, 3) := by decide +kernel
theorem dX7_flyer_37 : decode cX7_flyer 37 = .ok (.bipush (-3), 2) := by decide +kernel
theorem dX7_flyer_39 : decode cX7_flyer 39 = .ok (.ireturn, 1) := by decide +kernel
theorem dX7_flyer_40 : decode cX7_flyer 40 = .ok (.aload_n 0, 1) := by decide +kernel
theorem dX7_flyer_41 : decode cX7_flyer 41 = .ok (.getfield 48, 3) := by decide +kernel
theorem dX7_flyer_44 : decode cX7_flyer 44 = .ok (.aload_n 0, 1) := by decide +kernel
theorem dX7_flyer_45 : decode cX7_flyer 45 = .ok (.getfield 52, 3) := by decide +kernel
theorem dX7_flyer_48 : decode cX7_flyer 48 = .ok (.new 46, 3) := by decide +kernel
theorem dX7_flyer_51 : decode cX7_flyer 51 = .ok (.dup, 1) := by decide +kernel
theorem dX7_flyer_52 : decode cX7_flyer 52 = .ok (.iload_n 1, 1) := by decide +kernel
theorem dX7_flyer_53 : decode cX7_flyer 53 = .ok (.sipush 200, 3) := by decide +kernel
theorem dX7_flyer_56 : decode cX7_flyer 56 = .ok (.idiv, 1) := by decide +kernel
theorem dX7_flyer_57 : decode cX7_flyer 57 = .ok (.iload_n 1, 1) := by decide +kernel
theorem dX7_flyer_58 : decode cX7_flyer 58 = .ok (.sipush 200, 3) := by decide +kernel
theorem dX7_flyer_61 : decode cX7_flyer 61 = .ok (.irem, 1) := by decide +kernel
theorem dX7_flyer_62 : decode cX7_flyer 62 = .ok (.iload_n 2, 1) := by decide +kernel
theorem dX7_flyer_63 : decode cX7_flyer 63 = .ok (.invokespecial 215, 3) := by decide +kernel
theorem dX7_flyer_66 : decode cX7_flyer 66 = .ok (.aastore, 1) := by decide +kernel
theorem dX7_flyer_67 : decode cX7_flyer 67 = .ok (.aload_n 0, 1) := by decide +kernel
theorem dX7_flyer_68 : decode cX7_flyer 68 = .ok (.dup, 1) := by decide +kernel
theorem dX7_flyer_69 : decode cX7_flyer 69 = .ok (.getfield 52, 3) := by decide +kernel
theorem dX7_flyer_72 : decode cX7_flyer 72 = .ok (.iconst 1, 1) := by decide +kernel
theorem dX7_flyer_73 : decode cX7_flyer 73 = .ok (.iadd, 1) := by decide +kernel
theorem dX7_flyer_74 : decode cX7_flyer 74 = .ok (.putfield 52, 3) := by decide +kernel
theorem dX7_flyer_77 : decode cX7_flyer 77 = .ok (.aload_n 0, 1) := by decide +kernel
theorem dX7_flyer_78 : decode cX7_flyer 78 = .ok (.getfield 52, 3) := by decide +kernel
theorem dX7_flyer_81 : decode cX7_flyer 81 = .ok (.iconst 1, 1) := by decide +kernel
theorem dX7_flyer_82 : decode cX7_flyer 82 = .ok (.isub, 1) := by decide +kernel
theorem dX7_flyer_83 : decode cX7_flyer 83 = .ok (.ireturn, 1) := by decide +kernel
def f_X7_flyer (z : Nat → Nat) (M : Mem) (p1 : Int32) (p2 : Int32) : Option (Option Int32) := bd1 (f_X7_isPlace z M p1) (fun r1 => if r1 = true then bd1 (f_X7_lineAt z M p2) (fun r2 => mq r2 (some (some (-1))) (fun n3 => bd1 (f_X7_hasFlyer z M p2) (fun r4 => if r4 = true then some (some (-2)) else if (M 50 8) < 10 then some none else some (some (-3))))) else some (some (-1)))
theorem p_X7_flyer {K : KK} {a : AA} {M : Mem} {p1 : Int32} {p2 : Int32} (S : Sx K RX7 cX7_flyer 3 (rmC 4 1 4)) {res : Option Int32} (rt : ∀ r, res = some r → RtI K a cX7_flyer r M) (mk : res = none → Go K 3 a M 48 [(0, .ref (a.2 50)), (1, .int p1), (2, .int p2)] [.int (M 50 8), .ref (a.2 58)]) (hf : f_X7_flyer a.1 M p1 p2 = some res) : Go K 3 a M 0 [(0, .ref (a.2 50)), (1, .int p1), (2, .int p2)] [] := by
  unfold f_X7_flyer at hf
  refine g_iload_n 1 S dX7_flyer_0 rfl ?_
  obtain ⟨r1, hr1, hf⟩ := bd1_some hf
  refine g_cSI (st := []) S ok_X7_isPlace lk_X7_209 (c_X7_isPlace hr1) rfl rfl ⟨by decide, by decide⟩ (rmD_z _) (Nat.le_of_ble_eq_true rfl) dX7_flyer_1 ?_
  refine g_if_eqB (tgt := 15) S dX7_flyer_4 (by decide) hf (fun c hf => ?_) (fun c hf => ?_)
  · refine g_aload_n 0 S dX7_flyer_7 rfl ?_
    refine g_iload_n 2 S dX7_flyer_8 rfl ?_
    obtain ⟨r2, hr2, hf⟩ := bd1_some hf
    refine g_cVQ (st := []) S ob_50 rfl ok_X7_lineAt lk_X7_150 (c_X7_lineAt hr2) rfl rfl ⟨by decide, by decide⟩ (rmD_z _) (Nat.le_of_ble_eq_true rfl) dX7_flyer_9 ?_
    rcases r2 with _ | n3
    · have hf := mq_n hf
      refine Go.st (st' := [.null]) rfl ?_
      refine g_ifnonnullN S dX7_flyer_12 ?_
      refine g_iconst (v := (-1)) S dX7_flyer_15 rfl ?_
      exact g_iretA rt hf dX7_flyer_16
    · have hn3 := vd_X7_lineAt hr2
      have hf := mq_s hf
      refine Go.st (st' := [.ref (a.2 n3)]) rfl ?_
      refine g_ifnonnull (tgt := 17) S dX7_flyer_12 (by decide) ?_
      refine g_aload_n 0 S dX7_flyer_17 rfl ?_
      refine g_iload_n 2 S dX7_flyer_18 rfl ?_
      obtain ⟨r4, hr4, hf⟩ := bd1_some hf
      refine g_cVI (st := []) S ob_50 rfl ok_X7_hasFlyer lk_X7_212 (c_X7_hasFlyer hr4) rfl rfl ⟨by decide, by decide⟩ (rmD_z _) (Nat.le_of_ble_eq_true rfl) dX7_flyer_19 ?_
      refine g_if_eqB (tgt := 28) S dX7_flyer_22 (by decide) hf (fun c hf => ?_) (fun c hf => ?_)
      · refine g_bipush (v := (-2)) S dX7_flyer_25 rfl ?_
        exact g_iretA rt hf dX7_flyer_27
      · refine g_aload_n 0 S dX7_flyer_28 rfl ?_
        refine g_get (v := .int (M 50 8)) S ob_50 rfl gi_X7 (by decide) lf_X7_52 rfl dX7_flyer_29 ?_
        refine g_bipush (v := 10) S dX7_flyer_32 rfl ?_
        refine g_icmp_lt (tgt := 40) S dX7_flyer_34 (by decide) hf (fun c hf => ?_) (fun c hf => ?_)
        · refine g_aload_n 0 S dX7_flyer_40 rfl ?_
          refine g_get (v := .ref (a.2 58)) S ob_50 rfl gi_X7 (by decide) lf_X7_48 rfl dX7_flyer_41 ?_
          refine g_aload_n 0 S dX7_flyer_44 rfl ?_
          refine g_get (v := .int (M 50 8)) S ob_50 rfl gi_X7 (by decide) lf_X7_52 rfl dX7_flyer_45 ?_
          exact mk (Option.some.inj hf).symm
        · refine g_bipush (v := (-3)) S dX7_flyer_37 rfl ?_
          exact g_iretA rt hf dX7_flyer_39
  · refine g_iconst (v := (-1)) S dX7_flyer_15 rfl ?_
    exact g_iretA rt hf dX7_flyer_16
set_option maxRecDepth 20000 in
theorem c_X7_flyer {l : Launch} {G : GG} {a : AA} {M : Mem} {p1 : Int32} {p2 : Int32} (hz : a.1 0 ≤ 20 ∧ a.1 1 ≤ 10 ∧ a.1 2 ≤ 10) (hc : M 50 8 = nI (a.1 2)) {res : Option Int32} (hf : f_X7_flyer a.1 M p1 p2 = some res) (hn : res = none → a.1 2 < 10) : CtA l G yX7_flyer cX7_flyer 3 (rmC 4 1 4) [.ref (a.2 50), .int p1, .int p2] a M (fun r u => (res = some r ∧ u = (a, M)) ∨ (res = none ∧ r = nI (a.1 2) ∧ u.1.1 = (va_up a.1 2 (a.1 2 + 1)) ∧ (∀ n, n < 100 → u.1.2 n = a.2 n) ∧ u.2 = mu (nf_M (300 + a.1 2) M (p1 / 200) (irem p1 200) p2) 50 8 (nI (a.1 2 + 1)))) 1 4 := by
  refine ct_A (by decide) rfl (own := RX7) (Nat.le_of_ble_eq_true rfl) (fun K hl hg h0 h1 S rt => ?_)
  subst hl; subst hg
  refine p_X7_flyer S (fun r hr pc H locs ls d h => ?_) (fun hnone => ?_) hf
  · have h9 := rt r (a, M) pc H locs ls (Or.inl ⟨hr, rfl⟩) d h
    unfold go_W
    rw [h0, h1]
    exact W.widen (Nat.zero_le _) (Nat.zero_le _) h9
  · have hlt := hn hnone
    refine Go.raw h0 h1 ?_
    refine w_new (ci := 1) (fs := [.int 0, .int 0, .int 0, .int 0]) (l := []) S rfl gi_X1 tyX1_ok lx_X7_46 li_X1 ln_X1 (fun j hj => by rcases (show j = 0 ∨ j = 1 ∨ j = 2 ∨ j = 3 by omega) with rfl | rfl | rfl | rfl <;> rfl) (Nat.le_of_ble_eq_true rfl) (Nat.le_of_ble_eq_true rfl) dX7_flyer_48 (fun q => ?_)
    refine GoW.wd (ws' := wd_W (kG K) a.1 a.2 M ++ [(q, .inr (1, [.int 0, .int 0, .int 0, .int 0]))]) rfl ?_
    refine w_dup S dX7_flyer_51 rfl ?_
    refine w_iload_n 1 S dX7_flyer_52 rfl ?_
    refine w_sipush (v := 200) S dX7_flyer_53 rfl ?_
    refine w_idiv S dX7_flyer_56 (by decide) ?_
    refine w_iload_n 1 S dX7_flyer_57 rfl ?_
    refine w_sipush (v := 200) S dX7_flyer_58 rfl ?_
    refine w_irem S dX7_flyer_61 (by decide) ?_
    refine w_iload_n 2 S dX7_flyer_62 rfl ?_
    refine w_cI (st := [.ref q, .int (M 50 8), .ref (a.2 58)]) S ok_X1_init rfl lk_X7_215 (c_X1_init (r := wd_W (kG K) a.1 a.2 M)) rfl rfl ⟨by decide, by decide⟩ ⟨rfl, rfl⟩ ⟨Nat.le_of_ble_eq_true rfl, Nat.le_of_ble_eq_true rfl⟩ (Nat.le_of_ble_eq_true rfl) dX7_flyer_63 (fun u _ => ?_)
    skip
    rw [hc]
    refine w_grow (t := 58) (t0 := 4) (j := 0) (z' := (va_up a.1 2 (a.1 2 + 1))) (ad' := (nf_ad (300 + a.1 2) a.2 q)) (M' := (nf_M (300 + a.1 2) M (p1 / 200) (irem p1 200) p2)) S (in_fix (by decide)) rfl rfl rfl rfl (vp_in_nI hlt (by decide)) dX7_flyer_66 (fun k hk hD => pk_flyer ⟨hz.1, hz.2.1, hlt⟩ hD hk) ?_
    refine GoW.up (a := ((va_up a.1 2 (a.1 2 + 1)), (nf_ad (300 + a.1 2) a.2 q))) ?_
    have e9 : ∀ n, n < 100 → (nf_ad (300 + a.1 2) a.2 q) n = a.2 n := fun n hn => by unfold nf_ad; simp only [show ∀ k, n ≠ 300 + a.1 2 + k from fun k => by omega, show n ≠ 300 + a.1 2 by omega, if_false]
    have e50 : a.2 50 = (((va_up a.1 2 (a.1 2 + 1)), (nf_ad (300 + a.1 2) a.2 q)) : AA).2 50 := (e9 50 (by decide)).symm
    rw [e50]
    have S2 := Sx.up (c := 1) (n0 := 4) S (Nat.le_of_ble_eq_true rfl) (Nat.le_of_ble_eq_true rfl)
    have eN : (nf_M (300 + a.1 2) M (p1 / 200) (irem p1 200) p2) 50 8 = nI (a.1 2) := by rw [← hc]; unfold nf_M; simp only [show ∀ k, 50 ≠ 300 + a.1 2 + k from fun k => by omega, show 50 ≠ 300 + a.1 2 by omega, if_false, or_self]
    refine g_aload_n 0 S2 dX7_flyer_67 rfl ?_
    refine g_dup S2 dX7_flyer_68 rfl ?_
    refine g_get (v := .int ((nf_M (300 + a.1 2) M (p1 / 200) (irem p1 200) p2) 50 8)) S2 ob_50 rfl gi_X7 (by decide) lf_X7_52 rfl dX7_flyer_69 ?_
    refine g_iconst (v := 1) S2 dX7_flyer_72 rfl ?_
    refine g_iadd S2 dX7_flyer_73 ?_
    refine g_put (ty := .int) S2 ob_50 rfl gi_X7 tyX7_ok nmX7 (by decide) lf_X7_52 rfl (by decide +kernel) rfl rfl (Nat.le_of_ble_eq_true rfl) rfl dX7_flyer_74 ?_
    refine g_aload_n 0 S2 dX7_flyer_77 rfl ?_
    refine g_get (v := .int ((mu (nf_M (300 + a.1 2) M (p1 / 200) (irem p1 200) p2) 50 8 ((nf_M (300 + a.1 2) M (p1 / 200) (irem p1 200) p2) 50 8 + 1)) 50 8)) S2 ob_50 rfl gi_X7 (by decide) lf_X7_52 rfl dX7_flyer_78 ?_
    refine g_iconst (v := 1) S2 dX7_flyer_81 rfl ?_
    refine g_isub S2 dX7_flyer_82 ?_
    exact g_Aret rt (Or.inr ⟨hnone, by rw [mu_s, eN, nI_1, nI_pred], rfl, e9, by rw [eN, nI_1]⟩) (Nat.le_refl _) (Nat.le_refl _) dX7_flyer_83
