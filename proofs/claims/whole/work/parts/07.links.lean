/-! links and words of the tables -/
theorem Go.st {K : KK} {nL : Nat} {a : AA} {M : Mem} {pc : Nat} {lv : List (Nat × Value)} {st st' : List Value} (h : st = st') (k : Go K nL a M pc lv st') : Go K nL a M pc lv st := h ▸ k
def mq {α : Type} (q : Option Nat) (e1 : Option α) (e2 : Nat → Option α) : Option α := match q with
  | none => e1
  | some n => e2 n
theorem mq_n {α : Type} {e1 : Option α} {e2 : Nat → Option α} {r : α} (h : mq none e1 e2 = some r) : e1 = some r := h
theorem mq_s {α : Type} {n : Nat} {e1 : Option α} {e2 : Nat → Option α} {r : α} (h : mq (some n) e1 e2 = some r) : e2 n = some r := h
def lt {α β : Type} (x : α) (f : α → β) : β := f x
theorem lt_some {α β : Type} {x : α} {f : α → Option β} {r : β} (h : lt x f = some r) : ∃ y, y = x ∧ f y = some r := ⟨x, rfl, h⟩
theorem Go.M {K : KK} {nL : Nat} {a : AA} {M M1 : Mem} {pc : Nat} {lv : List (Nat × Value)} {st : List Value} (h : M1 = M) (k : Go K nL a M1 pc lv st) : Go K nL a M pc lv st := h ▸ k
theorem lg_mem (i : Nat) {w : Cond} (h : tables_1[i]? = some w) (hg : goodWord w = true) : w ∈ lw_g := List.mem_filter.mpr ⟨List.mem_append_right _ (List.mem_of_getElem? h), hg⟩
theorem lg_memP (i : Nat) {w : Cond} (h : (k2_sels lw_privs)[i]? = some w) (hg : goodWord w = true) : w ∈ lw_g := List.mem_filter.mpr ⟨List.mem_append_left _ (List.mem_of_getElem? h), hg⟩
theorem lg_all {ws : List Cond} (ps : List Nat) (h : ws = ps.filterMap (fun i => tables_1[i]?)) (hg : ws.all goodWord = true) : ∀ w ∈ ws, w ∈ lw_g := by
  intro w hw
  have h1 := List.all_eq_true.mp hg w hw
  rw [h] at hw
  obtain ⟨i, -, hi⟩ := List.mem_filterMap.mp hw
  exact lg_mem i hi h1
theorem gi_X0 : ∀ w ∈ u_ws RX0 TX0 4, w ∈ lw_g := lg_all [63, 65, 67, 69] (by decide +kernel) (by decide +kernel)
theorem gi_X1 : ∀ w ∈ u_ws RX1 TX1 4, w ∈ lw_g := lg_all [464, 466, 468, 470] (by decide +kernel) (by decide +kernel)
theorem gi_X2 : ∀ w ∈ u_ws RX2 TX2 7, w ∈ lw_g := lg_all [161, 163, 165, 167, 169, 171, 173] (by decide +kernel) (by decide +kernel)
theorem gi_X3 : ∀ w ∈ u_ws RX3 TX3 5, w ∈ lw_g := lg_all [300, 302, 304, 306, 308] (by decide +kernel) (by decide +kernel)
theorem gi_X4 : ∀ w ∈ u_ws RX4 TX4 2, w ∈ lw_g := lg_all [28, 30] (by decide +kernel) (by decide +kernel)
theorem gi_X5 : ∀ w ∈ u_ws RX5 TX5 2, w ∈ lw_g := lg_all [46, 48] (by decide +kernel) (by decide +kernel)
theorem gi_X6 : ∀ w ∈ u_ws RX6 TX6 2, w ∈ lw_g := lg_all [82, 84] (by decide +kernel) (by decide +kernel)
theorem gi_X7 : ∀ w ∈ u_ws RX7 TX7 17, w ∈ lw_g := lg_all [107, 109, 111, 113, 115, 117, 119, 121, 123, 125, 127, 129, 131, 133, 135, 137, 139] (by decide +kernel) (by decide +kernel)
theorem gi_X8 : ∀ w ∈ u_ws RX8 TX8 38, w ∈ lw_g := lg_all [642, 644, 646, 648, 650, 652, 654, 656, 658, 660, 662, 664, 666, 668, 670, 672, 674, 676, 678, 680, 682, 684, 686, 688, 690, 692, 694, 696, 698, 700, 702, 704, 706, 708, 710, 712, 714, 716] (by decide +kernel) (by decide +kernel)
theorem lf_X0_9 : Cond.fieldLink RX0 9 (TX0 0).1 (TX0 0).2.1 (TX0 0).2.2.1 ∈ lw_g := lg_mem 59 (by decide +kernel) rfl
theorem lf_X0_15 : Cond.fieldLink RX0 15 (TX0 1).1 (TX0 1).2.1 (TX0 1).2.2.1 ∈ lw_g := lg_mem 60 (by decide +kernel) rfl
theorem lf_X0_18 : Cond.fieldLink RX0 18 (TX0 2).1 (TX0 2).2.1 (TX0 2).2.2.1 ∈ lw_g := lg_mem 61 (by decide +kernel) rfl
theorem lf_X0_21 : Cond.fieldLink RX0 21 (TX0 3).1 (TX0 3).2.1 (TX0 3).2.2.1 ∈ lw_g := lg_mem 62 (by decide +kernel) rfl
theorem lf_X0_24 : Cond.fieldLink RX0 24 (TX1 0).1 (TX1 0).2.1 (TX1 0).2.2.1 ∈ lw_g := lg_mem 457 (by decide +kernel) rfl
theorem lf_X0_33 : Cond.fieldLink RX0 33 (TX1 1).1 (TX1 1).2.1 (TX1 1).2.2.1 ∈ lw_g := lg_mem 459 (by decide +kernel) rfl
theorem lf_X2_9 : Cond.fieldLink RX2 9 (TX2 0).1 (TX2 0).2.1 (TX2 0).2.2.1 ∈ lw_g := lg_mem 151 (by decide +kernel) rfl
theorem lf_X2_15 : Cond.fieldLink RX2 15 (TX2 1).1 (TX2 1).2.1 (TX2 1).2.2.1 ∈ lw_g := lg_mem 152 (by decide +kernel) rfl
theorem lf_X2_18 : Cond.fieldLink RX2 18 (TX2 2).1 (TX2 2).2.1 (TX2 2).2.2.1 ∈ lw_g := lg_mem 153 (by decide +kernel) rfl
theorem lf_X2_21 : Cond.fieldLink RX2 21 (TX2 3).1 (TX2 3).2.1 (TX2 3).2.2.1 ∈ lw_g := lg_mem 154 (by decide +kernel) rfl
theorem lf_X3_9 : Cond.fieldLink RX3 9 (TX3 3).1 (TX3 3).2.1 (TX3 3).2.2.1 ∈ lw_g := lg_mem 297 (by decide +kernel) rfl
theorem lf_X3_15 : Cond.fieldLink RX3 15 (TX3 4).1 (TX3 4).2.1 (TX3 4).2.2.1 ∈ lw_g := lg_mem 298 (by decide +kernel) rfl
theorem lf_X3_19 : Cond.fieldLink RX3 19 (TX3 0).1 (TX3 0).2.1 (TX3 0).2.2.1 ∈ lw_g := lg_mem 292 (by decide +kernel) rfl
theorem lf_X3_22 : Cond.fieldLink RX3 22 (TX3 1).1 (TX3 1).2.1 (TX3 1).2.2.1 ∈ lw_g := lg_mem 294 (by decide +kernel) rfl
theorem lf_X4_9 : Cond.fieldLink RX4 9 (TX4 0).1 (TX4 0).2.1 (TX4 0).2.2.1 ∈ lw_g := lg_mem 26 (by decide +kernel) rfl
theorem lf_X4_15 : Cond.fieldLink RX4 15 (TX4 1).1 (TX4 1).2.1 (TX4 1).2.2.1 ∈ lw_g := lg_mem 27 (by decide +kernel) rfl
theorem lf_X5_9 : Cond.fieldLink RX5 9 (TX5 0).1 (TX5 0).2.1 (TX5 0).2.2.1 ∈ lw_g := lg_mem 44 (by decide +kernel) rfl
theorem lf_X5_15 : Cond.fieldLink RX5 15 (TX5 1).1 (TX5 1).2.1 (TX5 1).2.2.1 ∈ lw_g := lg_mem 45 (by decide +kernel) rfl
theorem lf_X6_9 : Cond.fieldLink RX6 9 (TX6 0).1 (TX6 0).2.1 (TX6 0).2.2.1 ∈ lw_g := lg_mem 79 (by decide +kernel) rfl
theorem lf_X6_15 : Cond.fieldLink RX6 15 (TX6 1).1 (TX6 1).2.1 (TX6 1).2.2.1 ∈ lw_g := lg_mem 80 (by decide +kernel) rfl
theorem lf_X7_10 : Cond.fieldLink RX7 10 (TX7 0).1 (TX7 0).2.1 (TX7 0).2.2.1 ∈ lw_g := lg_mem 90 (by decide +kernel) rfl
theorem lf_X7_18 : Cond.fieldLink RX7 18 (TX7 1).1 (TX7 1).2.1 (TX7 1).2.2.1 ∈ lw_g := lg_mem 91 (by decide +kernel) rfl
theorem lf_X7_22 : Cond.fieldLink RX7 22 (TX7 2).1 (TX7 2).2.1 (TX7 2).2.2.1 ∈ lw_g := lg_mem 92 (by decide +kernel) rfl
theorem lf_X7_26 : Cond.fieldLink RX7 26 (TX7 3).1 (TX7 3).2.1 (TX7 3).2.2.1 ∈ lw_g := lg_mem 93 (by decide +kernel) rfl
theorem lf_X7_32 : Cond.fieldLink RX7 32 (TX7 4).1 (TX7 4).2.1 (TX7 4).2.2.1 ∈ lw_g := lg_mem 94 (by decide +kernel) rfl
theorem lf_X7_36 : Cond.fieldLink RX7 36 (TX7 5).1 (TX7 5).2.1 (TX7 5).2.2.1 ∈ lw_g := lg_mem 95 (by decide +kernel) rfl
theorem lf_X7_42 : Cond.fieldLink RX7 42 (TX7 6).1 (TX7 6).2.1 (TX7 6).2.2.1 ∈ lw_g := lg_mem 96 (by decide +kernel) rfl
theorem lf_X7_48 : Cond.fieldLink RX7 48 (TX7 7).1 (TX7 7).2.1 (TX7 7).2.2.1 ∈ lw_g := lg_mem 97 (by decide +kernel) rfl
theorem lf_X7_52 : Cond.fieldLink RX7 52 (TX7 8).1 (TX7 8).2.1 (TX7 8).2.2.1 ∈ lw_g := lg_mem 98 (by decide +kernel) rfl
theorem lf_X7_55 : Cond.fieldLink RX7 55 (TX7 9).1 (TX7 9).2.1 (TX7 9).2.2.1 ∈ lw_g := lg_mem 99 (by decide +kernel) rfl
theorem lf_X7_59 : Cond.fieldLink RX7 59 (TX7 10).1 (TX7 10).2.1 (TX7 10).2.2.1 ∈ lw_g := lg_mem 100 (by decide +kernel) rfl
theorem lf_X7_62 : Cond.fieldLink RX7 62 (TX7 11).1 (TX7 11).2.1 (TX7 11).2.2.1 ∈ lw_g := lg_mem 101 (by decide +kernel) rfl
theorem lf_X7_65 : Cond.fieldLink RX7 65 (TX7 12).1 (TX7 12).2.1 (TX7 12).2.2.1 ∈ lw_g := lg_mem 102 (by decide +kernel) rfl
theorem lf_X7_68 : Cond.fieldLink RX7 68 (TX7 13).1 (TX7 13).2.1 (TX7 13).2.2.1 ∈ lw_g := lg_mem 103 (by decide +kernel) rfl
theorem lf_X7_74 : Cond.fieldLink RX7 74 (TX7 14).1 (TX7 14).2.1 (TX7 14).2.2.1 ∈ lw_g := lg_mem 104 (by decide +kernel) rfl
theorem lf_X7_78 : Cond.fieldLink RX7 78 (TX7 15).1 (TX7 15).2.1 (TX7 15).2.2.1 ∈ lw_g := lg_mem 105 (by decide +kernel) rfl
theorem lf_X7_84 : Cond.fieldLink RX7 84 (TX7 16).1 (TX7 16).2.1 (TX7 16).2.2.1 ∈ lw_g := lg_mem 106 (by decide +kernel) rfl
theorem lf_X7_112 : Cond.fieldLink RX7 112 (TX2 4).1 (TX2 4).2.1 (TX2 4).2.2.1 ∈ lw_g := lg_mem 156 (by decide +kernel) rfl
theorem lf_X7_154 : Cond.fieldLink RX7 154 (TX3 0).1 (TX3 0).2.1 (TX3 0).2.2.1 ∈ lw_g := lg_mem 293 (by decide +kernel) rfl
theorem lf_X7_157 : Cond.fieldLink RX7 157 (TX2 5).1 (TX2 5).2.1 (TX2 5).2.2.1 ∈ lw_g := lg_mem 158 (by decide +kernel) rfl
theorem lf_X7_160 : Cond.fieldLink RX7 160 (TX2 6).1 (TX2 6).2.1 (TX2 6).2.2.1 ∈ lw_g := lg_mem 160 (by decide +kernel) rfl
theorem lf_X7_173 : Cond.fieldLink RX7 173 (TX3 4).1 (TX3 4).2.1 (TX3 4).2.2.1 ∈ lw_g := lg_mem 299 (by decide +kernel) rfl
theorem lf_X7_227 : Cond.fieldLink RX7 227 (TX1 3).1 (TX1 3).2.1 (TX1 3).2.2.1 ∈ lw_g := lg_mem 463 (by decide +kernel) rfl
theorem lf_X7_248 : Cond.fieldLink RX7 248 (TX6 1).1 (TX6 1).2.1 (TX6 1).2.2.1 ∈ lw_g := lg_mem 81 (by decide +kernel) rfl
theorem lf_X7_280 : Cond.fieldLink RX7 280 (TX3 2).1 (TX3 2).2.1 (TX3 2).2.2.1 ∈ lw_g := lg_mem 296 (by decide +kernel) rfl
theorem lf_X7_299 : Cond.fieldLink RX7 299 (TX1 2).1 (TX1 2).2.1 (TX1 2).2.2.1 ∈ lw_g := lg_mem 461 (by decide +kernel) rfl
theorem lf_X8_13 : Cond.fieldLink RX8 13 (TX8 2).1 (TX8 2).2.1 (TX8 2).2.2.1 ∈ lw_g := lg_mem 606 (by decide +kernel) rfl
theorem lf_X8_17 : Cond.fieldLink RX8 17 (TX8 3).1 (TX8 3).2.1 (TX8 3).2.2.1 ∈ lw_g := lg_mem 607 (by decide +kernel) rfl
theorem lf_X8_20 : Cond.fieldLink RX8 20 (TX8 4).1 (TX8 4).2.1 (TX8 4).2.2.1 ∈ lw_g := lg_mem 608 (by decide +kernel) rfl
theorem lf_X8_23 : Cond.fieldLink RX8 23 (TX8 5).1 (TX8 5).2.1 (TX8 5).2.2.1 ∈ lw_g := lg_mem 609 (by decide +kernel) rfl
theorem lf_X8_26 : Cond.fieldLink RX8 26 (TX8 6).1 (TX8 6).2.1 (TX8 6).2.2.1 ∈ lw_g := lg_mem 610 (by decide +kernel) rfl
theorem lf_X8_29 : Cond.fieldLink RX8 29 (TX8 7).1 (TX8 7).2.1 (TX8 7).2.2.1 ∈ lw_g := lg_mem 611 (by decide +kernel) rfl
theorem lf_X8_32 : Cond.fieldLink RX8 32 (TX8 8).1 (TX8 8).2.1 (TX8 8).2.2.1 ∈ lw_g := lg_mem 612 (by decide +kernel) rfl
theorem lf_X8_35 : Cond.fieldLink RX8 35 (TX8 9).1 (TX8 9).2.1 (TX8 9).2.2.1 ∈ lw_g := lg_mem 613 (by decide +kernel) rfl
theorem lf_X8_38 : Cond.fieldLink RX8 38 (TX8 10).1 (TX8 10).2.1 (TX8 10).2.2.1 ∈ lw_g := lg_mem 614 (by decide +kernel) rfl
theorem lf_X8_41 : Cond.fieldLink RX8 41 (TX8 11).1 (TX8 11).2.1 (TX8 11).2.2.1 ∈ lw_g := lg_mem 615 (by decide +kernel) rfl
theorem lf_X8_44 : Cond.fieldLink RX8 44 (TX8 13).1 (TX8 13).2.1 (TX8 13).2.2.1 ∈ lw_g := lg_mem 617 (by decide +kernel) rfl
theorem lf_X8_47 : Cond.fieldLink RX8 47 (TX8 14).1 (TX8 14).2.1 (TX8 14).2.2.1 ∈ lw_g := lg_mem 618 (by decide +kernel) rfl
theorem lf_X8_50 : Cond.fieldLink RX8 50 (TX8 15).1 (TX8 15).2.1 (TX8 15).2.2.1 ∈ lw_g := lg_mem 619 (by decide +kernel) rfl
theorem lf_X8_53 : Cond.fieldLink RX8 53 (TX8 16).1 (TX8 16).2.1 (TX8 16).2.2.1 ∈ lw_g := lg_mem 620 (by decide +kernel) rfl
theorem lf_X8_56 : Cond.fieldLink RX8 56 (TX8 17).1 (TX8 17).2.1 (TX8 17).2.2.1 ∈ lw_g := lg_mem 621 (by decide +kernel) rfl
theorem lf_X8_59 : Cond.fieldLink RX8 59 (TX8 18).1 (TX8 18).2.1 (TX8 18).2.2.1 ∈ lw_g := lg_mem 622 (by decide +kernel) rfl
theorem lf_X8_62 : Cond.fieldLink RX8 62 (TX8 19).1 (TX8 19).2.1 (TX8 19).2.2.1 ∈ lw_g := lg_mem 623 (by decide +kernel) rfl
theorem lf_X8_65 : Cond.fieldLink RX8 65 (TX8 20).1 (TX8 20).2.1 (TX8 20).2.2.1 ∈ lw_g := lg_mem 624 (by decide +kernel) rfl
theorem lf_X8_68 : Cond.fieldLink RX8 68 (TX8 21).1 (TX8 21).2.1 (TX8 21).2.2.1 ∈ lw_g := lg_mem 625 (by decide +kernel) rfl
theorem lf_X8_71 : Cond.fieldLink RX8 71 (TX8 22).1 (TX8 22).2.1 (TX8 22).2.2.1 ∈ lw_g := lg_mem 626 (by decide +kernel) rfl
theorem lf_X8_74 : Cond.fieldLink RX8 74 (TX8 24).1 (TX8 24).2.1 (TX8 24).2.2.1 ∈ lw_g := lg_mem 628 (by decide +kernel) rfl
theorem lf_X8_77 : Cond.fieldLink RX8 77 (TX8 25).1 (TX8 25).2.1 (TX8 25).2.2.1 ∈ lw_g := lg_mem 629 (by decide +kernel) rfl
theorem lf_X8_80 : Cond.fieldLink RX8 80 (TX8 26).1 (TX8 26).2.1 (TX8 26).2.2.1 ∈ lw_g := lg_mem 630 (by decide +kernel) rfl
theorem lf_X8_83 : Cond.fieldLink RX8 83 (TX8 27).1 (TX8 27).2.1 (TX8 27).2.2.1 ∈ lw_g := lg_mem 631 (by decide +kernel) rfl
theorem lf_X8_87 : Cond.fieldLink RX8 87 (TX8 28).1 (TX8 28).2.1 (TX8 28).2.2.1 ∈ lw_g := lg_mem 632 (by decide +kernel) rfl
theorem lf_X8_90 : Cond.fieldLink RX8 90 (TX8 29).1 (TX8 29).2.1 (TX8 29).2.2.1 ∈ lw_g := lg_mem 633 (by decide +kernel) rfl
theorem lf_X8_93 : Cond.fieldLink RX8 93 (TX8 31).1 (TX8 31).2.1 (TX8 31).2.2.1 ∈ lw_g := lg_mem 635 (by decide +kernel) rfl
theorem lf_X8_96 : Cond.fieldLink RX8 96 (TX8 33).1 (TX8 33).2.1 (TX8 33).2.2.1 ∈ lw_g := lg_mem 637 (by decide +kernel) rfl
theorem lf_X8_99 : Cond.fieldLink RX8 99 (TX8 35).1 (TX8 35).2.1 (TX8 35).2.2.1 ∈ lw_g := lg_mem 639 (by decide +kernel) rfl
theorem lf_X8_102 : Cond.fieldLink RX8 102 (TX8 36).1 (TX8 36).2.1 (TX8 36).2.2.1 ∈ lw_g := lg_mem 640 (by decide +kernel) rfl
theorem lf_X8_105 : Cond.fieldLink RX8 105 (TX8 37).1 (TX8 37).2.1 (TX8 37).2.2.1 ∈ lw_g := lg_mem 641 (by decide +kernel) rfl
theorem lf_X8_108 : Cond.fieldLink RX8 108 (TX8 1).1 (TX8 1).2.1 (TX8 1).2.2.1 ∈ lw_g := lg_mem 605 (by decide +kernel) rfl
theorem lf_X8_153 : Cond.fieldLink RX8 153 (TX8 12).1 (TX8 12).2.1 (TX8 12).2.2.1 ∈ lw_g := lg_mem 616 (by decide +kernel) rfl
theorem lf_X8_199 : Cond.fieldLink RX8 199 (TX8 23).1 (TX8 23).2.1 (TX8 23).2.2.1 ∈ lw_g := lg_mem 627 (by decide +kernel) rfl
theorem lf_X8_206 : Cond.fieldLink RX8 206 (TX8 30).1 (TX8 30).2.1 (TX8 30).2.2.1 ∈ lw_g := lg_mem 634 (by decide +kernel) rfl
theorem lf_X8_209 : Cond.fieldLink RX8 209 (TX8 32).1 (TX8 32).2.1 (TX8 32).2.2.1 ∈ lw_g := lg_mem 636 (by decide +kernel) rfl
theorem lf_X8_227 : Cond.fieldLink RX8 227 (TX8 34).1 (TX8 34).2.1 (TX8 34).2.2.1 ∈ lw_g := lg_mem 638 (by decide +kernel) rfl
theorem lk_X0_29 : Cond.methodLink RX0 29 yX0_reach ∈ lw_g := lg_mem 505 (by decide +kernel) rfl
theorem lk_X0_36 : Cond.methodLink RX0 36 yJ9_abs_0f7a4 ∈ lw_g := lg_mem 508 (by decide +kernel) rfl
theorem ln_X0_42 : (RX0, 42, yX7_within, "BridleBook") ∈ nn_l := by decide +kernel
theorem lk_X2_34 : Cond.methodLink RX2 34 yX4_liftAt ∈ lw_g := lg_mem 234 (by decide +kernel) rfl
theorem lk_X2_40 : Cond.methodLink RX2 40 yX2_pressure ∈ lw_g := lg_mem 235 (by decide +kernel) rfl
theorem lk_X2_44 : Cond.methodLink RX2 44 yX4_dragAt ∈ lw_g := lg_mem 242 (by decide +kernel) rfl
theorem lk_X2_47 : Cond.methodLink RX2 47 yX2_turningAt ∈ lw_g := lg_mem 255 (by decide +kernel) rfl
theorem lk_X2_51 : Cond.methodLink RX2 51 yJ9_max_7cf53 ∈ lw_g := lg_mem 264 (by decide +kernel) rfl
theorem lk_X2_57 : Cond.methodLink RX2 57 yJ9_min_7cf53 ∈ lw_g := lg_mem 267 (by decide +kernel) rfl
theorem lk_X3_28 : Cond.methodLink RX3 28 yX3_hasKnotAt ∈ lw_g := lg_mem 399 (by decide +kernel) rfl
theorem ln_X4_18 : (RX4, 18, yX7_isAngle, "BridleBook") ∈ nn_l := by decide +kernel
theorem lk_X4_22 : Cond.methodLink RX4 22 yX4_liftAt ∈ lw_g := lg_mem 210 (by decide +kernel) rfl
theorem lk_X4_26 : Cond.methodLink RX4 26 yX4_dragAt ∈ lw_g := lg_mem 219 (by decide +kernel) rfl
theorem lk_X5_18 : Cond.methodLink RX5 18 yJ7_fill_53178 ∈ lw_g := lg_mem 365 (by decide +kernel) rfl
theorem ln_X5_24 : (RX5, 24, yX7_within, "BridleBook") ∈ nn_l := by decide +kernel
theorem lk_X5_28 : Cond.methodLink RX5 28 yJ9_min_7cf53 ∈ lw_g := lg_mem 375 (by decide +kernel) rfl
theorem lk_X5_34 : Cond.methodLink RX5 34 yX5_acrossAt ∈ lw_g := lg_mem 380 (by decide +kernel) rfl
theorem lk_X5_38 : Cond.methodLink RX5 38 yX5_upAt ∈ lw_g := lg_mem 384 (by decide +kernel) rfl
theorem lk_X5_41 : Cond.methodLink RX5 41 yJ9_abs_067f4 ∈ lw_g := lg_mem 388 (by decide +kernel) rfl
theorem lk_X5_45 : Cond.methodLink RX5 45 yX5_rootFrom ∈ lw_g := lg_mem 391 (by decide +kernel) rfl
theorem lk_X5_53 : Cond.methodLink RX5 53 yX5_tensionAt ∈ lw_g := lg_mem 410 (by decide +kernel) rfl
theorem lk_X5_56 : Cond.methodLink RX5 56 yX5_hundredths ∈ lw_g := lg_mem 411 (by decide +kernel) rfl
theorem lk_X6_19 : Cond.methodLink RX6 19 yJ9_min_7cf53 ∈ lw_g := lg_mem 543 (by decide +kernel) rfl
theorem lk_X6_25 : Cond.methodLink RX6 25 yJ9_max_7cf53 ∈ lw_g := lg_mem 544 (by decide +kernel) rfl
theorem lk_X6_28 : Cond.methodLink RX6 28 yJ9_abs_0f7a4 ∈ lw_g := lg_mem 558 (by decide +kernel) rfl
theorem lk_X6_32 : Cond.methodLink RX6 32 yX6_codeOf ∈ lw_g := lg_mem 557 (by decide +kernel) rfl
theorem lk_X6_36 : Cond.methodLink RX6 36 yX6_isOfLine ∈ lw_g := lg_mem 567 (by decide +kernel) rfl
theorem lk_X6_40 : Cond.methodLink RX6 40 yX6_push ∈ lw_g := lg_mem 582 (by decide +kernel) rfl
theorem lk_X7_95 : Cond.methodLink RX7 95 yX7_kiteAt ∈ lw_g := lg_mem 180 (by decide +kernel) rfl
theorem lk_X7_99 : Cond.methodLink RX7 99 yX7_within ∈ lw_g := lg_mem 184 (by decide +kernel) rfl
theorem lk_X7_103 : Cond.methodLink RX7 103 yX7_isArm ∈ lw_g := lg_mem 187 (by decide +kernel) rfl
theorem lk_X7_107 : Cond.methodLink RX7 107 yX2_addPanel ∈ lw_g := lg_mem 190 (by decide +kernel) rfl
theorem lk_X7_115 : Cond.methodLink RX7 115 yX7_isAngle ∈ lw_g := lg_mem 203 (by decide +kernel) rfl
theorem lk_X7_118 : Cond.methodLink RX7 118 yX4_replaceLift ∈ lw_g := lg_mem 206 (by decide +kernel) rfl
theorem lk_X7_122 : Cond.methodLink RX7 122 yX4_replaceDrag ∈ lw_g := lg_mem 215 (by decide +kernel) rfl
theorem lk_X7_125 : Cond.methodLink RX7 125 yX7_isWind ∈ lw_g := lg_mem 227 (by decide +kernel) rfl
theorem lk_X7_128 : Cond.methodLink RX7 128 yX2_upAt ∈ lw_g := lg_mem 230 (by decide +kernel) rfl
theorem lk_X7_132 : Cond.methodLink RX7 132 yX2_backAt ∈ lw_g := lg_mem 238 (by decide +kernel) rfl
theorem lk_X7_135 : Cond.methodLink RX7 135 yX2_turningAt ∈ lw_g := lg_mem 243 (by decide +kernel) rfl
theorem lk_X7_139 : Cond.methodLink RX7 139 yX2_standingAngle ∈ lw_g := lg_mem 251 (by decide +kernel) rfl
theorem lk_X7_142 : Cond.methodLink RX7 142 yX2_isSteadyAt ∈ lw_g := lg_mem 260 (by decide +kernel) rfl
theorem lk_X7_150 : Cond.methodLink RX7 150 yX7_lineAt ∈ lw_g := lg_mem 315 (by decide +kernel) rfl
theorem lk_X7_163 : Cond.methodLink RX7 163 yX7_kitesOn ∈ lw_g := lg_mem 319 (by decide +kernel) rfl
theorem lk_X7_167 : Cond.methodLink RX7 167 yX3_hasKnotAt ∈ lw_g := lg_mem 331 (by decide +kernel) rfl
theorem lk_X7_170 : Cond.methodLink RX7 170 yX3_addKnot ∈ lw_g := lg_mem 335 (by decide +kernel) rfl
theorem lk_X7_176 : Cond.methodLink RX7 176 yX7_liftsOf ∈ lw_g := lg_mem 343 (by decide +kernel) rfl
theorem lk_X7_180 : Cond.methodLink RX7 180 yX7_partingStep ∈ lw_g := lg_mem 353 (by decide +kernel) rfl
theorem lk_X7_184 : Cond.methodLink RX7 184 yX3_strengthAt ∈ lw_g := lg_mem 395 (by decide +kernel) rfl
theorem lk_X7_187 : Cond.methodLink RX7 187 yX7_loadTrain ∈ lw_g := lg_mem 357 (by decide +kernel) rfl
theorem lk_X7_191 : Cond.methodLink RX7 191 yX5_acrossAt ∈ lw_g := lg_mem 404 (by decide +kernel) rfl
theorem lk_X7_194 : Cond.methodLink RX7 194 yX5_upAt ∈ lw_g := lg_mem 405 (by decide +kernel) rfl
theorem lk_X7_196 : Cond.methodLink RX7 196 yX5_tensionAt ∈ lw_g := lg_mem 376 (by decide +kernel) rfl
theorem lk_X7_199 : Cond.methodLink RX7 199 yX5_placeAcross ∈ lw_g := lg_mem 406 (by decide +kernel) rfl
theorem lk_X7_202 : Cond.methodLink RX7 202 yX5_placeUp ∈ lw_g := lg_mem 415 (by decide +kernel) rfl
theorem lk_X7_205 : Cond.methodLink RX7 205 yX7_sever ∈ lw_g := lg_mem 423 (by decide +kernel) rfl
theorem lk_X7_209 : Cond.methodLink RX7 209 yX7_isPlace ∈ lw_g := lg_mem 439 (by decide +kernel) rfl
theorem lk_X7_216 : Cond.methodLink RX7 216 yX7_hasTreeAt ∈ lw_g := lg_mem 481 (by decide +kernel) rfl
theorem lk_X7_219 : Cond.methodLink RX7 219 yX7_flyerAt ∈ lw_g := lg_mem 447 (by decide +kernel) rfl
theorem lk_X7_223 : Cond.methodLink RX7 223 yX7_reasonAgainst ∈ lw_g := lg_mem 493 (by decide +kernel) rfl
theorem lk_X7_231 : Cond.methodLink RX7 231 yX7_spreadCone ∈ lw_g := lg_mem 497 (by decide +kernel) rfl
theorem lk_X7_235 : Cond.methodLink RX7 235 yX0_holds ∈ lw_g := lg_mem 511 (by decide +kernel) rfl
theorem lk_X7_238 : Cond.methodLink RX7 238 yX7_areTwoLines ∈ lw_g := lg_mem 536 (by decide +kernel) rfl
theorem lk_X7_242 : Cond.methodLink RX7 242 yX6_codeOf ∈ lw_g := lg_mem 540 (by decide +kernel) rfl
theorem lk_X7_245 : Cond.methodLink RX7 245 yX6_push ∈ lw_g := lg_mem 545 (by decide +kernel) rfl
theorem lk_X7_251 : Cond.methodLink RX7 251 yX6_turnsOf ∈ lw_g := lg_mem 553 (by decide +kernel) rfl
theorem lk_X7_254 : Cond.methodLink RX7 254 yX6_undoneFor ∈ lw_g := lg_mem 563 (by decide +kernel) rfl
theorem lk_X7_257 : Cond.methodLink RX7 257 yX6_dropLine ∈ lw_g := lg_mem 578 (by decide +kernel) rfl
theorem lk_X7_261 : Cond.methodLink RX7 261 yX7_countFlying ∈ lw_g := lg_mem 587 (by decide +kernel) rfl
theorem lk_X7_265 : Cond.methodLink RX7 265 yX7_countTied ∈ lw_g := lg_mem 591 (by decide +kernel) rfl
theorem lk_X7_268 : Cond.methodLink RX7 268 yX7_countFree ∈ lw_g := lg_mem 595 (by decide +kernel) rfl
theorem lk_X7_272 : Cond.methodLink RX7 272 yJ9_min_7cf53 ∈ lw_g := lg_mem 351 (by decide +kernel) rfl
theorem lk_X7_277 : Cond.methodLink RX7 277 yJ9_max_7cf53 ∈ lw_g := lg_mem 352 (by decide +kernel) rfl
theorem lk_X7_283 : Cond.methodLink RX7 283 yX7_windAt ∈ lw_g := lg_mem 347 (by decide +kernel) rfl
theorem lk_X7_286 : Cond.methodLink RX7 286 yX5_clear ∈ lw_g := lg_mem 361 (by decide +kernel) rfl
theorem lk_X7_289 : Cond.methodLink RX7 289 yX5_hang ∈ lw_g := lg_mem 366 (by decide +kernel) rfl
theorem lk_X7_292 : Cond.methodLink RX7 292 yX5_sumFromEnd ∈ lw_g := lg_mem 371 (by decide +kernel) rfl
theorem lk_X7_296 : Cond.methodLink RX7 296 yX3_shortenTo ∈ lw_g := lg_mem 427 (by decide +kernel) rfl
theorem lk_X7_300 : Cond.methodLink RX7 300 yX0_spread ∈ lw_g := lg_mem 501 (by decide +kernel) rfl
theorem lk_X7_304 : Cond.methodLink RX7 304 yX7_isInTheWay ∈ lw_g := lg_mem 516 (by decide +kernel) rfl
theorem lk_X7_307 : Cond.methodLink RX7 307 yX0_meets ∈ lw_g := lg_mem 520 (by decide +kernel) rfl
theorem lk_X8_111 : Cond.methodLink RX8 111 yX8_in ∈ lw_g := lg_mem 731 (by decide +kernel) rfl
theorem lk_X8_115 : Cond.methodLink RX8 115 yX8_isKite ∈ lw_g := lg_mem 727 (by decide +kernel) rfl
theorem lk_X8_120 : Cond.methodLink RX8 120 yX8_isAngle ∈ lw_g := lg_mem 743 (by decide +kernel) rfl
theorem lk_X8_123 : Cond.methodLink RX8 123 yX8_weightOf ∈ lw_g := lg_mem 757 (by decide +kernel) rfl
theorem lk_X8_127 : Cond.methodLink RX8 127 yX8_isWind ∈ lw_g := lg_mem 750 (by decide +kernel) rfl
theorem lk_X8_130 : Cond.methodLink RX8 130 yX8_up ∈ lw_g := lg_mem 753 (by decide +kernel) rfl
theorem lk_X8_134 : Cond.methodLink RX8 134 yX8_back ∈ lw_g := lg_mem 761 (by decide +kernel) rfl
theorem lk_X8_137 : Cond.methodLink RX8 137 yX8_turns ∈ lw_g := lg_mem 765 (by decide +kernel) rfl
theorem lk_X8_140 : Cond.methodLink RX8 140 yX8_standsAt ∈ lw_g := lg_mem 773 (by decide +kernel) rfl
theorem lk_X8_144 : Cond.methodLink RX8 144 yX8_isSteady ∈ lw_g := lg_mem 781 (by decide +kernel) rfl
theorem lk_X8_147 : Cond.methodLink RX8 147 yX8_pullUp ∈ lw_g := lg_mem 789 (by decide +kernel) rfl
theorem lk_X8_150 : Cond.methodLink RX8 150 yX8_pullBack ∈ lw_g := lg_mem 793 (by decide +kernel) rfl
theorem lk_X8_157 : Cond.methodLink RX8 157 yX8_isLine ∈ lw_g := lg_mem 814 (by decide +kernel) rfl
theorem lk_X8_160 : Cond.methodLink RX8 160 yX8_isStep ∈ lw_g := lg_mem 818 (by decide +kernel) rfl
theorem lk_X8_164 : Cond.methodLink RX8 164 yX8_kitesOn ∈ lw_g := lg_mem 822 (by decide +kernel) rfl
theorem lk_X8_167 : Cond.methodLink RX8 167 yX8_isWeak ∈ lw_g := lg_mem 834 (by decide +kernel) rfl
theorem lk_X8_174 : Cond.methodLink RX8 174 yX8_windBand ∈ lw_g := lg_mem 850 (by decide +kernel) rfl
theorem lk_X8_177 : Cond.methodLink RX8 177 yX8_root ∈ lw_g := lg_mem 853 (by decide +kernel) rfl
theorem lk_X8_183 : Cond.methodLink RX8 183 yX8_stand ∈ lw_g := lg_mem 846 (by decide +kernel) rfl
theorem lk_X8_187 : Cond.methodLink RX8 187 yX8_strengthAt ∈ lw_g := lg_mem 863 (by decide +kernel) rfl
theorem lk_X8_190 : Cond.methodLink RX8 190 yX8_lifts ∈ lw_g := lg_mem 842 (by decide +kernel) rfl
theorem lk_X8_193 : Cond.methodLink RX8 193 yX8_partsAt ∈ lw_g := lg_mem 859 (by decide +kernel) rfl
theorem lk_X8_196 : Cond.methodLink RX8 196 yX8_end ∈ lw_g := lg_mem 875 (by decide +kernel) rfl
theorem lk_X8_203 : Cond.methodLink RX8 203 yX8_isPlace ∈ lw_g := lg_mem 887 (by decide +kernel) rfl
theorem lk_X8_212 : Cond.methodLink RX8 212 yX8_isFlyer ∈ lw_g := lg_mem 903 (by decide +kernel) rfl
theorem lk_X8_215 : Cond.methodLink RX8 215 yX8_endOf ∈ lw_g := lg_mem 919 (by decide +kernel) rfl
theorem lk_X8_218 : Cond.methodLink RX8 218 yX8_isInCone ∈ lw_g := lg_mem 915 (by decide +kernel) rfl
theorem lk_X8_221 : Cond.methodLink RX8 221 yX8_doMeet ∈ lw_g := lg_mem 923 (by decide +kernel) rfl
theorem lk_X8_224 : Cond.methodLink RX8 224 yX8_whyNot ∈ lw_g := lg_mem 911 (by decide +kernel) rfl
theorem lk_X8_230 : Cond.methodLink RX8 230 yX8_lesser ∈ lw_g := lg_mem 939 (by decide +kernel) rfl
theorem lk_X8_233 : Cond.methodLink RX8 233 yX8_greater ∈ lw_g := lg_mem 942 (by decide +kernel) rfl
theorem lk_X8_236 : Cond.methodLink RX8 236 yX8_wind0 ∈ lw_g := lg_mem 945 (by decide +kernel) rfl
theorem lk_X8_240 : Cond.methodLink RX8 240 yX8_turnsOf ∈ lw_g := lg_mem 953 (by decide +kernel) rfl
theorem lk_X8_243 : Cond.methodLink RX8 243 yX8_has ∈ lw_g := lg_mem 961 (by decide +kernel) rfl
theorem lk_X8_246 : Cond.methodLink RX8 246 yX8_undo ∈ lw_g := lg_mem 977 (by decide +kernel) rfl
theorem lc_X5_49 : Cond.constantLong RX5 49 2 ∈ lw_g := lg_mem 394 (by decide +kernel) rfl
theorem lc_X5_51 : Cond.constantLong RX5 51 100 ∈ lw_g := lg_mem 414 (by decide +kernel) rfl
theorem lc_X7_111 : Cond.constant RX7 111 (-2000000000) ∈ lw_g := lg_mem 198 (by decide +kernel) rfl
theorem lc_X7_146 : Cond.constant RX7 146 99999 ∈ lw_g := lg_mem 286 (by decide +kernel) rfl
theorem lc_X7_271 : Cond.constant RX7 271 39999 ∈ lw_g := lg_mem 442 (by decide +kernel) rfl
theorem lc_X8_119 : Cond.constant RX8 119 (-2000000000) ∈ lw_g := lg_mem 738 (by decide +kernel) rfl
theorem lc_X8_156 : Cond.constant RX8 156 99999 ∈ lw_g := lg_mem 809 (by decide +kernel) rfl
theorem lc_X8_170 : Cond.constantLong RX8 170 3000000000 ∈ lw_g := lg_mem 856 (by decide +kernel) rfl
theorem lc_X8_172 : Cond.constantLong RX8 172 2 ∈ lw_g := lg_mem 857 (by decide +kernel) rfl
theorem lc_X8_181 : Cond.constantLong RX8 181 100 ∈ lw_g := lg_mem 858 (by decide +kernel) rfl
theorem lc_X8_202 : Cond.constant RX8 202 39999 ∈ lw_g := lg_mem 890 (by decide +kernel) rfl
set_option maxRecDepth 100000 in
theorem ok_J9_abs_0f7a4 : OkS yJ9_abs_0f7a4 cJ9_abs_0f7a4 1 (some .int) 1 := ⟨lg_mem 510 rfl rfl, lg_mem 509 (by decide +kernel) rfl, lg_mem 9 (by decide +kernel) rfl, by decide, by decide, by decide +kernel⟩
set_option maxRecDepth 100000 in
theorem ok_X0_reach : OkS yX0_reach cX0_reach 4 (some .int) 4 := ⟨lg_mem 507 rfl rfl, lg_mem 506 (by decide +kernel) rfl, lg_mem 4 (by decide +kernel) rfl, by decide, by decide, by decide +kernel⟩
set_option maxRecDepth 100000 in
theorem ok_X0_spread : OkV yX0_spread cX0_spread 5 none 4 := ⟨lg_mem 504 rfl rfl, lg_mem 502 (by decide +kernel) rfl, lg_mem 503 (by decide +kernel) rfl, lg_mem 4 (by decide +kernel) rfl, by decide, by decide, by decide +kernel⟩
set_option maxRecDepth 100000 in
theorem ok_X7_within : OkS yX7_within cX7_within 3 (some .boolean) 3 := ⟨lg_mem 186 rfl rfl, lg_mem 185 (by decide +kernel) rfl, lg_mem 1 (by decide +kernel) rfl, by decide, by decide, by decide +kernel⟩
set_option maxRecDepth 100000 in
theorem ok_X0_holds : OkV yX0_holds cX0_holds 2 (some .boolean) 1 := ⟨lg_mem 514 rfl rfl, lg_mem 512 (by decide +kernel) rfl, lg_mem 513 (by decide +kernel) rfl, lg_mem 4 (by decide +kernel) rfl, by decide, by decide, by decide +kernel⟩
set_option maxRecDepth 100000 in
theorem ok_X0_meets : OkV yX0_meets cX0_meets 2 (some .boolean) 1 := ⟨lg_mem 523 rfl rfl, lg_mem 521 (by decide +kernel) rfl, lg_mem 522 (by decide +kernel) rfl, lg_mem 4 (by decide +kernel) rfl, by decide, by decide, by decide +kernel⟩
set_option maxRecDepth 100000 in
theorem ok_X2_addPanel : OkV yX2_addPanel cX2_addPanel 4 (some .int) 3 := ⟨lg_mem 193 rfl rfl, lg_mem 191 (by decide +kernel) rfl, lg_mem 192 (by decide +kernel) rfl, lg_mem 8 (by decide +kernel) rfl, by decide, by decide, by decide +kernel⟩
set_option maxRecDepth 100000 in
theorem ok_X2_pressure : OkS yX2_pressure cX2_pressure 3 (some .int) 3 := ⟨lg_mem 237 rfl rfl, lg_mem 236 (by decide +kernel) rfl, lg_mem 8 (by decide +kernel) rfl, by decide, by decide, by decide +kernel⟩
set_option maxRecDepth 100000 in
theorem ok_X7_isAngle : OkS yX7_isAngle cX7_isAngle 1 (some .boolean) 1 := ⟨lg_mem 205 rfl rfl, lg_mem 204 (by decide +kernel) rfl, lg_mem 1 (by decide +kernel) rfl, by decide, by decide, by decide +kernel⟩
set_option maxRecDepth 100000 in
theorem ok_X4_liftAt : OkV yX4_liftAt cX4_liftAt 2 (some .int) 1 := ⟨lg_mem 213 rfl rfl, lg_mem 211 (by decide +kernel) rfl, lg_mem 212 (by decide +kernel) rfl, lg_mem 2 (by decide +kernel) rfl, by decide, by decide, by decide +kernel⟩
set_option maxRecDepth 100000 in
theorem ok_X2_upAt : OkV yX2_upAt cX2_upAt 7 (some .int) 3 := ⟨lg_mem 233 rfl rfl, lg_mem 231 (by decide +kernel) rfl, lg_mem 232 (by decide +kernel) rfl, lg_mem 8 (by decide +kernel) rfl, by decide, by decide, by decide +kernel⟩
set_option maxRecDepth 100000 in
theorem ok_X4_dragAt : OkV yX4_dragAt cX4_dragAt 2 (some .int) 1 := ⟨lg_mem 222 rfl rfl, lg_mem 220 (by decide +kernel) rfl, lg_mem 221 (by decide +kernel) rfl, lg_mem 2 (by decide +kernel) rfl, by decide, by decide, by decide +kernel⟩
set_option maxRecDepth 100000 in
theorem ok_X2_backAt : OkV yX2_backAt cX2_backAt 7 (some .int) 3 := ⟨lg_mem 241 rfl rfl, lg_mem 239 (by decide +kernel) rfl, lg_mem 240 (by decide +kernel) rfl, lg_mem 8 (by decide +kernel) rfl, by decide, by decide, by decide +kernel⟩
set_option maxRecDepth 100000 in
theorem ok_X2_turningAt : OkV yX2_turningAt cX2_turningAt 8 (some .int) 4 := ⟨lg_mem 246 rfl rfl, lg_mem 244 (by decide +kernel) rfl, lg_mem 245 (by decide +kernel) rfl, lg_mem 8 (by decide +kernel) rfl, by decide, by decide, by decide +kernel⟩
set_option maxRecDepth 100000 in
theorem ok_X2_standingAngle : OkV yX2_standingAngle cX2_standingAngle 7 (some .int) 3 := ⟨lg_mem 254 rfl rfl, lg_mem 252 (by decide +kernel) rfl, lg_mem 253 (by decide +kernel) rfl, lg_mem 8 (by decide +kernel) rfl, by decide, by decide, by decide +kernel⟩
set_option maxRecDepth 100000 in
theorem ok_J9_max_7cf53 : OkS yJ9_max_7cf53 cJ9_max_7cf53 2 (some .int) 2 := ⟨lg_mem 266 rfl rfl, lg_mem 265 (by decide +kernel) rfl, lg_mem 9 (by decide +kernel) rfl, by decide, by decide, by decide +kernel⟩
set_option maxRecDepth 100000 in
theorem ok_J9_min_7cf53 : OkS yJ9_min_7cf53 cJ9_min_7cf53 2 (some .int) 2 := ⟨lg_mem 269 rfl rfl, lg_mem 268 (by decide +kernel) rfl, lg_mem 9 (by decide +kernel) rfl, by decide, by decide, by decide +kernel⟩
set_option maxRecDepth 100000 in
theorem ok_X2_isSteadyAt : OkV yX2_isSteadyAt cX2_isSteadyAt 7 (some .boolean) 4 := ⟨lg_mem 263 rfl rfl, lg_mem 261 (by decide +kernel) rfl, lg_mem 262 (by decide +kernel) rfl, lg_mem 8 (by decide +kernel) rfl, by decide, by decide, by decide +kernel⟩
set_option maxRecDepth 100000 in
theorem ok_X3_hasKnotAt : OkV yX3_hasKnotAt cX3_hasKnotAt 3 (some .boolean) 1 := ⟨lg_mem 334 rfl rfl, lg_mem 332 (by decide +kernel) rfl, lg_mem 333 (by decide +kernel) rfl, lg_mem 10 (by decide +kernel) rfl, by decide, by decide, by decide +kernel⟩
set_option maxRecDepth 100000 in
theorem ok_X3_addKnot : OkV yX3_addKnot cX3_addKnot 2 (some .int) 1 := ⟨lg_mem 338 rfl rfl, lg_mem 336 (by decide +kernel) rfl, lg_mem 337 (by decide +kernel) rfl, lg_mem 10 (by decide +kernel) rfl, by decide, by decide, by decide +kernel⟩
set_option maxRecDepth 100000 in
theorem ok_X3_strengthAt : OkV yX3_strengthAt cX3_strengthAt 2 (some .int) 1 := ⟨lg_mem 398 rfl rfl, lg_mem 396 (by decide +kernel) rfl, lg_mem 397 (by decide +kernel) rfl, lg_mem 10 (by decide +kernel) rfl, by decide, by decide, by decide +kernel⟩
set_option maxRecDepth 100000 in
theorem ok_X3_shortenTo : OkV yX3_shortenTo cX3_shortenTo 4 none 1 := ⟨lg_mem 430 rfl rfl, lg_mem 428 (by decide +kernel) rfl, lg_mem 429 (by decide +kernel) rfl, lg_mem 10 (by decide +kernel) rfl, by decide, by decide, by decide +kernel⟩
set_option maxRecDepth 100000 in
theorem ok_X4_replaceLift : OkV yX4_replaceLift cX4_replaceLift 4 (some .int) 2 := ⟨lg_mem 209 rfl rfl, lg_mem 207 (by decide +kernel) rfl, lg_mem 208 (by decide +kernel) rfl, lg_mem 2 (by decide +kernel) rfl, by decide, by decide, by decide +kernel⟩
set_option maxRecDepth 100000 in
theorem ok_X4_replaceDrag : OkV yX4_replaceDrag cX4_replaceDrag 4 (some .int) 2 := ⟨lg_mem 218 rfl rfl, lg_mem 216 (by decide +kernel) rfl, lg_mem 217 (by decide +kernel) rfl, lg_mem 2 (by decide +kernel) rfl, by decide, by decide, by decide +kernel⟩
set_option maxRecDepth 100000 in
theorem ok_J7_fill_53178 : OkS yJ7_fill_53178 cJ7_fill_53178 4 none 2 := ⟨lg_mem 89 rfl rfl, lg_mem 88 (by decide +kernel) rfl, lg_mem 6 (by decide +kernel) rfl, by decide, by decide, by decide +kernel⟩
set_option maxRecDepth 100000 in
theorem ok_X5_clear : OkV yX5_clear cX5_clear 1 none 0 := ⟨lg_mem 364 rfl rfl, lg_mem 362 (by decide +kernel) rfl, lg_mem 363 (by decide +kernel) rfl, lg_mem 3 (by decide +kernel) rfl, by decide, by decide, by decide +kernel⟩
set_option maxRecDepth 100000 in
theorem ok_X5_hang : OkV yX5_hang cX5_hang 4 none 3 := ⟨lg_mem 369 rfl rfl, lg_mem 367 (by decide +kernel) rfl, lg_mem 368 (by decide +kernel) rfl, lg_mem 3 (by decide +kernel) rfl, by decide, by decide, by decide +kernel⟩
set_option maxRecDepth 100000 in
theorem ok_X5_sumFromEnd : OkV yX5_sumFromEnd cX5_sumFromEnd 4 none 2 := ⟨lg_mem 374 rfl rfl, lg_mem 372 (by decide +kernel) rfl, lg_mem 373 (by decide +kernel) rfl, lg_mem 3 (by decide +kernel) rfl, by decide, by decide, by decide +kernel⟩
set_option maxRecDepth 100000 in
theorem ok_X5_acrossAt : OkV yX5_acrossAt cX5_acrossAt 2 (some .int) 1 := ⟨lg_mem 383 rfl rfl, lg_mem 381 (by decide +kernel) rfl, lg_mem 382 (by decide +kernel) rfl, lg_mem 3 (by decide +kernel) rfl, by decide, by decide, by decide +kernel⟩
set_option maxRecDepth 100000 in
theorem ok_X5_upAt : OkV yX5_upAt cX5_upAt 2 (some .int) 1 := ⟨lg_mem 387 rfl rfl, lg_mem 385 (by decide +kernel) rfl, lg_mem 386 (by decide +kernel) rfl, lg_mem 3 (by decide +kernel) rfl, by decide, by decide, by decide +kernel⟩
set_option maxRecDepth 100000 in
theorem ok_J9_abs_067f4 : OkS yJ9_abs_067f4 cJ9_abs_067f4 2 (some .long) 1 := ⟨lg_mem 390 rfl rfl, lg_mem 389 (by decide +kernel) rfl, lg_mem 9 (by decide +kernel) rfl, by decide, by decide, by decide +kernel⟩
set_option maxRecDepth 100000 in
theorem ok_X5_rootFrom : OkS yX5_rootFrom cX5_rootFrom 9 (some .long) 2 := ⟨lg_mem 393 rfl rfl, lg_mem 392 (by decide +kernel) rfl, lg_mem 3 (by decide +kernel) rfl, by decide, by decide, by decide +kernel⟩
set_option maxRecDepth 100000 in
theorem ok_X5_tensionAt : OkV yX5_tensionAt cX5_tensionAt 6 (some .int) 1 := ⟨lg_mem 379 rfl rfl, lg_mem 377 (by decide +kernel) rfl, lg_mem 378 (by decide +kernel) rfl, lg_mem 3 (by decide +kernel) rfl, by decide, by decide, by decide +kernel⟩
set_option maxRecDepth 100000 in
theorem ok_X5_hundredths : OkS yX5_hundredths cX5_hundredths 2 (some .int) 2 := ⟨lg_mem 413 rfl rfl, lg_mem 412 (by decide +kernel) rfl, lg_mem 3 (by decide +kernel) rfl, by decide, by decide, by decide +kernel⟩
set_option maxRecDepth 100000 in
theorem ok_X5_placeAcross : OkV yX5_placeAcross cX5_placeAcross 4 (some .int) 1 := ⟨lg_mem 409 rfl rfl, lg_mem 407 (by decide +kernel) rfl, lg_mem 408 (by decide +kernel) rfl, lg_mem 3 (by decide +kernel) rfl, by decide, by decide, by decide +kernel⟩
set_option maxRecDepth 100000 in
theorem ok_X5_placeUp : OkV yX5_placeUp cX5_placeUp 4 (some .int) 1 := ⟨lg_mem 418 rfl rfl, lg_mem 416 (by decide +kernel) rfl, lg_mem 417 (by decide +kernel) rfl, lg_mem 3 (by decide +kernel) rfl, by decide, by decide, by decide +kernel⟩
set_option maxRecDepth 100000 in
theorem ok_X6_codeOf : OkS yX6_codeOf cX6_codeOf 3 (some .int) 3 := ⟨lg_mem 542 rfl rfl, lg_mem 541 (by decide +kernel) rfl, lg_mem 5 (by decide +kernel) rfl, by decide, by decide, by decide +kernel⟩
set_option maxRecDepth 100000 in
theorem ok_X6_isOfLine : OkS yX6_isOfLine cX6_isOfLine 3 (some .boolean) 2 := ⟨lg_mem 569 rfl rfl, lg_mem 568 (by decide +kernel) rfl, lg_mem 5 (by decide +kernel) rfl, by decide, by decide, by decide +kernel⟩
set_option maxRecDepth 100000 in
theorem ok_X6_push : OkV yX6_push cX6_push 2 (some .boolean) 1 := ⟨lg_mem 548 rfl rfl, lg_mem 546 (by decide +kernel) rfl, lg_mem 547 (by decide +kernel) rfl, lg_mem 5 (by decide +kernel) rfl, by decide, by decide, by decide +kernel⟩
set_option maxRecDepth 100000 in
theorem ok_X6_turnsOf : OkV yX6_turnsOf cX6_turnsOf 6 (some .int) 2 := ⟨lg_mem 556 rfl rfl, lg_mem 554 (by decide +kernel) rfl, lg_mem 555 (by decide +kernel) rfl, lg_mem 5 (by decide +kernel) rfl, by decide, by decide, by decide +kernel⟩
set_option maxRecDepth 100000 in
theorem ok_X6_undoneFor : OkV yX6_undoneFor cX6_undoneFor 3 (some .int) 1 := ⟨lg_mem 566 rfl rfl, lg_mem 564 (by decide +kernel) rfl, lg_mem 565 (by decide +kernel) rfl, lg_mem 5 (by decide +kernel) rfl, by decide, by decide, by decide +kernel⟩
set_option maxRecDepth 100000 in
theorem ok_X6_dropLine : OkV yX6_dropLine cX6_dropLine 5 none 1 := ⟨lg_mem 581 rfl rfl, lg_mem 579 (by decide +kernel) rfl, lg_mem 580 (by decide +kernel) rfl, lg_mem 5 (by decide +kernel) rfl, by decide, by decide, by decide +kernel⟩
set_option maxRecDepth 100000 in
theorem ok_X7_kiteAt : OkV yX7_kiteAt cX7_kiteAt 2 (some (.object "BridleBook$Kite")) 1 := ⟨lg_mem 183 rfl rfl, lg_mem 182 (by decide +kernel) rfl, lg_memP 0 (by decide +kernel) rfl, lg_mem 1 (by decide +kernel) rfl, by decide, by decide, by decide +kernel⟩
set_option maxRecDepth 100000 in
theorem ok_X7_isArm : OkS yX7_isArm cX7_isArm 1 (some .boolean) 1 := ⟨lg_mem 189 rfl rfl, lg_mem 188 (by decide +kernel) rfl, lg_mem 1 (by decide +kernel) rfl, by decide, by decide, by decide +kernel⟩
set_option maxRecDepth 100000 in
theorem ok_X7_panel : OkV yX7_panel cX7_panel 6 (some .int) 4 := ⟨lg_mem 179 rfl rfl, lg_mem 177 (by decide +kernel) rfl, lg_mem 178 (by decide +kernel) rfl, lg_mem 1 (by decide +kernel) rfl, by decide, by decide, by decide +kernel⟩
set_option maxRecDepth 100000 in
theorem ok_X7_knot : OkV yX7_knot cX7_knot 5 (some .int) 2 := ⟨lg_mem 197 rfl rfl, lg_mem 195 (by decide +kernel) rfl, lg_mem 196 (by decide +kernel) rfl, lg_mem 1 (by decide +kernel) rfl, by decide, by decide, by decide +kernel⟩
set_option maxRecDepth 100000 in
theorem ok_X7_table : OkV yX7_table cX7_table 4 (some .int) 3 := ⟨lg_mem 202 rfl rfl, lg_mem 200 (by decide +kernel) rfl, lg_mem 201 (by decide +kernel) rfl, lg_mem 1 (by decide +kernel) rfl, by decide, by decide, by decide +kernel⟩
set_option maxRecDepth 100000 in
theorem ok_X7_isWind : OkS yX7_isWind cX7_isWind 1 (some .boolean) 1 := ⟨lg_mem 229 rfl rfl, lg_mem 228 (by decide +kernel) rfl, lg_mem 1 (by decide +kernel) rfl, by decide, by decide, by decide +kernel⟩
set_option maxRecDepth 100000 in
theorem ok_X7_force : OkV yX7_force cX7_force 6 (some .int) 4 := ⟨lg_mem 226 rfl rfl, lg_mem 224 (by decide +kernel) rfl, lg_mem 225 (by decide +kernel) rfl, lg_mem 1 (by decide +kernel) rfl, by decide, by decide, by decide +kernel⟩
set_option maxRecDepth 100000 in
theorem ok_X7_stands : OkV yX7_stands cX7_stands 4 (some .int) 2 := ⟨lg_mem 250 rfl rfl, lg_mem 248 (by decide +kernel) rfl, lg_mem 249 (by decide +kernel) rfl, lg_mem 1 (by decide +kernel) rfl, by decide, by decide, by decide +kernel⟩
set_option maxRecDepth 100000 in
theorem ok_X7_steady : OkV yX7_steady cX7_steady 5 (some .int) 2 := ⟨lg_mem 259 rfl rfl, lg_mem 257 (by decide +kernel) rfl, lg_mem 258 (by decide +kernel) rfl, lg_mem 1 (by decide +kernel) rfl, by decide, by decide, by decide +kernel⟩
set_option maxRecDepth 100000 in
theorem ok_X7_pull : OkV yX7_pull cX7_pull 6 (some .int) 3 := ⟨lg_mem 273 rfl rfl, lg_mem 271 (by decide +kernel) rfl, lg_mem 272 (by decide +kernel) rfl, lg_mem 1 (by decide +kernel) rfl, by decide, by decide, by decide +kernel⟩
set_option maxRecDepth 100000 in
theorem ok_X7_trim : OkV yX7_trim cX7_trim 8 (some .int) 4 := ⟨lg_mem 277 rfl rfl, lg_mem 275 (by decide +kernel) rfl, lg_mem 276 (by decide +kernel) rfl, lg_mem 1 (by decide +kernel) rfl, by decide, by decide, by decide +kernel⟩
set_option maxRecDepth 100000 in
theorem ok_X7_wind : OkV yX7_wind cX7_wind 4 (some .int) 2 := ⟨lg_mem 281 rfl rfl, lg_mem 279 (by decide +kernel) rfl, lg_mem 280 (by decide +kernel) rfl, lg_mem 1 (by decide +kernel) rfl, by decide, by decide, by decide +kernel⟩
set_option maxRecDepth 100000 in
theorem ok_X7_lineAt : OkV yX7_lineAt cX7_lineAt 2 (some (.object "BridleBook$Line")) 1 := ⟨lg_mem 318 rfl rfl, lg_mem 317 (by decide +kernel) rfl, lg_memP 1 (by decide +kernel) rfl, lg_mem 1 (by decide +kernel) rfl, by decide, by decide, by decide +kernel⟩
set_option maxRecDepth 100000 in
theorem ok_X7_kitesOn : OkV yX7_kitesOn cX7_kitesOn 5 (some .int) 1 := ⟨lg_mem 322 rfl rfl, lg_mem 321 (by decide +kernel) rfl, lg_memP 2 (by decide +kernel) rfl, lg_mem 1 (by decide +kernel) rfl, by decide, by decide, by decide +kernel⟩
set_option maxRecDepth 100000 in
theorem ok_X7_tie : OkV yX7_tie cX7_tie 6 (some .int) 3 := ⟨lg_mem 314 rfl rfl, lg_mem 312 (by decide +kernel) rfl, lg_mem 313 (by decide +kernel) rfl, lg_mem 1 (by decide +kernel) rfl, by decide, by decide, by decide +kernel⟩
set_option maxRecDepth 100000 in
theorem ok_X7_untie : OkV yX7_untie cX7_untie 4 (some .int) 1 := ⟨lg_mem 326 rfl rfl, lg_mem 324 (by decide +kernel) rfl, lg_mem 325 (by decide +kernel) rfl, lg_mem 1 (by decide +kernel) rfl, by decide, by decide, by decide +kernel⟩
set_option maxRecDepth 100000 in
theorem ok_X7_weaken : OkV yX7_weaken cX7_weaken 4 (some .int) 2 := ⟨lg_mem 330 rfl rfl, lg_mem 328 (by decide +kernel) rfl, lg_mem 329 (by decide +kernel) rfl, lg_mem 1 (by decide +kernel) rfl, by decide, by decide, by decide +kernel⟩
set_option maxRecDepth 100000 in
theorem ok_X7_windAt : OkV yX7_windAt cX7_windAt 3 (some .int) 1 := ⟨lg_mem 350 rfl rfl, lg_mem 349 (by decide +kernel) rfl, lg_memP 4 (by decide +kernel) rfl, lg_mem 1 (by decide +kernel) rfl, by decide, by decide, by decide +kernel⟩
set_option maxRecDepth 100000 in
theorem ok_X7_liftsOf : OkV yX7_liftsOf cX7_liftsOf 8 (some .int) 3 := ⟨lg_mem 346 rfl rfl, lg_mem 345 (by decide +kernel) rfl, lg_memP 3 (by decide +kernel) rfl, lg_mem 1 (by decide +kernel) rfl, by decide, by decide, by decide +kernel⟩
set_option maxRecDepth 100000 in
theorem ok_X7_loadTrain : OkV yX7_loadTrain cX7_loadTrain 7 none 2 := ⟨lg_mem 360 rfl rfl, lg_mem 359 (by decide +kernel) rfl, lg_memP 6 (by decide +kernel) rfl, lg_mem 1 (by decide +kernel) rfl, by decide, by decide, by decide +kernel⟩
set_option maxRecDepth 100000 in
theorem ok_X7_partingStep : OkV yX7_partingStep cX7_partingStep 7 (some .int) 2 := ⟨lg_mem 356 rfl rfl, lg_mem 355 (by decide +kernel) rfl, lg_memP 5 (by decide +kernel) rfl, lg_mem 1 (by decide +kernel) rfl, by decide, by decide, by decide +kernel⟩
set_option maxRecDepth 100000 in
theorem ok_X7_ofLine : OkV yX7_ofLine cX7_ofLine 4 (some .int) 2 := ⟨lg_mem 342 rfl rfl, lg_mem 340 (by decide +kernel) rfl, lg_mem 341 (by decide +kernel) rfl, lg_mem 1 (by decide +kernel) rfl, by decide, by decide, by decide +kernel⟩
set_option maxRecDepth 100000 in
theorem ok_X7_step : OkV yX7_step cX7_step 5 (some .int) 3 := ⟨lg_mem 403 rfl rfl, lg_mem 401 (by decide +kernel) rfl, lg_mem 402 (by decide +kernel) rfl, lg_mem 1 (by decide +kernel) rfl, by decide, by decide, by decide +kernel⟩
set_option maxRecDepth 100000 in
theorem ok_X7_sever : OkV yX7_sever cX7_sever 6 none 3 := ⟨lg_mem 426 rfl rfl, lg_mem 425 (by decide +kernel) rfl, lg_memP 7 (by decide +kernel) rfl, lg_mem 1 (by decide +kernel) rfl, by decide, by decide, by decide +kernel⟩
set_option maxRecDepth 100000 in
theorem ok_X7_part : OkV yX7_part cX7_part 4 (some .int) 1 := ⟨lg_mem 422 rfl rfl, lg_mem 420 (by decide +kernel) rfl, lg_mem 421 (by decide +kernel) rfl, lg_mem 1 (by decide +kernel) rfl, by decide, by decide, by decide +kernel⟩
set_option maxRecDepth 100000 in
theorem ok_X7_least : OkV yX7_least cX7_least 5 (some .int) 2 := ⟨lg_mem 434 rfl rfl, lg_mem 432 (by decide +kernel) rfl, lg_mem 433 (by decide +kernel) rfl, lg_mem 1 (by decide +kernel) rfl, by decide, by decide, by decide +kernel⟩
set_option maxRecDepth 100000 in
theorem ok_X7_blow : OkV yX7_blow cX7_blow 4 (some .int) 2 := ⟨lg_mem 476 rfl rfl, lg_mem 474 (by decide +kernel) rfl, lg_mem 475 (by decide +kernel) rfl, lg_mem 1 (by decide +kernel) rfl, by decide, by decide, by decide +kernel⟩
set_option maxRecDepth 100000 in
theorem ok_X7_isPlace : OkS yX7_isPlace cX7_isPlace 1 (some .boolean) 1 := ⟨lg_mem 441 rfl rfl, lg_mem 440 (by decide +kernel) rfl, lg_mem 1 (by decide +kernel) rfl, by decide, by decide, by decide +kernel⟩
set_option maxRecDepth 100000 in
theorem ok_X7_hasTreeAt : OkV yX7_hasTreeAt cX7_hasTreeAt 3 (some .boolean) 1 := ⟨lg_mem 484 rfl rfl, lg_mem 483 (by decide +kernel) rfl, lg_memP 10 (by decide +kernel) rfl, lg_mem 1 (by decide +kernel) rfl, by decide, by decide, by decide +kernel⟩
set_option maxRecDepth 100000 in
theorem ok_X7_tree : OkV yX7_tree cX7_tree 2 (some .int) 1 := ⟨lg_mem 480 rfl rfl, lg_mem 478 (by decide +kernel) rfl, lg_mem 479 (by decide +kernel) rfl, lg_mem 1 (by decide +kernel) rfl, by decide, by decide, by decide +kernel⟩
set_option maxRecDepth 100000 in
theorem ok_X7_flyerAt : OkV yX7_flyerAt cX7_flyerAt 2 (some (.object "BridleBook$Flyer")) 1 := ⟨lg_mem 450 rfl rfl, lg_mem 449 (by decide +kernel) rfl, lg_memP 9 (by decide +kernel) rfl, lg_mem 1 (by decide +kernel) rfl, by decide, by decide, by decide +kernel⟩
set_option maxRecDepth 100000 in
theorem ok_X7_agree : OkV yX7_agree cX7_agree 5 (some .int) 3 := ⟨lg_mem 488 rfl rfl, lg_mem 486 (by decide +kernel) rfl, lg_mem 487 (by decide +kernel) rfl, lg_mem 1 (by decide +kernel) rfl, by decide, by decide, by decide +kernel⟩
set_option maxRecDepth 100000 in
theorem ok_X7_spreadCone : OkV yX7_spreadCone cX7_spreadCone 5 none 2 := ⟨lg_mem 500 rfl rfl, lg_mem 499 (by decide +kernel) rfl, lg_memP 12 (by decide +kernel) rfl, lg_mem 1 (by decide +kernel) rfl, by decide, by decide, by decide +kernel⟩
set_option maxRecDepth 100000 in
theorem ok_X7_isInTheWay : OkV yX7_isInTheWay cX7_isInTheWay 4 (some .boolean) 2 := ⟨lg_mem 519 rfl rfl, lg_mem 518 (by decide +kernel) rfl, lg_memP 13 (by decide +kernel) rfl, lg_mem 1 (by decide +kernel) rfl, by decide, by decide, by decide +kernel⟩
set_option maxRecDepth 100000 in
theorem ok_X7_reasonAgainst : OkV yX7_reasonAgainst cX7_reasonAgainst 4 (some .int) 2 := ⟨lg_mem 496 rfl rfl, lg_mem 495 (by decide +kernel) rfl, lg_memP 11 (by decide +kernel) rfl, lg_mem 1 (by decide +kernel) rfl, by decide, by decide, by decide +kernel⟩
set_option maxRecDepth 100000 in
theorem ok_X7_fly : OkV yX7_fly cX7_fly 5 (some .int) 2 := ⟨lg_mem 492 rfl rfl, lg_mem 490 (by decide +kernel) rfl, lg_mem 491 (by decide +kernel) rfl, lg_mem 1 (by decide +kernel) rfl, by decide, by decide, by decide +kernel⟩
set_option maxRecDepth 100000 in
theorem ok_X7_why : OkV yX7_why cX7_why 3 (some .int) 1 := ⟨lg_mem 527 rfl rfl, lg_mem 525 (by decide +kernel) rfl, lg_mem 526 (by decide +kernel) rfl, lg_mem 1 (by decide +kernel) rfl, by decide, by decide, by decide +kernel⟩
set_option maxRecDepth 100000 in
theorem ok_X7_cone : OkV yX7_cone cX7_cone 4 (some .int) 2 := ⟨lg_mem 531 rfl rfl, lg_mem 529 (by decide +kernel) rfl, lg_mem 530 (by decide +kernel) rfl, lg_mem 1 (by decide +kernel) rfl, by decide, by decide, by decide +kernel⟩
set_option maxRecDepth 100000 in
theorem ok_X7_areTwoLines : OkV yX7_areTwoLines cX7_areTwoLines 3 (some .boolean) 2 := ⟨lg_mem 539 rfl rfl, lg_mem 538 (by decide +kernel) rfl, lg_memP 14 (by decide +kernel) rfl, lg_mem 1 (by decide +kernel) rfl, by decide, by decide, by decide +kernel⟩
set_option maxRecDepth 100000 in
theorem ok_X7_turn : OkV yX7_turn cX7_turn 4 (some .int) 3 := ⟨lg_mem 535 rfl rfl, lg_mem 533 (by decide +kernel) rfl, lg_mem 534 (by decide +kernel) rfl, lg_mem 1 (by decide +kernel) rfl, by decide, by decide, by decide +kernel⟩
set_option maxRecDepth 100000 in
theorem ok_X7_tangled : OkV yX7_tangled cX7_tangled 3 (some .int) 2 := ⟨lg_mem 552 rfl rfl, lg_mem 550 (by decide +kernel) rfl, lg_mem 551 (by decide +kernel) rfl, lg_mem 1 (by decide +kernel) rfl, by decide, by decide, by decide +kernel⟩
set_option maxRecDepth 100000 in
theorem ok_X7_undo : OkV yX7_undo cX7_undo 2 (some .int) 1 := ⟨lg_mem 562 rfl rfl, lg_mem 560 (by decide +kernel) rfl, lg_mem 561 (by decide +kernel) rfl, lg_mem 1 (by decide +kernel) rfl, by decide, by decide, by decide +kernel⟩
set_option maxRecDepth 100000 in
theorem ok_X7_unwind : OkV yX7_unwind cX7_unwind 2 (some .int) 1 := ⟨lg_mem 573 rfl rfl, lg_mem 571 (by decide +kernel) rfl, lg_mem 572 (by decide +kernel) rfl, lg_mem 1 (by decide +kernel) rfl, by decide, by decide, by decide +kernel⟩
set_option maxRecDepth 100000 in
theorem ok_X7_cut : OkV yX7_cut cX7_cut 5 (some .int) 3 := ⟨lg_mem 577 rfl rfl, lg_mem 575 (by decide +kernel) rfl, lg_mem 576 (by decide +kernel) rfl, lg_mem 1 (by decide +kernel) rfl, by decide, by decide, by decide +kernel⟩
set_option maxRecDepth 100000 in
theorem ok_X7_countFlying : OkV yX7_countFlying cX7_countFlying 4 (some .int) 0 := ⟨lg_mem 590 rfl rfl, lg_mem 589 (by decide +kernel) rfl, lg_memP 15 (by decide +kernel) rfl, lg_mem 1 (by decide +kernel) rfl, by decide, by decide, by decide +kernel⟩
set_option maxRecDepth 100000 in
theorem ok_X7_countTied : OkV yX7_countTied cX7_countTied 4 (some .int) 0 := ⟨lg_mem 594 rfl rfl, lg_mem 593 (by decide +kernel) rfl, lg_memP 16 (by decide +kernel) rfl, lg_mem 1 (by decide +kernel) rfl, by decide, by decide, by decide +kernel⟩
set_option maxRecDepth 100000 in
theorem ok_X7_countFree : OkV yX7_countFree cX7_countFree 3 (some .int) 0 := ⟨lg_mem 598 rfl rfl, lg_mem 597 (by decide +kernel) rfl, lg_memP 17 (by decide +kernel) rfl, lg_mem 1 (by decide +kernel) rfl, by decide, by decide, by decide +kernel⟩
set_option maxRecDepth 100000 in
theorem ok_X7_count : OkV yX7_count cX7_count 2 (some .int) 1 := ⟨lg_mem 586 rfl rfl, lg_mem 584 (by decide +kernel) rfl, lg_mem 585 (by decide +kernel) rfl, lg_mem 1 (by decide +kernel) rfl, by decide, by decide, by decide +kernel⟩
set_option maxRecDepth 100000 in
theorem ok_X7_hasFlyer : OkV yX7_hasFlyer cX7_hasFlyer 4 (some .boolean) 1 := ⟨lg_mem 446 rfl rfl, lg_mem 445 (by decide +kernel) rfl, lg_memP 8 (by decide +kernel) rfl, lg_mem 1 (by decide +kernel) rfl, by decide, by decide, by decide +kernel⟩
set_option maxRecDepth 100000 in
theorem ok_X8_in : OkS yX8_in cX8_in 3 (some .boolean) 3 := ⟨lg_mem 733 rfl rfl, lg_mem 732 (by decide +kernel) rfl, lg_mem 7 (by decide +kernel) rfl, by decide, by decide, by decide +kernel⟩
set_option maxRecDepth 100000 in
theorem ok_X8_isKite : OkV yX8_isKite cX8_isKite 2 (some .boolean) 1 := ⟨lg_mem 730 rfl rfl, lg_mem 729 (by decide +kernel) rfl, lg_memP 18 (by decide +kernel) rfl, lg_mem 7 (by decide +kernel) rfl, by decide, by decide, by decide +kernel⟩
set_option maxRecDepth 100000 in
theorem ok_X8_isWind : OkS yX8_isWind cX8_isWind 1 (some .boolean) 1 := ⟨lg_mem 752 rfl rfl, lg_mem 751 (by decide +kernel) rfl, lg_mem 7 (by decide +kernel) rfl, by decide, by decide, by decide +kernel⟩
set_option maxRecDepth 100000 in
theorem ok_X8_isAngle : OkS yX8_isAngle cX8_isAngle 1 (some .boolean) 1 := ⟨lg_mem 745 rfl rfl, lg_mem 744 (by decide +kernel) rfl, lg_mem 7 (by decide +kernel) rfl, by decide, by decide, by decide +kernel⟩
set_option maxRecDepth 100000 in
theorem ok_X8_kite : OkV yX8_kite cX8_kite 1 (some .int) 0 := ⟨lg_mem 722 rfl rfl, lg_mem 720 (by decide +kernel) rfl, lg_mem 721 (by decide +kernel) rfl, lg_mem 7 (by decide +kernel) rfl, by decide, by decide, by decide +kernel⟩
set_option maxRecDepth 100000 in
theorem ok_X8_panel : OkV yX8_panel cX8_panel 6 (some .int) 4 := ⟨lg_mem 726 rfl rfl, lg_mem 724 (by decide +kernel) rfl, lg_mem 725 (by decide +kernel) rfl, lg_mem 7 (by decide +kernel) rfl, by decide, by decide, by decide +kernel⟩
set_option maxRecDepth 100000 in
theorem ok_X8_knot : OkV yX8_knot cX8_knot 4 (some .int) 2 := ⟨lg_mem 737 rfl rfl, lg_mem 735 (by decide +kernel) rfl, lg_mem 736 (by decide +kernel) rfl, lg_mem 7 (by decide +kernel) rfl, by decide, by decide, by decide +kernel⟩
set_option maxRecDepth 100000 in
theorem ok_X8_table : OkV yX8_table cX8_table 5 (some .int) 3 := ⟨lg_mem 742 rfl rfl, lg_mem 740 (by decide +kernel) rfl, lg_mem 741 (by decide +kernel) rfl, lg_mem 7 (by decide +kernel) rfl, by decide, by decide, by decide +kernel⟩
set_option maxRecDepth 100000 in
theorem ok_X8_weightOf : OkV yX8_weightOf cX8_weightOf 4 (some .int) 1 := ⟨lg_mem 760 rfl rfl, lg_mem 759 (by decide +kernel) rfl, lg_memP 20 (by decide +kernel) rfl, lg_mem 7 (by decide +kernel) rfl, by decide, by decide, by decide +kernel⟩
set_option maxRecDepth 100000 in
theorem ok_X8_up : OkV yX8_up cX8_up 6 (some .int) 3 := ⟨lg_mem 756 rfl rfl, lg_mem 755 (by decide +kernel) rfl, lg_memP 19 (by decide +kernel) rfl, lg_mem 7 (by decide +kernel) rfl, by decide, by decide, by decide +kernel⟩
set_option maxRecDepth 100000 in
theorem ok_X8_back : OkV yX8_back cX8_back 6 (some .int) 3 := ⟨lg_mem 764 rfl rfl, lg_mem 763 (by decide +kernel) rfl, lg_memP 21 (by decide +kernel) rfl, lg_mem 7 (by decide +kernel) rfl, by decide, by decide, by decide +kernel⟩
set_option maxRecDepth 100000 in
theorem ok_X8_turns : OkV yX8_turns cX8_turns 6 (some .int) 3 := ⟨lg_mem 768 rfl rfl, lg_mem 767 (by decide +kernel) rfl, lg_memP 22 (by decide +kernel) rfl, lg_mem 7 (by decide +kernel) rfl, by decide, by decide, by decide +kernel⟩
set_option maxRecDepth 100000 in
theorem ok_X8_force : OkV yX8_force cX8_force 5 (some .int) 4 := ⟨lg_mem 749 rfl rfl, lg_mem 747 (by decide +kernel) rfl, lg_mem 748 (by decide +kernel) rfl, lg_mem 7 (by decide +kernel) rfl, by decide, by decide, by decide +kernel⟩
set_option maxRecDepth 100000 in
theorem ok_X8_standsAt : OkV yX8_standsAt cX8_standsAt 6 (some .int) 2 := ⟨lg_mem 776 rfl rfl, lg_mem 775 (by decide +kernel) rfl, lg_memP 23 (by decide +kernel) rfl, lg_mem 7 (by decide +kernel) rfl, by decide, by decide, by decide +kernel⟩
set_option maxRecDepth 100000 in
theorem ok_X8_isSteady : OkV yX8_isSteady cX8_isSteady 6 (some .boolean) 3 := ⟨lg_mem 784 rfl rfl, lg_mem 783 (by decide +kernel) rfl, lg_memP 24 (by decide +kernel) rfl, lg_mem 7 (by decide +kernel) rfl, by decide, by decide, by decide +kernel⟩
set_option maxRecDepth 100000 in
theorem ok_X8_stands : OkV yX8_stands cX8_stands 3 (some .int) 2 := ⟨lg_mem 772 rfl rfl, lg_mem 770 (by decide +kernel) rfl, lg_mem 771 (by decide +kernel) rfl, lg_mem 7 (by decide +kernel) rfl, by decide, by decide, by decide +kernel⟩
set_option maxRecDepth 100000 in
theorem ok_X8_steady : OkV yX8_steady cX8_steady 4 (some .int) 2 := ⟨lg_mem 780 rfl rfl, lg_mem 778 (by decide +kernel) rfl, lg_mem 779 (by decide +kernel) rfl, lg_mem 7 (by decide +kernel) rfl, by decide, by decide, by decide +kernel⟩
set_option maxRecDepth 100000 in
theorem ok_X8_pullUp : OkV yX8_pullUp cX8_pullUp 4 (some .int) 2 := ⟨lg_mem 792 rfl rfl, lg_mem 791 (by decide +kernel) rfl, lg_memP 25 (by decide +kernel) rfl, lg_mem 7 (by decide +kernel) rfl, by decide, by decide, by decide +kernel⟩
set_option maxRecDepth 100000 in
theorem ok_X8_pullBack : OkV yX8_pullBack cX8_pullBack 4 (some .int) 2 := ⟨lg_mem 796 rfl rfl, lg_mem 795 (by decide +kernel) rfl, lg_memP 26 (by decide +kernel) rfl, lg_mem 7 (by decide +kernel) rfl, by decide, by decide, by decide +kernel⟩
set_option maxRecDepth 100000 in
theorem ok_X8_pull : OkV yX8_pull cX8_pull 4 (some .int) 3 := ⟨lg_mem 788 rfl rfl, lg_mem 786 (by decide +kernel) rfl, lg_mem 787 (by decide +kernel) rfl, lg_mem 7 (by decide +kernel) rfl, by decide, by decide, by decide +kernel⟩
set_option maxRecDepth 100000 in
theorem ok_X8_trim : OkV yX8_trim cX8_trim 9 (some .int) 4 := ⟨lg_mem 800 rfl rfl, lg_mem 798 (by decide +kernel) rfl, lg_mem 799 (by decide +kernel) rfl, lg_mem 7 (by decide +kernel) rfl, by decide, by decide, by decide +kernel⟩
set_option maxRecDepth 100000 in
theorem ok_X8_isLine : OkV yX8_isLine cX8_isLine 2 (some .boolean) 1 := ⟨lg_mem 817 rfl rfl, lg_mem 816 (by decide +kernel) rfl, lg_memP 27 (by decide +kernel) rfl, lg_mem 7 (by decide +kernel) rfl, by decide, by decide, by decide +kernel⟩
set_option maxRecDepth 100000 in
theorem ok_X8_isStep : OkV yX8_isStep cX8_isStep 3 (some .boolean) 2 := ⟨lg_mem 821 rfl rfl, lg_mem 820 (by decide +kernel) rfl, lg_memP 28 (by decide +kernel) rfl, lg_mem 7 (by decide +kernel) rfl, by decide, by decide, by decide +kernel⟩
set_option maxRecDepth 100000 in
theorem ok_X8_wind : OkV yX8_wind cX8_wind 4 (some .int) 2 := ⟨lg_mem 804 rfl rfl, lg_mem 802 (by decide +kernel) rfl, lg_mem 803 (by decide +kernel) rfl, lg_mem 7 (by decide +kernel) rfl, by decide, by decide, by decide +kernel⟩
set_option maxRecDepth 100000 in
theorem ok_X8_line : OkV yX8_line cX8_line 4 (some .int) 3 := ⟨lg_mem 808 rfl rfl, lg_mem 806 (by decide +kernel) rfl, lg_mem 807 (by decide +kernel) rfl, lg_mem 7 (by decide +kernel) rfl, by decide, by decide, by decide +kernel⟩
set_option maxRecDepth 100000 in
theorem ok_X8_kitesOn : OkV yX8_kitesOn cX8_kitesOn 4 (some .int) 1 := ⟨lg_mem 825 rfl rfl, lg_mem 824 (by decide +kernel) rfl, lg_memP 29 (by decide +kernel) rfl, lg_mem 7 (by decide +kernel) rfl, by decide, by decide, by decide +kernel⟩
set_option maxRecDepth 100000 in
theorem ok_X8_tie : OkV yX8_tie cX8_tie 4 (some .int) 3 := ⟨lg_mem 813 rfl rfl, lg_mem 811 (by decide +kernel) rfl, lg_mem 812 (by decide +kernel) rfl, lg_mem 7 (by decide +kernel) rfl, by decide, by decide, by decide +kernel⟩
set_option maxRecDepth 100000 in
theorem ok_X8_untie : OkV yX8_untie cX8_untie 3 (some .int) 1 := ⟨lg_mem 829 rfl rfl, lg_mem 827 (by decide +kernel) rfl, lg_mem 828 (by decide +kernel) rfl, lg_mem 7 (by decide +kernel) rfl, by decide, by decide, by decide +kernel⟩
set_option maxRecDepth 100000 in
theorem ok_X8_isWeak : OkV yX8_isWeak cX8_isWeak 4 (some .boolean) 2 := ⟨lg_mem 837 rfl rfl, lg_mem 836 (by decide +kernel) rfl, lg_memP 30 (by decide +kernel) rfl, lg_mem 7 (by decide +kernel) rfl, by decide, by decide, by decide +kernel⟩
set_option maxRecDepth 100000 in
theorem ok_X8_weaken : OkV yX8_weaken cX8_weaken 3 (some .int) 2 := ⟨lg_mem 833 rfl rfl, lg_mem 831 (by decide +kernel) rfl, lg_mem 832 (by decide +kernel) rfl, lg_mem 7 (by decide +kernel) rfl, by decide, by decide, by decide +kernel⟩
set_option maxRecDepth 100000 in
theorem ok_X8_windBand : OkS yX8_windBand cX8_windBand 1 (some .int) 1 := ⟨lg_mem 852 rfl rfl, lg_mem 851 (by decide +kernel) rfl, lg_mem 7 (by decide +kernel) rfl, by decide, by decide, by decide +kernel⟩
set_option maxRecDepth 100000 in
theorem ok_X8_root : OkS yX8_root cX8_root 8 (some .int) 1 := ⟨lg_mem 855 rfl rfl, lg_mem 854 (by decide +kernel) rfl, lg_mem 7 (by decide +kernel) rfl, by decide, by decide, by decide +kernel⟩
set_option maxRecDepth 100000 in
theorem ok_X8_stand : OkV yX8_stand cX8_stand 5 none 2 := ⟨lg_mem 849 rfl rfl, lg_mem 848 (by decide +kernel) rfl, lg_memP 32 (by decide +kernel) rfl, lg_mem 7 (by decide +kernel) rfl, by decide, by decide, by decide +kernel⟩
set_option maxRecDepth 100000 in
theorem ok_X8_strengthAt : OkV yX8_strengthAt cX8_strengthAt 3 (some .int) 2 := ⟨lg_mem 866 rfl rfl, lg_mem 865 (by decide +kernel) rfl, lg_memP 34 (by decide +kernel) rfl, lg_mem 7 (by decide +kernel) rfl, by decide, by decide, by decide +kernel⟩
set_option maxRecDepth 100000 in
theorem ok_X8_partsAt : OkV yX8_partsAt cX8_partsAt 6 (some .int) 1 := ⟨lg_mem 862 rfl rfl, lg_mem 861 (by decide +kernel) rfl, lg_memP 33 (by decide +kernel) rfl, lg_mem 7 (by decide +kernel) rfl, by decide, by decide, by decide +kernel⟩
set_option maxRecDepth 100000 in
theorem ok_X8_lifts : OkV yX8_lifts cX8_lifts 3 (some .int) 2 := ⟨lg_mem 845 rfl rfl, lg_mem 844 (by decide +kernel) rfl, lg_memP 31 (by decide +kernel) rfl, lg_mem 7 (by decide +kernel) rfl, by decide, by decide, by decide +kernel⟩
set_option maxRecDepth 100000 in
theorem ok_X8_ofLine : OkV yX8_ofLine cX8_ofLine 3 (some .int) 2 := ⟨lg_mem 841 rfl rfl, lg_mem 839 (by decide +kernel) rfl, lg_mem 840 (by decide +kernel) rfl, lg_mem 7 (by decide +kernel) rfl, by decide, by decide, by decide +kernel⟩
set_option maxRecDepth 100000 in
theorem ok_X8_step : OkV yX8_step cX8_step 4 (some .int) 3 := ⟨lg_mem 870 rfl rfl, lg_mem 868 (by decide +kernel) rfl, lg_mem 869 (by decide +kernel) rfl, lg_mem 7 (by decide +kernel) rfl, by decide, by decide, by decide +kernel⟩
set_option maxRecDepth 100000 in
theorem ok_X8_end : OkV yX8_end cX8_end 5 none 2 := ⟨lg_mem 878 rfl rfl, lg_mem 877 (by decide +kernel) rfl, lg_memP 35 (by decide +kernel) rfl, lg_mem 7 (by decide +kernel) rfl, by decide, by decide, by decide +kernel⟩
set_option maxRecDepth 100000 in
theorem ok_X8_part : OkV yX8_part cX8_part 3 (some .int) 1 := ⟨lg_mem 874 rfl rfl, lg_mem 872 (by decide +kernel) rfl, lg_mem 873 (by decide +kernel) rfl, lg_mem 7 (by decide +kernel) rfl, by decide, by decide, by decide +kernel⟩
set_option maxRecDepth 100000 in
theorem ok_X8_least : OkV yX8_least cX8_least 4 (some .int) 2 := ⟨lg_mem 882 rfl rfl, lg_mem 880 (by decide +kernel) rfl, lg_mem 881 (by decide +kernel) rfl, lg_mem 7 (by decide +kernel) rfl, by decide, by decide, by decide +kernel⟩
set_option maxRecDepth 100000 in
theorem ok_X8_isFlyer : OkV yX8_isFlyer cX8_isFlyer 2 (some .boolean) 1 := ⟨lg_mem 906 rfl rfl, lg_mem 905 (by decide +kernel) rfl, lg_memP 36 (by decide +kernel) rfl, lg_mem 7 (by decide +kernel) rfl, by decide, by decide, by decide +kernel⟩
set_option maxRecDepth 100000 in
theorem ok_X8_isPlace : OkS yX8_isPlace cX8_isPlace 1 (some .boolean) 1 := ⟨lg_mem 889 rfl rfl, lg_mem 888 (by decide +kernel) rfl, lg_mem 7 (by decide +kernel) rfl, by decide, by decide, by decide +kernel⟩
set_option maxRecDepth 100000 in
theorem ok_X8_flyer : OkV yX8_flyer cX8_flyer 3 (some .int) 2 := ⟨lg_mem 886 rfl rfl, lg_mem 884 (by decide +kernel) rfl, lg_mem 885 (by decide +kernel) rfl, lg_mem 7 (by decide +kernel) rfl, by decide, by decide, by decide +kernel⟩
set_option maxRecDepth 100000 in
theorem ok_X8_blow : OkV yX8_blow cX8_blow 4 (some .int) 2 := ⟨lg_mem 894 rfl rfl, lg_mem 892 (by decide +kernel) rfl, lg_mem 893 (by decide +kernel) rfl, lg_mem 7 (by decide +kernel) rfl, by decide, by decide, by decide +kernel⟩
set_option maxRecDepth 100000 in
theorem ok_X8_tree : OkV yX8_tree cX8_tree 3 (some .int) 1 := ⟨lg_mem 898 rfl rfl, lg_mem 896 (by decide +kernel) rfl, lg_mem 897 (by decide +kernel) rfl, lg_mem 7 (by decide +kernel) rfl, by decide, by decide, by decide +kernel⟩
set_option maxRecDepth 100000 in
theorem ok_X8_agree : OkV yX8_agree cX8_agree 5 (some .int) 3 := ⟨lg_mem 902 rfl rfl, lg_mem 900 (by decide +kernel) rfl, lg_mem 901 (by decide +kernel) rfl, lg_mem 7 (by decide +kernel) rfl, by decide, by decide, by decide +kernel⟩
set_option maxRecDepth 100000 in
theorem ok_X8_endOf : OkV yX8_endOf cX8_endOf 9 (some .int) 3 := ⟨lg_mem 922 rfl rfl, lg_mem 921 (by decide +kernel) rfl, lg_memP 39 (by decide +kernel) rfl, lg_mem 7 (by decide +kernel) rfl, by decide, by decide, by decide +kernel⟩
set_option maxRecDepth 100000 in
theorem ok_X8_isInCone : OkV yX8_isInCone cX8_isInCone 3 (some .boolean) 2 := ⟨lg_mem 918 rfl rfl, lg_mem 917 (by decide +kernel) rfl, lg_memP 38 (by decide +kernel) rfl, lg_mem 7 (by decide +kernel) rfl, by decide, by decide, by decide +kernel⟩
set_option maxRecDepth 100000 in
theorem ok_X8_doMeet : OkV yX8_doMeet cX8_doMeet 4 (some .boolean) 2 := ⟨lg_mem 926 rfl rfl, lg_mem 925 (by decide +kernel) rfl, lg_memP 40 (by decide +kernel) rfl, lg_mem 7 (by decide +kernel) rfl, by decide, by decide, by decide +kernel⟩
set_option maxRecDepth 100000 in
theorem ok_X8_whyNot : OkV yX8_whyNot cX8_whyNot 3 (some .int) 1 := ⟨lg_mem 914 rfl rfl, lg_mem 913 (by decide +kernel) rfl, lg_memP 37 (by decide +kernel) rfl, lg_mem 7 (by decide +kernel) rfl, by decide, by decide, by decide +kernel⟩
set_option maxRecDepth 100000 in
theorem ok_X8_fly : OkV yX8_fly cX8_fly 3 (some .int) 2 := ⟨lg_mem 910 rfl rfl, lg_mem 908 (by decide +kernel) rfl, lg_mem 909 (by decide +kernel) rfl, lg_mem 7 (by decide +kernel) rfl, by decide, by decide, by decide +kernel⟩
set_option maxRecDepth 100000 in
theorem ok_X8_why : OkV yX8_why cX8_why 2 (some .int) 1 := ⟨lg_mem 930 rfl rfl, lg_mem 928 (by decide +kernel) rfl, lg_mem 929 (by decide +kernel) rfl, lg_mem 7 (by decide +kernel) rfl, by decide, by decide, by decide +kernel⟩
set_option maxRecDepth 100000 in
theorem ok_X8_cone : OkV yX8_cone cX8_cone 3 (some .int) 2 := ⟨lg_mem 934 rfl rfl, lg_mem 932 (by decide +kernel) rfl, lg_mem 933 (by decide +kernel) rfl, lg_mem 7 (by decide +kernel) rfl, by decide, by decide, by decide +kernel⟩
set_option maxRecDepth 100000 in
theorem ok_X8_wind0 : OkV yX8_wind0 cX8_wind0 5 none 3 := ⟨lg_mem 948 rfl rfl, lg_mem 947 (by decide +kernel) rfl, lg_memP 41 (by decide +kernel) rfl, lg_mem 7 (by decide +kernel) rfl, by decide, by decide, by decide +kernel⟩
set_option maxRecDepth 100000 in
theorem ok_X8_lesser : OkS yX8_lesser cX8_lesser 2 (some .int) 2 := ⟨lg_mem 941 rfl rfl, lg_mem 940 (by decide +kernel) rfl, lg_mem 7 (by decide +kernel) rfl, by decide, by decide, by decide +kernel⟩
set_option maxRecDepth 100000 in
theorem ok_X8_greater : OkS yX8_greater cX8_greater 2 (some .int) 2 := ⟨lg_mem 944 rfl rfl, lg_mem 943 (by decide +kernel) rfl, lg_mem 7 (by decide +kernel) rfl, by decide, by decide, by decide +kernel⟩
set_option maxRecDepth 100000 in
theorem ok_X8_turn : OkV yX8_turn cX8_turn 8 (some .int) 3 := ⟨lg_mem 938 rfl rfl, lg_mem 936 (by decide +kernel) rfl, lg_mem 937 (by decide +kernel) rfl, lg_mem 7 (by decide +kernel) rfl, by decide, by decide, by decide +kernel⟩
set_option maxRecDepth 100000 in
theorem ok_X8_turnsOf : OkV yX8_turnsOf cX8_turnsOf 5 (some .int) 2 := ⟨lg_mem 956 rfl rfl, lg_mem 955 (by decide +kernel) rfl, lg_memP 42 (by decide +kernel) rfl, lg_mem 7 (by decide +kernel) rfl, by decide, by decide, by decide +kernel⟩
set_option maxRecDepth 100000 in
theorem ok_X8_tangled : OkV yX8_tangled cX8_tangled 3 (some .int) 2 := ⟨lg_mem 952 rfl rfl, lg_mem 950 (by decide +kernel) rfl, lg_mem 951 (by decide +kernel) rfl, lg_mem 7 (by decide +kernel) rfl, by decide, by decide, by decide +kernel⟩
set_option maxRecDepth 100000 in
theorem ok_X8_has : OkV yX8_has cX8_has 3 (some .boolean) 2 := ⟨lg_mem 964 rfl rfl, lg_mem 963 (by decide +kernel) rfl, lg_memP 43 (by decide +kernel) rfl, lg_mem 7 (by decide +kernel) rfl, by decide, by decide, by decide +kernel⟩
set_option maxRecDepth 100000 in
theorem ok_X8_undo : OkV yX8_undo cX8_undo 3 (some .int) 1 := ⟨lg_mem 960 rfl rfl, lg_mem 958 (by decide +kernel) rfl, lg_mem 959 (by decide +kernel) rfl, lg_mem 7 (by decide +kernel) rfl, by decide, by decide, by decide +kernel⟩
set_option maxRecDepth 100000 in
theorem ok_X8_unwind : OkV yX8_unwind cX8_unwind 2 (some .int) 1 := ⟨lg_mem 968 rfl rfl, lg_mem 966 (by decide +kernel) rfl, lg_mem 967 (by decide +kernel) rfl, lg_mem 7 (by decide +kernel) rfl, by decide, by decide, by decide +kernel⟩
set_option maxRecDepth 100000 in
theorem ok_X8_cut : OkV yX8_cut cX8_cut 6 (some .int) 3 := ⟨lg_mem 972 rfl rfl, lg_mem 970 (by decide +kernel) rfl, lg_mem 971 (by decide +kernel) rfl, lg_mem 7 (by decide +kernel) rfl, by decide, by decide, by decide +kernel⟩
set_option maxRecDepth 100000 in
theorem ok_X8_count : OkV yX8_count cX8_count 4 (some .int) 1 := ⟨lg_mem 976 rfl rfl, lg_mem 974 (by decide +kernel) rfl, lg_mem 975 (by decide +kernel) rfl, lg_mem 7 (by decide +kernel) rfl, by decide, by decide, by decide +kernel⟩
