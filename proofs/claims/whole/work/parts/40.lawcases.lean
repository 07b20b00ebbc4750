/-! THE LAW: rows of its own, and its cases -/
section LA
variable {K : KK} {own : String} {cc : ByteArray} {nL : Nat} {rm : Room} {a : AA} {M : Mem} {pc : Nat} {lv : List (Nat × Value)} {st stk : List Value}
def Xs (K : KK) (b L : Nat) (xs : Nat → Int32) : Prop := va_X b L xs (kS K) (kS K).heap ∧ b < (kS K).heap.size ∧ ¬ kF K b
theorem g_sld {b L : Nat} {xs : Nat → Int32} {i : Int32} (S : Sx K own cc nL rm) (X : Xs K b L xs) (hi : vp_in i L) (d : decode cc pc = .ok (.iaload, 1)) (k : Go K nL a M (pc + 1) lv (.int (xs i.toNatClampNeg) :: st)) : Go K nL a M pc lv (.int i :: .ref b :: st) := fun H locs ls h1 h2 => va_sld S.1 S.2.1 X.1 X.2.1 X.2.2 h1.2.2 hi d (k H locs ls h1 h2)
theorem g_cVA {y : MethodName} {bytes : ByteArray} {maxL n index mc ms : Nat} {rmc : Room} {As : List Value} {b ci N : Nat} {T : u_T} {fs : (Nat → Nat) → (Nat → Int32) → List Value} {P : Int32 → AA × Mem → Prop} (S : Sx K own cc nL rm) (o : OB a.1 b ci fs) (hcl : vwCl[ci]? = some (y.cls, T, N)) (ok : OkV y bytes maxL (some .int) n) (hl : Cond.methodLink own index y ∈ lw_g) (ct : CtA (kL K) (kG K) y bytes maxL rmc (.ref (a.2 b) :: As) a M P mc ms) (hn : As.length = n) (hs : stk = As.reverse ++ .ref (a.2 b) :: st) (hR : rmc.frames + 1 ≤ rm.frames ∧ 8 + (maxL + 11) + rmc.locals ≤ rm.locals) (hrc : rmc.cells = mc ∧ rmc.slots = ms) (hf : kc K + mc ≤ rm.cells ∧ ks K + ms ≤ rm.slots) (hcat : (st.map fun v => v.category).sum ≤ 8) (d : decode cc pc = .ok (.invokevirtual index, 3)) (k : ∀ (r : Int32) (u : AA × Mem), P r u → Go (kU K (kc K + mc) (ks K + ms)) nL u.1 u.2 (pc + 3) lv (.int r :: st)) : Go K nL a M pc lv stk := fun H locs ls h1 h2 => by
  obtain ⟨q, -, hq⟩ := wd_at (G := kG K) (ad := a.2) (M := M) o.1
  rw [o.2] at hq
  refine va_calli (va_runV (As := As) (rest := st) (C := y.cls) ⟨S.1, S.2.1, S.2.2.1, S.2.2.2.1, S.2.2.2.2.1⟩ (ct H.size) ⟨callB_of n S.2.2.2.2.1 (lg_goodIn ok.1) rfl hrc.1 hrc.2 (S.2.2.2.2.1 _ ok.2.2.2.1) (S.2.2.2.2.1 _ hl) ok.2.2.2.2 (rm_in S hR), S.2.2.2.2.1 _ ok.2.1, S.2.2.2.2.1 _ ok.2.2.1⟩ ⟨pc_blind, va_recv S.2.2.2.2.2.1 h1.1 (ci := ci) (q0 := q) hcl hq, fun U hU hW => pc_in S h1 hU hW⟩ rfl hn h2.1 hs (lv_room hcat) d ⟨rm_c S hf.1, rm_s S hf.2⟩) h1.2.2 (fun q _ h => fr_in S h1 q h) (fr_in S h1) (fun r0 u t H1 locs1 e1 _ e3 e4 _ _ e7 => ?_)
  obtain ⟨p1, p2⟩ := e4
  rw [e1] at p1
  exact k r0 u e3 H1 locs1 ls ⟨p1, p2.weaken (fun _ q _ h => fr_in S h1 q.1 h), e7⟩ h2
theorem g_eqT {x : Int32} {off : Int} {tgt : Nat} (S : Sx K own cc nL rm) (d : decode cc pc = .ok (.if_icmp .eq off, 3)) (ht : (pc : Int) + off = (tgt : Int)) (k : Go K nL a M tgt lv st) : Go K nL a M pc lv (.int x :: .int x :: st) := fun H locs ls h1 h2 => lv_icmp_eq S.1 S.2.1 d ht (fun _ => k H locs ls h1 h2) (fun c => absurd rfl c)
end LA
theorem vi_5 {i L j : Nat} (h : i + 5 ≤ L) (hj : j < 5) (hL : L ≤ 2560) : vp_in (nI i + nI j) L := by
  rw [nI_add]
  exact vp_in_nI (by omega) (by omega)
theorem lk_L_13 : Cond.methodLink RL 13 yX7_kite ∈ lw_g := lg_mem 142 (by decide +kernel) rfl
theorem lk_L_17 : Cond.methodLink RL 17 yX8_kite ∈ lw_g := lg_mem 719 (by decide +kernel) rfl
theorem lk_L_18 : Cond.methodLink RL 18 yX7_panel ∈ lw_g := lg_mem 176 (by decide +kernel) rfl
theorem lk_L_22 : Cond.methodLink RL 22 yX8_panel ∈ lw_g := lg_mem 723 (by decide +kernel) rfl
theorem lk_L_23 : Cond.methodLink RL 23 yX7_knot ∈ lw_g := lg_mem 194 (by decide +kernel) rfl
theorem lk_L_27 : Cond.methodLink RL 27 yX8_knot ∈ lw_g := lg_mem 734 (by decide +kernel) rfl
theorem lk_L_28 : Cond.methodLink RL 28 yX7_table ∈ lw_g := lg_mem 199 (by decide +kernel) rfl
theorem lk_L_32 : Cond.methodLink RL 32 yX8_table ∈ lw_g := lg_mem 739 (by decide +kernel) rfl
theorem lk_L_33 : Cond.methodLink RL 33 yX7_force ∈ lw_g := lg_mem 223 (by decide +kernel) rfl
theorem lk_L_36 : Cond.methodLink RL 36 yX8_force ∈ lw_g := lg_mem 746 (by decide +kernel) rfl
theorem lk_L_37 : Cond.methodLink RL 37 yX7_stands ∈ lw_g := lg_mem 247 (by decide +kernel) rfl
theorem lk_L_40 : Cond.methodLink RL 40 yX8_stands ∈ lw_g := lg_mem 769 (by decide +kernel) rfl
theorem lk_L_41 : Cond.methodLink RL 41 yX7_steady ∈ lw_g := lg_mem 256 (by decide +kernel) rfl
theorem lk_L_44 : Cond.methodLink RL 44 yX8_steady ∈ lw_g := lg_mem 777 (by decide +kernel) rfl
theorem lk_L_45 : Cond.methodLink RL 45 yX7_pull ∈ lw_g := lg_mem 270 (by decide +kernel) rfl
theorem lk_L_48 : Cond.methodLink RL 48 yX8_pull ∈ lw_g := lg_mem 785 (by decide +kernel) rfl
theorem lk_L_49 : Cond.methodLink RL 49 yX7_trim ∈ lw_g := lg_mem 274 (by decide +kernel) rfl
theorem lk_L_52 : Cond.methodLink RL 52 yX8_trim ∈ lw_g := lg_mem 797 (by decide +kernel) rfl
theorem lk_L_53 : Cond.methodLink RL 53 yX7_wind ∈ lw_g := lg_mem 278 (by decide +kernel) rfl
theorem lk_L_56 : Cond.methodLink RL 56 yX8_wind ∈ lw_g := lg_mem 801 (by decide +kernel) rfl
theorem lk_L_57 : Cond.methodLink RL 57 yX7_line ∈ lw_g := lg_mem 282 (by decide +kernel) rfl
theorem lk_L_60 : Cond.methodLink RL 60 yX8_line ∈ lw_g := lg_mem 805 (by decide +kernel) rfl
theorem lk_L_61 : Cond.methodLink RL 61 yX7_tie ∈ lw_g := lg_mem 311 (by decide +kernel) rfl
theorem lk_L_64 : Cond.methodLink RL 64 yX8_tie ∈ lw_g := lg_mem 810 (by decide +kernel) rfl
theorem lk_L_65 : Cond.methodLink RL 65 yX7_untie ∈ lw_g := lg_mem 323 (by decide +kernel) rfl
theorem lk_L_69 : Cond.methodLink RL 69 yX8_untie ∈ lw_g := lg_mem 826 (by decide +kernel) rfl
theorem lk_L_70 : Cond.methodLink RL 70 yX7_weaken ∈ lw_g := lg_mem 327 (by decide +kernel) rfl
theorem lk_L_73 : Cond.methodLink RL 73 yX8_weaken ∈ lw_g := lg_mem 830 (by decide +kernel) rfl
theorem lk_L_74 : Cond.methodLink RL 74 yX7_ofLine ∈ lw_g := lg_mem 339 (by decide +kernel) rfl
theorem lk_L_77 : Cond.methodLink RL 77 yX8_ofLine ∈ lw_g := lg_mem 838 (by decide +kernel) rfl
theorem lk_L_78 : Cond.methodLink RL 78 yX7_step ∈ lw_g := lg_mem 400 (by decide +kernel) rfl
theorem lk_L_81 : Cond.methodLink RL 81 yX8_step ∈ lw_g := lg_mem 867 (by decide +kernel) rfl
theorem lk_L_82 : Cond.methodLink RL 82 yX7_part ∈ lw_g := lg_mem 419 (by decide +kernel) rfl
theorem lk_L_85 : Cond.methodLink RL 85 yX8_part ∈ lw_g := lg_mem 871 (by decide +kernel) rfl
theorem lk_L_86 : Cond.methodLink RL 86 yX7_least ∈ lw_g := lg_mem 431 (by decide +kernel) rfl
theorem lk_L_89 : Cond.methodLink RL 89 yX8_least ∈ lw_g := lg_mem 879 (by decide +kernel) rfl
theorem lk_L_90 : Cond.methodLink RL 90 yX7_flyer ∈ lw_g := lg_mem 435 (by decide +kernel) rfl
theorem lk_L_93 : Cond.methodLink RL 93 yX8_flyer ∈ lw_g := lg_mem 883 (by decide +kernel) rfl
theorem lk_L_94 : Cond.methodLink RL 94 yX7_blow ∈ lw_g := lg_mem 473 (by decide +kernel) rfl
theorem lk_L_97 : Cond.methodLink RL 97 yX8_blow ∈ lw_g := lg_mem 891 (by decide +kernel) rfl
theorem lk_L_98 : Cond.methodLink RL 98 yX7_tree ∈ lw_g := lg_mem 477 (by decide +kernel) rfl
theorem lk_L_101 : Cond.methodLink RL 101 yX8_tree ∈ lw_g := lg_mem 895 (by decide +kernel) rfl
theorem lk_L_102 : Cond.methodLink RL 102 yX7_agree ∈ lw_g := lg_mem 485 (by decide +kernel) rfl
theorem lk_L_105 : Cond.methodLink RL 105 yX8_agree ∈ lw_g := lg_mem 899 (by decide +kernel) rfl
theorem lk_L_106 : Cond.methodLink RL 106 yX7_fly ∈ lw_g := lg_mem 489 (by decide +kernel) rfl
theorem lk_L_109 : Cond.methodLink RL 109 yX8_fly ∈ lw_g := lg_mem 907 (by decide +kernel) rfl
theorem lk_L_110 : Cond.methodLink RL 110 yX7_why ∈ lw_g := lg_mem 524 (by decide +kernel) rfl
theorem lk_L_113 : Cond.methodLink RL 113 yX8_why ∈ lw_g := lg_mem 927 (by decide +kernel) rfl
theorem lk_L_114 : Cond.methodLink RL 114 yX7_cone ∈ lw_g := lg_mem 528 (by decide +kernel) rfl
theorem lk_L_117 : Cond.methodLink RL 117 yX8_cone ∈ lw_g := lg_mem 931 (by decide +kernel) rfl
theorem lk_L_118 : Cond.methodLink RL 118 yX7_turn ∈ lw_g := lg_mem 532 (by decide +kernel) rfl
theorem lk_L_121 : Cond.methodLink RL 121 yX8_turn ∈ lw_g := lg_mem 935 (by decide +kernel) rfl
theorem lk_L_122 : Cond.methodLink RL 122 yX7_tangled ∈ lw_g := lg_mem 549 (by decide +kernel) rfl
theorem lk_L_125 : Cond.methodLink RL 125 yX8_tangled ∈ lw_g := lg_mem 949 (by decide +kernel) rfl
theorem lk_L_126 : Cond.methodLink RL 126 yX7_undo ∈ lw_g := lg_mem 559 (by decide +kernel) rfl
theorem lk_L_129 : Cond.methodLink RL 129 yX8_undo ∈ lw_g := lg_mem 957 (by decide +kernel) rfl
theorem lk_L_130 : Cond.methodLink RL 130 yX7_unwind ∈ lw_g := lg_mem 570 (by decide +kernel) rfl
theorem lk_L_133 : Cond.methodLink RL 133 yX8_unwind ∈ lw_g := lg_mem 965 (by decide +kernel) rfl
theorem lk_L_134 : Cond.methodLink RL 134 yX7_cut ∈ lw_g := lg_mem 574 (by decide +kernel) rfl
theorem lk_L_137 : Cond.methodLink RL 137 yX8_cut ∈ lw_g := lg_mem 969 (by decide +kernel) rfl
theorem lk_L_138 : Cond.methodLink RL 138 yX7_count ∈ lw_g := lg_mem 583 (by decide +kernel) rfl
theorem lk_L_141 : Cond.methodLink RL 141 yX8_count ∈ lw_g := lg_mem 973 (by decide +kernel) rfl
set_option maxRecDepth 100000 in
theorem ok_X7_kite : OkV yX7_kite cX7_kite 1 (some .int) 0 := ⟨lg_mem 145 rfl rfl, lg_mem 143 (by decide +kernel) rfl, lg_mem 144 (by decide +kernel) rfl, lg_mem 1 (by decide +kernel) rfl, by decide, by decide, by decide +kernel⟩
set_option maxRecDepth 100000 in
theorem ok_X7_line : OkV yX7_line cX7_line 4 (some .int) 3 := ⟨lg_mem 285 rfl rfl, lg_mem 283 (by decide +kernel) rfl, lg_mem 284 (by decide +kernel) rfl, lg_mem 1 (by decide +kernel) rfl, by decide, by decide, by decide +kernel⟩
set_option maxRecDepth 100000 in
theorem ok_X7_flyer : OkV yX7_flyer cX7_flyer 3 (some .int) 2 := ⟨lg_mem 438 rfl rfl, lg_mem 436 (by decide +kernel) rfl, lg_mem 437 (by decide +kernel) rfl, lg_mem 1 (by decide +kernel) rfl, by decide, by decide, by decide +kernel⟩
theorem dL_law_0 : decode cL_law 0 = .ok (.new 7, 3) := by decide +kernel
theorem dL_law_3 : decode cL_law 3 = .ok (.dup, 1) := by decide +kernel
theorem dL_law_4 : decode cL_law 4 = .ok (.invokespecial 9, 3) := by decide +kernel
theorem dL_law_7 : decode cL_law 7 = .ok (.astore_n 1, 1) := by decide +kernel
theorem dL_law_8 : decode cL_law 8 = .ok (.new 10, 3) := by decide +kernel
theorem dL_law_11 : decode cL_law 11 = .ok (.dup, 1) := by decide +kernel
theorem dL_law_12 : decode cL_law 12 = .ok (.invokespecial 12, 3) := by decide +kernel
theorem dL_law_15 : decode cL_law 15 = .ok (.astore_n 2, 1) := by decide +kernel
theorem dL_law_16 : decode cL_law 16 = .ok (.iconst 0, 1) := by decide +kernel
theorem dL_law_17 : decode cL_law 17 = .ok (.istore_n 3, 1) := by decide +kernel
theorem dL_law_18 : decode cL_law 18 = .ok (.iload_n 3, 1) := by decide +kernel
theorem dL_law_19 : decode cL_law 19 = .ok (.aload_n 0, 1) := by decide +kernel
theorem dL_law_20 : decode cL_law 20 = .ok (.arraylength, 1) := by decide +kernel
theorem dL_law_21 : decode cL_law 21 = .ok (.iconst 5, 1) := by decide +kernel
theorem dL_law_22 : decode cL_law 22 = .ok (.isub, 1) := by decide +kernel
theorem dL_law_23 : decode cL_law 23 = .ok (.if_icmp .gt 1228, 3) := by decide +kernel
theorem dL_law_26 : decode cL_law 26 = .ok (.aload_n 0, 1) := by decide +kernel
theorem dL_law_27 : decode cL_law 27 = .ok (.iload_n 3, 1) := by decide +kernel
theorem dL_law_28 : decode cL_law 28 = .ok (.iaload, 1) := by decide +kernel
theorem dL_law_29 : decode cL_law 29 = .ok (.bipush 31, 2) := by decide +kernel
theorem dL_law_31 : decode cL_law 31 = .ok (.iand, 1) := by decide +kernel
theorem dL_law_32 : decode cL_law 32 = .ok (.tableswitch 1213 0 30 #[140, 153, 206, 239, 282, 335, 368, 401, 444, 497, 530, 573, 616, 639, 672, 705, 748, 771, 804, 837, 870, 893, 936, 969, 992, 1025, 1068, 1101, 1124, 1147, 1190], 140) := by decide +kernel
theorem dL_law_172 : decode cL_law 172 = .ok (.aload_n 1, 1) := by decide +kernel
theorem dL_law_173 : decode cL_law 173 = .ok (.invokevirtual 13, 3) := by decide +kernel
theorem dL_law_176 : decode cL_law 176 = .ok (.aload_n 2, 1) := by decide +kernel
theorem dL_law_177 : decode cL_law 177 = .ok (.invokevirtual 17, 3) := by decide +kernel
theorem dL_law_180 : decode cL_law 180 = .ok (.if_icmp .eq 1065, 3) := by decide +kernel
theorem dL_law_183 : decode cL_law 183 = .ok (.iconst 0, 1) := by decide +kernel
theorem dL_law_184 : decode cL_law 184 = .ok (.ireturn, 1) := by decide +kernel
theorem dL_law_185 : decode cL_law 185 = .ok (.aload_n 1, 1) := by decide +kernel
theorem dL_law_186 : decode cL_law 186 = .ok (.aload_n 0, 1) := by decide +kernel
theorem dL_law_187 : decode cL_law 187 = .ok (.iload_n 3, 1) := by decide +kernel
theorem dL_law_188 : decode cL_law 188 = .ok (.iconst 1, 1) := by decide +kernel
theorem dL_law_189 : decode cL_law 189 = .ok (.iadd, 1) := by decide +kernel
theorem dL_law_190 : decode cL_law 190 = .ok (.iaload, 1) := by decide +kernel
theorem dL_law_191 : decode cL_law 191 = .ok (.aload_n 0, 1) := by decide +kernel
theorem dL_law_192 : decode cL_law 192 = .ok (.iload_n 3, 1) := by decide +kernel
theorem dL_law_193 : decode cL_law 193 = .ok (.iconst 2, 1) := by decide +kernel
theorem dL_law_194 : decode cL_law 194 = .ok (.iadd, 1) := by decide +kernel
theorem dL_law_195 : decode cL_law 195 = .ok (.iaload, 1) := by decide +kernel
theorem dL_law_196 : decode cL_law 196 = .ok (.aload_n 0, 1) := by decide +kernel
theorem dL_law_197 : decode cL_law 197 = .ok (.iload_n 3, 1) := by decide +kernel
theorem dL_law_198 : decode cL_law 198 = .ok (.iconst 3, 1) := by decide +kernel
theorem dL_law_199 : decode cL_law 199 = .ok (.iadd, 1) := by decide +kernel
theorem dL_law_200 : decode cL_law 200 = .ok (.iaload, 1) := by decide +kernel
theorem dL_law_201 : decode cL_law 201 = .ok (.aload_n 0, 1) := by decide +kernel
theorem dL_law_202 : decode cL_law 202 = .ok (.iload_n 3, 1) := by decide +kernel
theorem dL_law_203 : decode cL_law 203 = .ok (.iconst 4, 1) := by decide +kernel
theorem dL_law_204 : decode cL_law 204 = .ok (.iadd, 1) := by decide +kernel
theorem dL_law_205 : decode cL_law 205 = .ok (.iaload, 1) := by decide +kernel
theorem dL_law_206 : decode cL_law 206 = .ok (.invokevirtual 18, 3) := by decide +kernel
theorem dL_law_209 : decode cL_law 209 = .ok (.aload_n 2, 1) := by decide +kernel
theorem dL_law_210 : decode cL_law 210 = .ok (.aload_n 0, 1) := by decide +kernel
theorem dL_law_211 : decode cL_law 211 = .ok (.iload_n 3, 1) := by decide +kernel
theorem dL_law_212 : decode cL_law 212 = .ok (.iconst 1, 1) := by decide +kernel
theorem dL_law_213 : decode cL_law 213 = .ok (.iadd, 1) := by decide +kernel
theorem dL_law_214 : decode cL_law 214 = .ok (.iaload, 1) := by decide +kernel
theorem dL_law_215 : decode cL_law 215 = .ok (.aload_n 0, 1) := by decide +kernel
theorem dL_law_216 : decode cL_law 216 = .ok (.iload_n 3, 1) := by decide +kernel
theorem dL_law_217 : decode cL_law 217 = .ok (.iconst 2, 1) := by decide +kernel
theorem dL_law_218 : decode cL_law 218 = .ok (.iadd, 1) := by decide +kernel
theorem dL_law_219 : decode cL_law 219 = .ok (.iaload, 1) := by decide +kernel
theorem dL_law_220 : decode cL_law 220 = .ok (.aload_n 0, 1) := by decide +kernel
theorem dL_law_221 : decode cL_law 221 = .ok (.iload_n 3, 1) := by decide +kernel
theorem dL_law_222 : decode cL_law 222 = .ok (.iconst 3, 1) := by decide +kernel
theorem dL_law_223 : decode cL_law 223 = .ok (.iadd, 1) := by decide +kernel
theorem dL_law_224 : decode cL_law 224 = .ok (.iaload, 1) := by decide +kernel
theorem dL_law_225 : decode cL_law 225 = .ok (.aload_n 0, 1) := by decide +kernel
theorem dL_law_226 : decode cL_law 226 = .ok (.iload_n 3, 1) := by decide +kernel
theorem dL_law_227 : decode cL_law 227 = .ok (.iconst 4, 1) := by decide +kernel
theorem dL_law_228 : decode cL_law 228 = .ok (.iadd, 1) := by decide +kernel
theorem dL_law_229 : decode cL_law 229 = .ok (.iaload, 1) := by decide +kernel
theorem dL_law_230 : decode cL_law 230 = .ok (.invokevirtual 22, 3) := by decide +kernel
theorem dL_law_233 : decode cL_law 233 = .ok (.if_icmp .eq 1012, 3) := by decide +kernel
theorem dL_law_236 : decode cL_law 236 = .ok (.iconst 0, 1) := by decide +kernel
theorem dL_law_237 : decode cL_law 237 = .ok (.ireturn, 1) := by decide +kernel
theorem dL_law_238 : decode cL_law 238 = .ok (.aload_n 1, 1) := by decide +kernel
theorem dL_law_239 : decode cL_law 239 = .ok (.aload_n 0, 1) := by decide +kernel
theorem dL_law_240 : decode cL_law 240 = .ok (.iload_n 3, 1) := by decide +kernel
theorem dL_law_241 : decode cL_law 241 = .ok (.iconst 1, 1) := by decide +kernel
theorem dL_law_242 : decode cL_law 242 = .ok (.iadd, 1) := by decide +kernel
theorem dL_law_243 : decode cL_law 243 = .ok (.iaload, 1) := by decide +kernel
theorem dL_law_244 : decode cL_law 244 = .ok (.aload_n 0, 1) := by decide +kernel
theorem dL_law_245 : decode cL_law 245 = .ok (.iload_n 3, 1) := by decide +kernel
theorem dL_law_246 : decode cL_law 246 = .ok (.iconst 2, 1) := by decide +kernel
theorem dL_law_247 : decode cL_law 247 = .ok (.iadd, 1) := by decide +kernel
theorem dL_law_248 : decode cL_law 248 = .ok (.iaload, 1) := by decide +kernel
theorem dL_law_249 : decode cL_law 249 = .ok (.invokevirtual 23, 3) := by decide +kernel
theorem dL_law_252 : decode cL_law 252 = .ok (.aload_n 2, 1) := by decide +kernel
theorem dL_law_253 : decode cL_law 253 = .ok (.aload_n 0, 1) := by decide +kernel
theorem dL_law_254 : decode cL_law 254 = .ok (.iload_n 3, 1) := by decide +kernel
theorem dL_law_255 : decode cL_law 255 = .ok (.iconst 1, 1) := by decide +kernel
theorem dL_law_256 : decode cL_law 256 = .ok (.iadd, 1) := by decide +kernel
theorem dL_law_257 : decode cL_law 257 = .ok (.iaload, 1) := by decide +kernel
theorem dL_law_258 : decode cL_law 258 = .ok (.aload_n 0, 1) := by decide +kernel
theorem dL_law_259 : decode cL_law 259 = .ok (.iload_n 3, 1) := by decide +kernel
theorem dL_law_260 : decode cL_law 260 = .ok (.iconst 2, 1) := by decide +kernel
theorem dL_law_261 : decode cL_law 261 = .ok (.iadd, 1) := by decide +kernel
theorem dL_law_262 : decode cL_law 262 = .ok (.iaload, 1) := by decide +kernel
theorem dL_law_263 : decode cL_law 263 = .ok (.invokevirtual 27, 3) := by decide +kernel
theorem dL_law_266 : decode cL_law 266 = .ok (.if_icmp .eq 979, 3) := by decide +kernel
theorem dL_law_269 : decode cL_law 269 = .ok (.iconst 0, 1) := by decide +kernel
theorem dL_law_270 : decode cL_law 270 = .ok (.ireturn, 1) := by decide +kernel
theorem dL_law_271 : decode cL_law 271 = .ok (.aload_n 1, 1) := by decide +kernel
theorem dL_law_272 : decode cL_law 272 = .ok (.aload_n 0, 1) := by decide +kernel
theorem dL_law_273 : decode cL_law 273 = .ok (.iload_n 3, 1) := by decide +kernel
theorem dL_law_274 : decode cL_law 274 = .ok (.iconst 1, 1) := by decide +kernel
theorem dL_law_275 : decode cL_law 275 = .ok (.iadd, 1) := by decide +kernel
theorem dL_law_276 : decode cL_law 276 = .ok (.iaload, 1) := by decide +kernel
theorem dL_law_277 : decode cL_law 277 = .ok (.aload_n 0, 1) := by decide +kernel
theorem dL_law_278 : decode cL_law 278 = .ok (.iload_n 3, 1) := by decide +kernel
theorem dL_law_279 : decode cL_law 279 = .ok (.iconst 2, 1) := by decide +kernel
theorem dL_law_280 : decode cL_law 280 = .ok (.iadd, 1) := by decide +kernel
theorem dL_law_281 : decode cL_law 281 = .ok (.iaload, 1) := by decide +kernel
theorem dL_law_282 : decode cL_law 282 = .ok (.aload_n 0, 1) := by decide +kernel
theorem dL_law_283 : decode cL_law 283 = .ok (.iload_n 3, 1) := by decide +kernel
theorem dL_law_284 : decode cL_law 284 = .ok (.iconst 3, 1) := by decide +kernel
theorem dL_law_285 : decode cL_law 285 = .ok (.iadd, 1) := by decide +kernel
theorem dL_law_286 : decode cL_law 286 = .ok (.iaload, 1) := by decide +kernel
theorem dL_law_287 : decode cL_law 287 = .ok (.invokevirtual 28, 3) := by decide +kernel
theorem dL_law_290 : decode cL_law 290 = .ok (.aload_n 2, 1) := by decide +kernel
theorem dL_law_291 : decode cL_law 291 = .ok (.aload_n 0, 1) := by decide +kernel
theorem dL_law_292 : decode cL_law 292 = .ok (.iload_n 3, 1) := by decide +kernel
theorem dL_law_293 : decode cL_law 293 = .ok (.iconst 1, 1) := by decide +kernel
theorem dL_law_294 : decode cL_law 294 = .ok (.iadd, 1) := by decide +kernel
theorem dL_law_295 : decode cL_law 295 = .ok (.iaload, 1) := by decide +kernel
theorem dL_law_296 : decode cL_law 296 = .ok (.aload_n 0, 1) := by decide +kernel
theorem dL_law_297 : decode cL_law 297 = .ok (.iload_n 3, 1) := by decide +kernel
theorem dL_law_298 : decode cL_law 298 = .ok (.iconst 2, 1) := by decide +kernel
theorem dL_law_299 : decode cL_law 299 = .ok (.iadd, 1) := by decide +kernel
theorem dL_law_300 : decode cL_law 300 = .ok (.iaload, 1) := by decide +kernel
theorem dL_law_301 : decode cL_law 301 = .ok (.aload_n 0, 1) := by decide +kernel
theorem dL_law_302 : decode cL_law 302 = .ok (.iload_n 3, 1) := by decide +kernel
theorem dL_law_303 : decode cL_law 303 = .ok (.iconst 3, 1) := by decide +kernel
theorem dL_law_304 : decode cL_law 304 = .ok (.iadd, 1) := by decide +kernel
theorem dL_law_305 : decode cL_law 305 = .ok (.iaload, 1) := by decide +kernel
theorem dL_law_306 : decode cL_law 306 = .ok (.invokevirtual 32, 3) := by decide +kernel
theorem dL_law_309 : decode cL_law 309 = .ok (.if_icmp .eq 936, 3) := by decide +kernel
theorem dL_law_312 : decode cL_law 312 = .ok (.iconst 0, 1) := by decide +kernel
theorem dL_law_313 : decode cL_law 313 = .ok (.ireturn, 1) := by decide +kernel
theorem dL_law_314 : decode cL_law 314 = .ok (.aload_n 1, 1) := by decide +kernel
theorem dL_law_315 : decode cL_law 315 = .ok (.aload_n 0, 1) := by decide +kernel
theorem dL_law_316 : decode cL_law 316 = .ok (.iload_n 3, 1) := by decide +kernel
theorem dL_law_317 : decode cL_law 317 = .ok (.iconst 1, 1) := by decide +kernel
theorem dL_law_318 : decode cL_law 318 = .ok (.iadd, 1) := by decide +kernel
theorem dL_law_319 : decode cL_law 319 = .ok (.iaload, 1) := by decide +kernel
theorem dL_law_320 : decode cL_law 320 = .ok (.aload_n 0, 1) := by decide +kernel
theorem dL_law_321 : decode cL_law 321 = .ok (.iload_n 3, 1) := by decide +kernel
theorem dL_law_322 : decode cL_law 322 = .ok (.iconst 2, 1) := by decide +kernel
theorem dL_law_323 : decode cL_law 323 = .ok (.iadd, 1) := by decide +kernel
theorem dL_law_324 : decode cL_law 324 = .ok (.iaload, 1) := by decide +kernel
theorem dL_law_325 : decode cL_law 325 = .ok (.aload_n 0, 1) := by decide +kernel
theorem dL_law_326 : decode cL_law 326 = .ok (.iload_n 3, 1) := by decide +kernel
theorem dL_law_327 : decode cL_law 327 = .ok (.iconst 3, 1) := by decide +kernel
theorem dL_law_328 : decode cL_law 328 = .ok (.iadd, 1) := by decide +kernel
theorem dL_law_329 : decode cL_law 329 = .ok (.iaload, 1) := by decide +kernel
theorem dL_law_330 : decode cL_law 330 = .ok (.aload_n 0, 1) := by decide +kernel
theorem dL_law_331 : decode cL_law 331 = .ok (.iload_n 3, 1) := by decide +kernel
theorem dL_law_332 : decode cL_law 332 = .ok (.iconst 4, 1) := by decide +kernel
theorem dL_law_333 : decode cL_law 333 = .ok (.iadd, 1) := by decide +kernel
theorem dL_law_334 : decode cL_law 334 = .ok (.iaload, 1) := by decide +kernel
theorem dL_law_335 : decode cL_law 335 = .ok (.invokevirtual 33, 3) := by decide +kernel
theorem dL_law_338 : decode cL_law 338 = .ok (.aload_n 2, 1) := by decide +kernel
theorem dL_law_339 : decode cL_law 339 = .ok (.aload_n 0, 1) := by decide +kernel
theorem dL_law_340 : decode cL_law 340 = .ok (.iload_n 3, 1) := by decide +kernel
theorem dL_law_341 : decode cL_law 341 = .ok (.iconst 1, 1) := by decide +kernel
theorem dL_law_342 : decode cL_law 342 = .ok (.iadd, 1) := by decide +kernel
theorem dL_law_343 : decode cL_law 343 = .ok (.iaload, 1) := by decide +kernel
theorem dL_law_344 : decode cL_law 344 = .ok (.aload_n 0, 1) := by decide +kernel
theorem dL_law_345 : decode cL_law 345 = .ok (.iload_n 3, 1) := by decide +kernel
theorem dL_law_346 : decode cL_law 346 = .ok (.iconst 2, 1) := by decide +kernel
theorem dL_law_347 : decode cL_law 347 = .ok (.iadd, 1) := by decide +kernel
theorem dL_law_348 : decode cL_law 348 = .ok (.iaload, 1) := by decide +kernel
theorem dL_law_349 : decode cL_law 349 = .ok (.aload_n 0, 1) := by decide +kernel
theorem dL_law_350 : decode cL_law 350 = .ok (.iload_n 3, 1) := by decide +kernel
theorem dL_law_351 : decode cL_law 351 = .ok (.iconst 3, 1) := by decide +kernel
theorem dL_law_352 : decode cL_law 352 = .ok (.iadd, 1) := by decide +kernel
theorem dL_law_353 : decode cL_law 353 = .ok (.iaload, 1) := by decide +kernel
theorem dL_law_354 : decode cL_law 354 = .ok (.aload_n 0, 1) := by decide +kernel
theorem dL_law_355 : decode cL_law 355 = .ok (.iload_n 3, 1) := by decide +kernel
theorem dL_law_356 : decode cL_law 356 = .ok (.iconst 4, 1) := by decide +kernel
theorem dL_law_357 : decode cL_law 357 = .ok (.iadd, 1) := by decide +kernel
theorem dL_law_358 : decode cL_law 358 = .ok (.iaload, 1) := by decide +kernel
theorem dL_law_359 : decode cL_law 359 = .ok (.invokevirtual 36, 3) := by decide +kernel
theorem dL_law_362 : decode cL_law 362 = .ok (.if_icmp .eq 883, 3) := by decide +kernel
theorem dL_law_365 : decode cL_law 365 = .ok (.iconst 0, 1) := by decide +kernel
theorem dL_law_366 : decode cL_law 366 = .ok (.ireturn, 1) := by decide +kernel
theorem dL_law_367 : decode cL_law 367 = .ok (.aload_n 1, 1) := by decide +kernel
theorem dL_law_368 : decode cL_law 368 = .ok (.aload_n 0, 1) := by decide +kernel
theorem dL_law_369 : decode cL_law 369 = .ok (.iload_n 3, 1) := by decide +kernel
theorem dL_law_370 : decode cL_law 370 = .ok (.iconst 1, 1) := by decide +kernel
theorem dL_law_371 : decode cL_law 371 = .ok (.iadd, 1) := by decide +kernel
theorem dL_law_372 : decode cL_law 372 = .ok (.iaload, 1) := by decide +kernel
theorem dL_law_373 : decode cL_law 373 = .ok (.aload_n 0, 1) := by decide +kernel
theorem dL_law_374 : decode cL_law 374 = .ok (.iload_n 3, 1) := by decide +kernel
theorem dL_law_375 : decode cL_law 375 = .ok (.iconst 2, 1) := by decide +kernel
theorem dL_law_376 : decode cL_law 376 = .ok (.iadd, 1) := by decide +kernel
theorem dL_law_377 : decode cL_law 377 = .ok (.iaload, 1) := by decide +kernel
theorem dL_law_378 : decode cL_law 378 = .ok (.invokevirtual 37, 3) := by decide +kernel
theorem dL_law_381 : decode cL_law 381 = .ok (.aload_n 2, 1) := by decide +kernel
theorem dL_law_382 : decode cL_law 382 = .ok (.aload_n 0, 1) := by decide +kernel
theorem dL_law_383 : decode cL_law 383 = .ok (.iload_n 3, 1) := by decide +kernel
theorem dL_law_384 : decode cL_law 384 = .ok (.iconst 1, 1) := by decide +kernel
theorem dL_law_385 : decode cL_law 385 = .ok (.iadd, 1) := by decide +kernel
theorem dL_law_386 : decode cL_law 386 = .ok (.iaload, 1) := by decide +kernel
theorem dL_law_387 : decode cL_law 387 = .ok (.aload_n 0, 1) := by decide +kernel
theorem dL_law_388 : decode cL_law 388 = .ok (.iload_n 3, 1) := by decide +kernel
theorem dL_law_389 : decode cL_law 389 = .ok (.iconst 2, 1) := by decide +kernel
theorem dL_law_390 : decode cL_law 390 = .ok (.iadd, 1) := by decide +kernel
theorem dL_law_391 : decode cL_law 391 = .ok (.iaload, 1) := by decide +kernel
theorem dL_law_392 : decode cL_law 392 = .ok (.invokevirtual 40, 3) := by decide +kernel
theorem dL_law_395 : decode cL_law 395 = .ok (.if_icmp .eq 850, 3) := by decide +kernel
theorem dL_law_398 : decode cL_law 398 = .ok (.iconst 0, 1) := by decide +kernel
theorem dL_law_399 : decode cL_law 399 = .ok (.ireturn, 1) := by decide +kernel
theorem dL_law_400 : decode cL_law 400 = .ok (.aload_n 1, 1) := by decide +kernel
theorem dL_law_401 : decode cL_law 401 = .ok (.aload_n 0, 1) := by decide +kernel
theorem dL_law_402 : decode cL_law 402 = .ok (.iload_n 3, 1) := by decide +kernel
theorem dL_law_403 : decode cL_law 403 = .ok (.iconst 1, 1) := by decide +kernel
theorem dL_law_404 : decode cL_law 404 = .ok (.iadd, 1) := by decide +kernel
theorem dL_law_405 : decode cL_law 405 = .ok (.iaload, 1) := by decide +kernel
theorem dL_law_406 : decode cL_law 406 = .ok (.aload_n 0, 1) := by decide +kernel
theorem dL_law_407 : decode cL_law 407 = .ok (.iload_n 3, 1) := by decide +kernel
theorem dL_law_408 : decode cL_law 408 = .ok (.iconst 2, 1) := by decide +kernel
theorem dL_law_409 : decode cL_law 409 = .ok (.iadd, 1) := by decide +kernel
theorem dL_law_410 : decode cL_law 410 = .ok (.iaload, 1) := by decide +kernel
theorem dL_law_411 : decode cL_law 411 = .ok (.invokevirtual 41, 3) := by decide +kernel
theorem dL_law_414 : decode cL_law 414 = .ok (.aload_n 2, 1) := by decide +kernel
theorem dL_law_415 : decode cL_law 415 = .ok (.aload_n 0, 1) := by decide +kernel
theorem dL_law_416 : decode cL_law 416 = .ok (.iload_n 3, 1) := by decide +kernel
theorem dL_law_417 : decode cL_law 417 = .ok (.iconst 1, 1) := by decide +kernel
theorem dL_law_418 : decode cL_law 418 = .ok (.iadd, 1) := by decide +kernel
theorem dL_law_419 : decode cL_law 419 = .ok (.iaload, 1) := by decide +kernel
theorem dL_law_420 : decode cL_law 420 = .ok (.aload_n 0, 1) := by decide +kernel
theorem dL_law_421 : decode cL_law 421 = .ok (.iload_n 3, 1) := by decide +kernel
theorem dL_law_422 : decode cL_law 422 = .ok (.iconst 2, 1) := by decide +kernel
theorem dL_law_423 : decode cL_law 423 = .ok (.iadd, 1) := by decide +kernel
theorem dL_law_424 : decode cL_law 424 = .ok (.iaload, 1) := by decide +kernel
theorem dL_law_425 : decode cL_law 425 = .ok (.invokevirtual 44, 3) := by decide +kernel
theorem dL_law_428 : decode cL_law 428 = .ok (.if_icmp .eq 817, 3) := by decide +kernel
theorem dL_law_431 : decode cL_law 431 = .ok (.iconst 0, 1) := by decide +kernel
theorem dL_law_432 : decode cL_law 432 = .ok (.ireturn, 1) := by decide +kernel
theorem dL_law_433 : decode cL_law 433 = .ok (.aload_n 1, 1) := by decide +kernel
theorem dL_law_434 : decode cL_law 434 = .ok (.aload_n 0, 1) := by decide +kernel
theorem dL_law_435 : decode cL_law 435 = .ok (.iload_n 3, 1) := by decide +kernel
theorem dL_law_436 : decode cL_law 436 = .ok (.iconst 1, 1) := by decide +kernel
theorem dL_law_437 : decode cL_law 437 = .ok (.iadd, 1) := by decide +kernel
theorem dL_law_438 : decode cL_law 438 = .ok (.iaload, 1) := by decide +kernel
theorem dL_law_439 : decode cL_law 439 = .ok (.aload_n 0, 1) := by decide +kernel
theorem dL_law_440 : decode cL_law 440 = .ok (.iload_n 3, 1) := by decide +kernel
theorem dL_law_441 : decode cL_law 441 = .ok (.iconst 2, 1) := by decide +kernel
theorem dL_law_442 : decode cL_law 442 = .ok (.iadd, 1) := by decide +kernel
theorem dL_law_443 : decode cL_law 443 = .ok (.iaload, 1) := by decide +kernel
theorem dL_law_444 : decode cL_law 444 = .ok (.aload_n 0, 1) := by decide +kernel
theorem dL_law_445 : decode cL_law 445 = .ok (.iload_n 3, 1) := by decide +kernel
theorem dL_law_446 : decode cL_law 446 = .ok (.iconst 3, 1) := by decide +kernel
theorem dL_law_447 : decode cL_law 447 = .ok (.iadd, 1) := by decide +kernel
theorem dL_law_448 : decode cL_law 448 = .ok (.iaload, 1) := by decide +kernel
theorem dL_law_449 : decode cL_law 449 = .ok (.invokevirtual 45, 3) := by decide +kernel
theorem dL_law_452 : decode cL_law 452 = .ok (.aload_n 2, 1) := by decide +kernel
theorem dL_law_453 : decode cL_law 453 = .ok (.aload_n 0, 1) := by decide +kernel
theorem dL_law_454 : decode cL_law 454 = .ok (.iload_n 3, 1) := by decide +kernel
theorem dL_law_455 : decode cL_law 455 = .ok (.iconst 1, 1) := by decide +kernel
theorem dL_law_456 : decode cL_law 456 = .ok (.iadd, 1) := by decide +kernel
theorem dL_law_457 : decode cL_law 457 = .ok (.iaload, 1) := by decide +kernel
theorem dL_law_458 : decode cL_law 458 = .ok (.aload_n 0, 1) := by decide +kernel
theorem dL_law_459 : decode cL_law 459 = .ok (.iload_n 3, 1) := by decide +kernel
theorem dL_law_460 : decode cL_law 460 = .ok (.iconst 2, 1) := by decide +kernel
theorem dL_law_461 : decode cL_law 461 = .ok (.iadd, 1) := by decide +kernel
theorem dL_law_462 : decode cL_law 462 = .ok (.iaload, 1) := by decide +kernel
theorem dL_law_463 : decode cL_law 463 = .ok (.aload_n 0, 1) := by decide +kernel
theorem dL_law_464 : decode cL_law 464 = .ok (.iload_n 3, 1) := by decide +kernel
theorem dL_law_465 : decode cL_law 465 = .ok (.iconst 3, 1) := by decide +kernel
theorem dL_law_466 : decode cL_law 466 = .ok (.iadd, 1) := by decide +kernel
theorem dL_law_467 : decode cL_law 467 = .ok (.iaload, 1) := by decide +kernel
theorem dL_law_468 : decode cL_law 468 = .ok (.invokevirtual 48, 3) := by decide +kernel
theorem dL_law_471 : decode cL_law 471 = .ok (.if_icmp .eq 774, 3) := by decide +kernel
theorem dL_law_474 : decode cL_law 474 = .ok (.iconst 0, 1) := by decide +kernel
theorem dL_law_475 : decode cL_law 475 = .ok (.ireturn, 1) := by decide +kernel
theorem dL_law_476 : decode cL_law 476 = .ok (.aload_n 1, 1) := by decide +kernel
theorem dL_law_477 : decode cL_law 477 = .ok (.aload_n 0, 1) := by decide +kernel
theorem dL_law_478 : decode cL_law 478 = .ok (.iload_n 3, 1) := by decide +kernel
theorem dL_law_479 : decode cL_law 479 = .ok (.iconst 1, 1) := by decide +kernel
theorem dL_law_480 : decode cL_law 480 = .ok (.iadd, 1) := by decide +kernel
theorem dL_law_481 : decode cL_law 481 = .ok (.iaload, 1) := by decide +kernel
theorem dL_law_482 : decode cL_law 482 = .ok (.aload_n 0, 1) := by decide +kernel
theorem dL_law_483 : decode cL_law 483 = .ok (.iload_n 3, 1) := by decide +kernel
theorem dL_law_484 : decode cL_law 484 = .ok (.iconst 2, 1) := by decide +kernel
theorem dL_law_485 : decode cL_law 485 = .ok (.iadd, 1) := by decide +kernel
theorem dL_law_486 : decode cL_law 486 = .ok (.iaload, 1) := by decide +kernel
theorem dL_law_487 : decode cL_law 487 = .ok (.aload_n 0, 1) := by decide +kernel
theorem dL_law_488 : decode cL_law 488 = .ok (.iload_n 3, 1) := by decide +kernel
theorem dL_law_489 : decode cL_law 489 = .ok (.iconst 3, 1) := by decide +kernel
theorem dL_law_490 : decode cL_law 490 = .ok (.iadd, 1) := by decide +kernel
theorem dL_law_491 : decode cL_law 491 = .ok (.iaload, 1) := by decide +kernel
theorem dL_law_492 : decode cL_law 492 = .ok (.aload_n 0, 1) := by decide +kernel
theorem dL_law_493 : decode cL_law 493 = .ok (.iload_n 3, 1) := by decide +kernel
theorem dL_law_494 : decode cL_law 494 = .ok (.iconst 4, 1) := by decide +kernel
theorem dL_law_495 : decode cL_law 495 = .ok (.iadd, 1) := by decide +kernel
theorem dL_law_496 : decode cL_law 496 = .ok (.iaload, 1) := by decide +kernel
theorem dL_law_497 : decode cL_law 497 = .ok (.invokevirtual 49, 3) := by decide +kernel
theorem dL_law_500 : decode cL_law 500 = .ok (.aload_n 2, 1) := by decide +kernel
theorem dL_law_501 : decode cL_law 501 = .ok (.aload_n 0, 1) := by decide +kernel
theorem dL_law_502 : decode cL_law 502 = .ok (.iload_n 3, 1) := by decide +kernel
theorem dL_law_503 : decode cL_law 503 = .ok (.iconst 1, 1) := by decide +kernel
theorem dL_law_504 : decode cL_law 504 = .ok (.iadd, 1) := by decide +kernel
theorem dL_law_505 : decode cL_law 505 = .ok (.iaload, 1) := by decide +kernel
theorem dL_law_506 : decode cL_law 506 = .ok (.aload_n 0, 1) := by decide +kernel
theorem dL_law_507 : decode cL_law 507 = .ok (.iload_n 3, 1) := by decide +kernel
theorem dL_law_508 : decode cL_law 508 = .ok (.iconst 2, 1) := by decide +kernel
theorem dL_law_509 : decode cL_law 509 = .ok (.iadd, 1) := by decide +kernel
theorem dL_law_510 : decode cL_law 510 = .ok (.iaload, 1) := by decide +kernel
theorem dL_law_511 : decode cL_law 511 = .ok (.aload_n 0, 1) := by decide +kernel
theorem dL_law_512 : decode cL_law 512 = .ok (.iload_n 3, 1) := by decide +kernel
theorem dL_law_513 : decode cL_law 513 = .ok (.iconst 3, 1) := by decide +kernel
theorem dL_law_514 : decode cL_law 514 = .ok (.iadd, 1) := by decide +kernel
theorem dL_law_515 : decode cL_law 515 = .ok (.iaload, 1) := by decide +kernel
theorem dL_law_516 : decode cL_law 516 = .ok (.aload_n 0, 1) := by decide +kernel
theorem dL_law_517 : decode cL_law 517 = .ok (.iload_n 3, 1) := by decide +kernel
theorem dL_law_518 : decode cL_law 518 = .ok (.iconst 4, 1) := by decide +kernel
theorem dL_law_519 : decode cL_law 519 = .ok (.iadd, 1) := by decide +kernel
theorem dL_law_520 : decode cL_law 520 = .ok (.iaload, 1) := by decide +kernel
theorem dL_law_521 : decode cL_law 521 = .ok (.invokevirtual 52, 3) := by decide +kernel
theorem dL_law_524 : decode cL_law 524 = .ok (.if_icmp .eq 721, 3) := by decide +kernel
theorem dL_law_527 : decode cL_law 527 = .ok (.iconst 0, 1) := by decide +kernel
theorem dL_law_528 : decode cL_law 528 = .ok (.ireturn, 1) := by decide +kernel
theorem dL_law_529 : decode cL_law 529 = .ok (.aload_n 1, 1) := by decide +kernel
theorem dL_law_530 : decode cL_law 530 = .ok (.aload_n 0, 1) := by decide +kernel
theorem dL_law_531 : decode cL_law 531 = .ok (.iload_n 3, 1) := by decide +kernel
theorem dL_law_532 : decode cL_law 532 = .ok (.iconst 1, 1) := by decide +kernel
theorem dL_law_533 : decode cL_law 533 = .ok (.iadd, 1) := by decide +kernel
theorem dL_law_534 : decode cL_law 534 = .ok (.iaload, 1) := by decide +kernel
theorem dL_law_535 : decode cL_law 535 = .ok (.aload_n 0, 1) := by decide +kernel
theorem dL_law_536 : decode cL_law 536 = .ok (.iload_n 3, 1) := by decide +kernel
theorem dL_law_537 : decode cL_law 537 = .ok (.iconst 2, 1) := by decide +kernel
theorem dL_law_538 : decode cL_law 538 = .ok (.iadd, 1) := by decide +kernel
theorem dL_law_539 : decode cL_law 539 = .ok (.iaload, 1) := by decide +kernel
theorem dL_law_540 : decode cL_law 540 = .ok (.invokevirtual 53, 3) := by decide +kernel
theorem dL_law_543 : decode cL_law 543 = .ok (.aload_n 2, 1) := by decide +kernel
theorem dL_law_544 : decode cL_law 544 = .ok (.aload_n 0, 1) := by decide +kernel
theorem dL_law_545 : decode cL_law 545 = .ok (.iload_n 3, 1) := by decide +kernel
theorem dL_law_546 : decode cL_law 546 = .ok (.iconst 1, 1) := by decide +kernel
theorem dL_law_547 : decode cL_law 547 = .ok (.iadd, 1) := by decide +kernel
theorem dL_law_548 : decode cL_law 548 = .ok (.iaload, 1) := by decide +kernel
theorem dL_law_549 : decode cL_law 549 = .ok (.aload_n 0, 1) := by decide +kernel
theorem dL_law_550 : decode cL_law 550 = .ok (.iload_n 3, 1) := by decide +kernel
theorem dL_law_551 : decode cL_law 551 = .ok (.iconst 2, 1) := by decide +kernel
theorem dL_law_552 : decode cL_law 552 = .ok (.iadd, 1) := by decide +kernel
theorem dL_law_553 : decode cL_law 553 = .ok (.iaload, 1) := by decide +kernel
theorem dL_law_554 : decode cL_law 554 = .ok (.invokevirtual 56, 3) := by decide +kernel
theorem dL_law_557 : decode cL_law 557 = .ok (.if_icmp .eq 688, 3) := by decide +kernel
theorem dL_law_560 : decode cL_law 560 = .ok (.iconst 0, 1) := by decide +kernel
theorem dL_law_561 : decode cL_law 561 = .ok (.ireturn, 1) := by decide +kernel
theorem dL_law_562 : decode cL_law 562 = .ok (.aload_n 1, 1) := by decide +kernel
theorem dL_law_563 : decode cL_law 563 = .ok (.aload_n 0, 1) := by decide +kernel
theorem dL_law_564 : decode cL_law 564 = .ok (.iload_n 3, 1) := by decide +kernel
theorem dL_law_565 : decode cL_law 565 = .ok (.iconst 1, 1) := by decide +kernel
theorem dL_law_566 : decode cL_law 566 = .ok (.iadd, 1) := by decide +kernel
theorem dL_law_567 : decode cL_law 567 = .ok (.iaload, 1) := by decide +kernel
theorem dL_law_568 : decode cL_law 568 = .ok (.aload_n 0, 1) := by decide +kernel
theorem dL_law_569 : decode cL_law 569 = .ok (.iload_n 3, 1) := by decide +kernel
theorem dL_law_570 : decode cL_law 570 = .ok (.iconst 2, 1) := by decide +kernel
theorem dL_law_571 : decode cL_law 571 = .ok (.iadd, 1) := by decide +kernel
theorem dL_law_572 : decode cL_law 572 = .ok (.iaload, 1) := by decide +kernel
theorem dL_law_573 : decode cL_law 573 = .ok (.aload_n 0, 1) := by decide +kernel
theorem dL_law_574 : decode cL_law 574 = .ok (.iload_n 3, 1) := by decide +kernel
theorem dL_law_575 : decode cL_law 575 = .ok (.iconst 3, 1) := by decide +kernel
theorem dL_law_576 : decode cL_law 576 = .ok (.iadd, 1) := by decide +kernel
theorem dL_law_577 : decode cL_law 577 = .ok (.iaload, 1) := by decide +kernel
theorem dL_law_578 : decode cL_law 578 = .ok (.invokevirtual 57, 3) := by decide +kernel
theorem dL_law_581 : decode cL_law 581 = .ok (.aload_n 2, 1) := by decide +kernel
theorem dL_law_582 : decode cL_law 582 = .ok (.aload_n 0, 1) := by decide +kernel
theorem dL_law_583 : decode cL_law 583 = .ok (.iload_n 3, 1) := by decide +kernel
theorem dL_law_584 : decode cL_law 584 = .ok (.iconst 1, 1) := by decide +kernel
theorem dL_law_585 : decode cL_law 585 = .ok (.iadd, 1) := by decide +kernel
theorem dL_law_586 : decode cL_law 586 = .ok (.iaload, 1) := by decide +kernel
theorem dL_law_587 : decode cL_law 587 = .ok (.aload_n 0, 1) := by decide +kernel
theorem dL_law_588 : decode cL_law 588 = .ok (.iload_n 3, 1) := by decide +kernel
theorem dL_law_589 : decode cL_law 589 = .ok (.iconst 2, 1) := by decide +kernel
theorem dL_law_590 : decode cL_law 590 = .ok (.iadd, 1) := by decide +kernel
theorem dL_law_591 : decode cL_law 591 = .ok (.iaload, 1) := by decide +kernel
theorem dL_law_592 : decode cL_law 592 = .ok (.aload_n 0, 1) := by decide +kernel
theorem dL_law_593 : decode cL_law 593 = .ok (.iload_n 3, 1) := by decide +kernel
theorem dL_law_594 : decode cL_law 594 = .ok (.iconst 3, 1) := by decide +kernel
theorem dL_law_595 : decode cL_law 595 = .ok (.iadd, 1) := by decide +kernel
theorem dL_law_596 : decode cL_law 596 = .ok (.iaload, 1) := by decide +kernel
theorem dL_law_597 : decode cL_law 597 = .ok (.invokevirtual 60, 3) := by decide +kernel
theorem dL_law_600 : decode cL_law 600 = .ok (.if_icmp .eq 645, 3) := by decide +kernel
theorem dL_law_603 : decode cL_law 603 = .ok (.iconst 0, 1) := by decide +kernel
theorem dL_law_604 : decode cL_law 604 = .ok (.ireturn, 1) := by decide +kernel
theorem dL_law_605 : decode cL_law 605 = .ok (.aload_n 1, 1) := by decide +kernel
theorem dL_law_606 : decode cL_law 606 = .ok (.aload_n 0, 1) := by decide +kernel
theorem dL_law_607 : decode cL_law 607 = .ok (.iload_n 3, 1) := by decide +kernel
theorem dL_law_608 : decode cL_law 608 = .ok (.iconst 1, 1) := by decide +kernel
theorem dL_law_609 : decode cL_law 609 = .ok (.iadd, 1) := by decide +kernel
theorem dL_law_610 : decode cL_law 610 = .ok (.iaload, 1) := by decide +kernel
theorem dL_law_611 : decode cL_law 611 = .ok (.aload_n 0, 1) := by decide +kernel
theorem dL_law_612 : decode cL_law 612 = .ok (.iload_n 3, 1) := by decide +kernel
theorem dL_law_613 : decode cL_law 613 = .ok (.iconst 2, 1) := by decide +kernel
theorem dL_law_614 : decode cL_law 614 = .ok (.iadd, 1) := by decide +kernel
theorem dL_law_615 : decode cL_law 615 = .ok (.iaload, 1) := by decide +kernel
theorem dL_law_616 : decode cL_law 616 = .ok (.aload_n 0, 1) := by decide +kernel
theorem dL_law_617 : decode cL_law 617 = .ok (.iload_n 3, 1) := by decide +kernel
theorem dL_law_618 : decode cL_law 618 = .ok (.iconst 3, 1) := by decide +kernel
theorem dL_law_619 : decode cL_law 619 = .ok (.iadd, 1) := by decide +kernel
theorem dL_law_620 : decode cL_law 620 = .ok (.iaload, 1) := by decide +kernel
theorem dL_law_621 : decode cL_law 621 = .ok (.invokevirtual 61, 3) := by decide +kernel
theorem dL_law_624 : decode cL_law 624 = .ok (.aload_n 2, 1) := by decide +kernel
theorem dL_law_625 : decode cL_law 625 = .ok (.aload_n 0, 1) := by decide +kernel
theorem dL_law_626 : decode cL_law 626 = .ok (.iload_n 3, 1) := by decide +kernel
theorem dL_law_627 : decode cL_law 627 = .ok (.iconst 1, 1) := by decide +kernel
theorem dL_law_628 : decode cL_law 628 = .ok (.iadd, 1) := by decide +kernel
theorem dL_law_629 : decode cL_law 629 = .ok (.iaload, 1) := by decide +kernel
theorem dL_law_630 : decode cL_law 630 = .ok (.aload_n 0, 1) := by decide +kernel
theorem dL_law_631 : decode cL_law 631 = .ok (.iload_n 3, 1) := by decide +kernel
theorem dL_law_632 : decode cL_law 632 = .ok (.iconst 2, 1) := by decide +kernel
theorem dL_law_633 : decode cL_law 633 = .ok (.iadd, 1) := by decide +kernel
theorem dL_law_634 : decode cL_law 634 = .ok (.iaload, 1) := by decide +kernel
theorem dL_law_635 : decode cL_law 635 = .ok (.aload_n 0, 1) := by decide +kernel
theorem dL_law_636 : decode cL_law 636 = .ok (.iload_n 3, 1) := by decide +kernel
theorem dL_law_637 : decode cL_law 637 = .ok (.iconst 3, 1) := by decide +kernel
theorem dL_law_638 : decode cL_law 638 = .ok (.iadd, 1) := by decide +kernel
theorem dL_law_639 : decode cL_law 639 = .ok (.iaload, 1) := by decide +kernel
theorem dL_law_640 : decode cL_law 640 = .ok (.invokevirtual 64, 3) := by decide +kernel
theorem dL_law_643 : decode cL_law 643 = .ok (.if_icmp .eq 602, 3) := by decide +kernel
theorem dL_law_646 : decode cL_law 646 = .ok (.iconst 0, 1) := by decide +kernel
theorem dL_law_647 : decode cL_law 647 = .ok (.ireturn, 1) := by decide +kernel
theorem dL_law_648 : decode cL_law 648 = .ok (.aload_n 1, 1) := by decide +kernel
theorem dL_law_649 : decode cL_law 649 = .ok (.aload_n 0, 1) := by decide +kernel
theorem dL_law_650 : decode cL_law 650 = .ok (.iload_n 3, 1) := by decide +kernel
theorem dL_law_651 : decode cL_law 651 = .ok (.iconst 1, 1) := by decide +kernel
theorem dL_law_652 : decode cL_law 652 = .ok (.iadd, 1) := by decide +kernel
theorem dL_law_653 : decode cL_law 653 = .ok (.iaload, 1) := by decide +kernel
theorem dL_law_654 : decode cL_law 654 = .ok (.invokevirtual 65, 3) := by decide +kernel
theorem dL_law_657 : decode cL_law 657 = .ok (.aload_n 2, 1) := by decide +kernel
theorem dL_law_658 : decode cL_law 658 = .ok (.aload_n 0, 1) := by decide +kernel
theorem dL_law_659 : decode cL_law 659 = .ok (.iload_n 3, 1) := by decide +kernel
theorem dL_law_660 : decode cL_law 660 = .ok (.iconst 1, 1) := by decide +kernel
theorem dL_law_661 : decode cL_law 661 = .ok (.iadd, 1) := by decide +kernel
theorem dL_law_662 : decode cL_law 662 = .ok (.iaload, 1) := by decide +kernel
theorem dL_law_663 : decode cL_law 663 = .ok (.invokevirtual 69, 3) := by decide +kernel
theorem dL_law_666 : decode cL_law 666 = .ok (.if_icmp .eq 579, 3) := by decide +kernel
theorem dL_law_669 : decode cL_law 669 = .ok (.iconst 0, 1) := by decide +kernel
theorem dL_law_670 : decode cL_law 670 = .ok (.ireturn, 1) := by decide +kernel
theorem dL_law_671 : decode cL_law 671 = .ok (.aload_n 1, 1) := by decide +kernel
theorem dL_law_672 : decode cL_law 672 = .ok (.aload_n 0, 1) := by decide +kernel
theorem dL_law_673 : decode cL_law 673 = .ok (.iload_n 3, 1) := by decide +kernel
theorem dL_law_674 : decode cL_law 674 = .ok (.iconst 1, 1) := by decide +kernel
theorem dL_law_675 : decode cL_law 675 = .ok (.iadd, 1) := by decide +kernel
theorem dL_law_676 : decode cL_law 676 = .ok (.iaload, 1) := by decide +kernel
theorem dL_law_677 : decode cL_law 677 = .ok (.aload_n 0, 1) := by decide +kernel
theorem dL_law_678 : decode cL_law 678 = .ok (.iload_n 3, 1) := by decide +kernel
theorem dL_law_679 : decode cL_law 679 = .ok (.iconst 2, 1) := by decide +kernel
theorem dL_law_680 : decode cL_law 680 = .ok (.iadd, 1) := by decide +kernel
theorem dL_law_681 : decode cL_law 681 = .ok (.iaload, 1) := by decide +kernel
theorem dL_law_682 : decode cL_law 682 = .ok (.invokevirtual 70, 3) := by decide +kernel
theorem dL_law_685 : decode cL_law 685 = .ok (.aload_n 2, 1) := by decide +kernel
theorem dL_law_686 : decode cL_law 686 = .ok (.aload_n 0, 1) := by decide +kernel
theorem dL_law_687 : decode cL_law 687 = .ok (.iload_n 3, 1) := by decide +kernel
theorem dL_law_688 : decode cL_law 688 = .ok (.iconst 1, 1) := by decide +kernel
theorem dL_law_689 : decode cL_law 689 = .ok (.iadd, 1) := by decide +kernel
theorem dL_law_690 : decode cL_law 690 = .ok (.iaload, 1) := by decide +kernel
theorem dL_law_691 : decode cL_law 691 = .ok (.aload_n 0, 1) := by decide +kernel
theorem dL_law_692 : decode cL_law 692 = .ok (.iload_n 3, 1) := by decide +kernel
theorem dL_law_693 : decode cL_law 693 = .ok (.iconst 2, 1) := by decide +kernel
theorem dL_law_694 : decode cL_law 694 = .ok (.iadd, 1) := by decide +kernel
theorem dL_law_695 : decode cL_law 695 = .ok (.iaload, 1) := by decide +kernel
theorem dL_law_696 : decode cL_law 696 = .ok (.invokevirtual 73, 3) := by decide +kernel
theorem dL_law_699 : decode cL_law 699 = .ok (.if_icmp .eq 546, 3) := by decide +kernel
theorem dL_law_702 : decode cL_law 702 = .ok (.iconst 0, 1) := by decide +kernel
theorem dL_law_703 : decode cL_law 703 = .ok (.ireturn, 1) := by decide +kernel
theorem dL_law_704 : decode cL_law 704 = .ok (.aload_n 1, 1) := by decide +kernel
theorem dL_law_705 : decode cL_law 705 = .ok (.aload_n 0, 1) := by decide +kernel
theorem dL_law_706 : decode cL_law 706 = .ok (.iload_n 3, 1) := by decide +kernel
theorem dL_law_707 : decode cL_law 707 = .ok (.iconst 1, 1) := by decide +kernel
theorem dL_law_708 : decode cL_law 708 = .ok (.iadd, 1) := by decide +kernel
theorem dL_law_709 : decode cL_law 709 = .ok (.iaload, 1) := by decide +kernel
theorem dL_law_710 : decode cL_law 710 = .ok (.aload_n 0, 1) := by decide +kernel
theorem dL_law_711 : decode cL_law 711 = .ok (.iload_n 3, 1) := by decide +kernel
theorem dL_law_712 : decode cL_law 712 = .ok (.iconst 2, 1) := by decide +kernel
theorem dL_law_713 : decode cL_law 713 = .ok (.iadd, 1) := by decide +kernel
theorem dL_law_714 : decode cL_law 714 = .ok (.iaload, 1) := by decide +kernel
theorem dL_law_715 : decode cL_law 715 = .ok (.invokevirtual 74, 3) := by decide +kernel
theorem dL_law_718 : decode cL_law 718 = .ok (.aload_n 2, 1) := by decide +kernel
theorem dL_law_719 : decode cL_law 719 = .ok (.aload_n 0, 1) := by decide +kernel
theorem dL_law_720 : decode cL_law 720 = .ok (.iload_n 3, 1) := by decide +kernel
theorem dL_law_721 : decode cL_law 721 = .ok (.iconst 1, 1) := by decide +kernel
theorem dL_law_722 : decode cL_law 722 = .ok (.iadd, 1) := by decide +kernel
theorem dL_law_723 : decode cL_law 723 = .ok (.iaload, 1) := by decide +kernel
theorem dL_law_724 : decode cL_law 724 = .ok (.aload_n 0, 1) := by decide +kernel
theorem dL_law_725 : decode cL_law 725 = .ok (.iload_n 3, 1) := by decide +kernel
theorem dL_law_726 : decode cL_law 726 = .ok (.iconst 2, 1) := by decide +kernel
theorem dL_law_727 : decode cL_law 727 = .ok (.iadd, 1) := by decide +kernel
theorem dL_law_728 : decode cL_law 728 = .ok (.iaload, 1) := by decide +kernel
theorem dL_law_729 : decode cL_law 729 = .ok (.invokevirtual 77, 3) := by decide +kernel
theorem dL_law_732 : decode cL_law 732 = .ok (.if_icmp .eq 513, 3) := by decide +kernel
theorem dL_law_735 : decode cL_law 735 = .ok (.iconst 0, 1) := by decide +kernel
theorem dL_law_736 : decode cL_law 736 = .ok (.ireturn, 1) := by decide +kernel
theorem dL_law_737 : decode cL_law 737 = .ok (.aload_n 1, 1) := by decide +kernel
theorem dL_law_738 : decode cL_law 738 = .ok (.aload_n 0, 1) := by decide +kernel
theorem dL_law_739 : decode cL_law 739 = .ok (.iload_n 3, 1) := by decide +kernel
theorem dL_law_740 : decode cL_law 740 = .ok (.iconst 1, 1) := by decide +kernel
theorem dL_law_741 : decode cL_law 741 = .ok (.iadd, 1) := by decide +kernel
theorem dL_law_742 : decode cL_law 742 = .ok (.iaload, 1) := by decide +kernel
theorem dL_law_743 : decode cL_law 743 = .ok (.aload_n 0, 1) := by decide +kernel
theorem dL_law_744 : decode cL_law 744 = .ok (.iload_n 3, 1) := by decide +kernel
theorem dL_law_745 : decode cL_law 745 = .ok (.iconst 2, 1) := by decide +kernel
theorem dL_law_746 : decode cL_law 746 = .ok (.iadd, 1) := by decide +kernel
theorem dL_law_747 : decode cL_law 747 = .ok (.iaload, 1) := by decide +kernel
theorem dL_law_748 : decode cL_law 748 = .ok (.aload_n 0, 1) := by decide +kernel
theorem dL_law_749 : decode cL_law 749 = .ok (.iload_n 3, 1) := by decide +kernel
theorem dL_law_750 : decode cL_law 750 = .ok (.iconst 3, 1) := by decide +kernel
theorem dL_law_751 : decode cL_law 751 = .ok (.iadd, 1) := by decide +kernel
theorem dL_law_752 : decode cL_law 752 = .ok (.iaload, 1) := by decide +kernel
theorem dL_law_753 : decode cL_law 753 = .ok (.invokevirtual 78, 3) := by decide +kernel
theorem dL_law_756 : decode cL_law 756 = .ok (.aload_n 2, 1) := by decide +kernel
theorem dL_law_757 : decode cL_law 757 = .ok (.aload_n 0, 1) := by decide +kernel
theorem dL_law_758 : decode cL_law 758 = .ok (.iload_n 3, 1) := by decide +kernel
theorem dL_law_759 : decode cL_law 759 = .ok (.iconst 1, 1) := by decide +kernel
theorem dL_law_760 : decode cL_law 760 = .ok (.iadd, 1) := by decide +kernel
theorem dL_law_761 : decode cL_law 761 = .ok (.iaload, 1) := by decide +kernel
theorem dL_law_762 : decode cL_law 762 = .ok (.aload_n 0, 1) := by decide +kernel
theorem dL_law_763 : decode cL_law 763 = .ok (.iload_n 3, 1) := by decide +kernel
theorem dL_law_764 : decode cL_law 764 = .ok (.iconst 2, 1) := by decide +kernel
theorem dL_law_765 : decode cL_law 765 = .ok (.iadd, 1) := by decide +kernel
theorem dL_law_766 : decode cL_law 766 = .ok (.iaload, 1) := by decide +kernel
theorem dL_law_767 : decode cL_law 767 = .ok (.aload_n 0, 1) := by decide +kernel
theorem dL_law_768 : decode cL_law 768 = .ok (.iload_n 3, 1) := by decide +kernel
theorem dL_law_769 : decode cL_law 769 = .ok (.iconst 3, 1) := by decide +kernel
theorem dL_law_770 : decode cL_law 770 = .ok (.iadd, 1) := by decide +kernel
theorem dL_law_771 : decode cL_law 771 = .ok (.iaload, 1) := by decide +kernel
theorem dL_law_772 : decode cL_law 772 = .ok (.invokevirtual 81, 3) := by decide +kernel
theorem dL_law_775 : decode cL_law 775 = .ok (.if_icmp .eq 470, 3) := by decide +kernel
theorem dL_law_778 : decode cL_law 778 = .ok (.iconst 0, 1) := by decide +kernel
theorem dL_law_779 : decode cL_law 779 = .ok (.ireturn, 1) := by decide +kernel
theorem dL_law_780 : decode cL_law 780 = .ok (.aload_n 1, 1) := by decide +kernel
theorem dL_law_781 : decode cL_law 781 = .ok (.aload_n 0, 1) := by decide +kernel
theorem dL_law_782 : decode cL_law 782 = .ok (.iload_n 3, 1) := by decide +kernel
theorem dL_law_783 : decode cL_law 783 = .ok (.iconst 1, 1) := by decide +kernel
theorem dL_law_784 : decode cL_law 784 = .ok (.iadd, 1) := by decide +kernel
theorem dL_law_785 : decode cL_law 785 = .ok (.iaload, 1) := by decide +kernel
theorem dL_law_786 : decode cL_law 786 = .ok (.invokevirtual 82, 3) := by decide +kernel
theorem dL_law_789 : decode cL_law 789 = .ok (.aload_n 2, 1) := by decide +kernel
theorem dL_law_790 : decode cL_law 790 = .ok (.aload_n 0, 1) := by decide +kernel
theorem dL_law_791 : decode cL_law 791 = .ok (.iload_n 3, 1) := by decide +kernel
theorem dL_law_792 : decode cL_law 792 = .ok (.iconst 1, 1) := by decide +kernel
theorem dL_law_793 : decode cL_law 793 = .ok (.iadd, 1) := by decide +kernel
theorem dL_law_794 : decode cL_law 794 = .ok (.iaload, 1) := by decide +kernel
theorem dL_law_795 : decode cL_law 795 = .ok (.invokevirtual 85, 3) := by decide +kernel
theorem dL_law_798 : decode cL_law 798 = .ok (.if_icmp .eq 447, 3) := by decide +kernel
theorem dL_law_801 : decode cL_law 801 = .ok (.iconst 0, 1) := by decide +kernel
theorem dL_law_802 : decode cL_law 802 = .ok (.ireturn, 1) := by decide +kernel
theorem dL_law_803 : decode cL_law 803 = .ok (.aload_n 1, 1) := by decide +kernel
theorem dL_law_804 : decode cL_law 804 = .ok (.aload_n 0, 1) := by decide +kernel
theorem dL_law_805 : decode cL_law 805 = .ok (.iload_n 3, 1) := by decide +kernel
theorem dL_law_806 : decode cL_law 806 = .ok (.iconst 1, 1) := by decide +kernel
theorem dL_law_807 : decode cL_law 807 = .ok (.iadd, 1) := by decide +kernel
theorem dL_law_808 : decode cL_law 808 = .ok (.iaload, 1) := by decide +kernel
theorem dL_law_809 : decode cL_law 809 = .ok (.aload_n 0, 1) := by decide +kernel
theorem dL_law_810 : decode cL_law 810 = .ok (.iload_n 3, 1) := by decide +kernel
theorem dL_law_811 : decode cL_law 811 = .ok (.iconst 2, 1) := by decide +kernel
theorem dL_law_812 : decode cL_law 812 = .ok (.iadd, 1) := by decide +kernel
theorem dL_law_813 : decode cL_law 813 = .ok (.iaload, 1) := by decide +kernel
theorem dL_law_814 : decode cL_law 814 = .ok (.invokevirtual 86, 3) := by decide +kernel
theorem dL_law_817 : decode cL_law 817 = .ok (.aload_n 2, 1) := by decide +kernel
theorem dL_law_818 : decode cL_law 818 = .ok (.aload_n 0, 1) := by decide +kernel
theorem dL_law_819 : decode cL_law 819 = .ok (.iload_n 3, 1) := by decide +kernel
theorem dL_law_820 : decode cL_law 820 = .ok (.iconst 1, 1) := by decide +kernel
theorem dL_law_821 : decode cL_law 821 = .ok (.iadd, 1) := by decide +kernel
theorem dL_law_822 : decode cL_law 822 = .ok (.iaload, 1) := by decide +kernel
theorem dL_law_823 : decode cL_law 823 = .ok (.aload_n 0, 1) := by decide +kernel
theorem dL_law_824 : decode cL_law 824 = .ok (.iload_n 3, 1) := by decide +kernel
theorem dL_law_825 : decode cL_law 825 = .ok (.iconst 2, 1) := by decide +kernel
theorem dL_law_826 : decode cL_law 826 = .ok (.iadd, 1) := by decide +kernel
theorem dL_law_827 : decode cL_law 827 = .ok (.iaload, 1) := by decide +kernel
theorem dL_law_828 : decode cL_law 828 = .ok (.invokevirtual 89, 3) := by decide +kernel
theorem dL_law_831 : decode cL_law 831 = .ok (.if_icmp .eq 414, 3) := by decide +kernel
theorem dL_law_834 : decode cL_law 834 = .ok (.iconst 0, 1) := by decide +kernel
theorem dL_law_835 : decode cL_law 835 = .ok (.ireturn, 1) := by decide +kernel
theorem dL_law_836 : decode cL_law 836 = .ok (.aload_n 1, 1) := by decide +kernel
theorem dL_law_837 : decode cL_law 837 = .ok (.aload_n 0, 1) := by decide +kernel
theorem dL_law_838 : decode cL_law 838 = .ok (.iload_n 3, 1) := by decide +kernel
theorem dL_law_839 : decode cL_law 839 = .ok (.iconst 1, 1) := by decide +kernel
theorem dL_law_840 : decode cL_law 840 = .ok (.iadd, 1) := by decide +kernel
theorem dL_law_841 : decode cL_law 841 = .ok (.iaload, 1) := by decide +kernel
theorem dL_law_842 : decode cL_law 842 = .ok (.aload_n 0, 1) := by decide +kernel
theorem dL_law_843 : decode cL_law 843 = .ok (.iload_n 3, 1) := by decide +kernel
theorem dL_law_844 : decode cL_law 844 = .ok (.iconst 2, 1) := by decide +kernel
theorem dL_law_845 : decode cL_law 845 = .ok (.iadd, 1) := by decide +kernel
theorem dL_law_846 : decode cL_law 846 = .ok (.iaload, 1) := by decide +kernel
theorem dL_law_847 : decode cL_law 847 = .ok (.invokevirtual 90, 3) := by decide +kernel
theorem dL_law_850 : decode cL_law 850 = .ok (.aload_n 2, 1) := by decide +kernel
theorem dL_law_851 : decode cL_law 851 = .ok (.aload_n 0, 1) := by decide +kernel
theorem dL_law_852 : decode cL_law 852 = .ok (.iload_n 3, 1) := by decide +kernel
theorem dL_law_853 : decode cL_law 853 = .ok (.iconst 1, 1) := by decide +kernel
theorem dL_law_854 : decode cL_law 854 = .ok (.iadd, 1) := by decide +kernel
theorem dL_law_855 : decode cL_law 855 = .ok (.iaload, 1) := by decide +kernel
theorem dL_law_856 : decode cL_law 856 = .ok (.aload_n 0, 1) := by decide +kernel
theorem dL_law_857 : decode cL_law 857 = .ok (.iload_n 3, 1) := by decide +kernel
theorem dL_law_858 : decode cL_law 858 = .ok (.iconst 2, 1) := by decide +kernel
theorem dL_law_859 : decode cL_law 859 = .ok (.iadd, 1) := by decide +kernel
theorem dL_law_860 : decode cL_law 860 = .ok (.iaload, 1) := by decide +kernel
theorem dL_law_861 : decode cL_law 861 = .ok (.invokevirtual 93, 3) := by decide +kernel
theorem dL_law_864 : decode cL_law 864 = .ok (.if_icmp .eq 381, 3) := by decide +kernel
theorem dL_law_867 : decode cL_law 867 = .ok (.iconst 0, 1) := by decide +kernel
theorem dL_law_868 : decode cL_law 868 = .ok (.ireturn, 1) := by decide +kernel
theorem dL_law_869 : decode cL_law 869 = .ok (.aload_n 1, 1) := by decide +kernel
theorem dL_law_870 : decode cL_law 870 = .ok (.aload_n 0, 1) := by decide +kernel
theorem dL_law_871 : decode cL_law 871 = .ok (.iload_n 3, 1) := by decide +kernel
theorem dL_law_872 : decode cL_law 872 = .ok (.iconst 1, 1) := by decide +kernel
theorem dL_law_873 : decode cL_law 873 = .ok (.iadd, 1) := by decide +kernel
theorem dL_law_874 : decode cL_law 874 = .ok (.iaload, 1) := by decide +kernel
theorem dL_law_875 : decode cL_law 875 = .ok (.aload_n 0, 1) := by decide +kernel
theorem dL_law_876 : decode cL_law 876 = .ok (.iload_n 3, 1) := by decide +kernel
theorem dL_law_877 : decode cL_law 877 = .ok (.iconst 2, 1) := by decide +kernel
theorem dL_law_878 : decode cL_law 878 = .ok (.iadd, 1) := by decide +kernel
theorem dL_law_879 : decode cL_law 879 = .ok (.iaload, 1) := by decide +kernel
theorem dL_law_880 : decode cL_law 880 = .ok (.invokevirtual 94, 3) := by decide +kernel
theorem dL_law_883 : decode cL_law 883 = .ok (.aload_n 2, 1) := by decide +kernel
theorem dL_law_884 : decode cL_law 884 = .ok (.aload_n 0, 1) := by decide +kernel
theorem dL_law_885 : decode cL_law 885 = .ok (.iload_n 3, 1) := by decide +kernel
theorem dL_law_886 : decode cL_law 886 = .ok (.iconst 1, 1) := by decide +kernel
theorem dL_law_887 : decode cL_law 887 = .ok (.iadd, 1) := by decide +kernel
theorem dL_law_888 : decode cL_law 888 = .ok (.iaload, 1) := by decide +kernel
theorem dL_law_889 : decode cL_law 889 = .ok (.aload_n 0, 1) := by decide +kernel
theorem dL_law_890 : decode cL_law 890 = .ok (.iload_n 3, 1) := by decide +kernel
theorem dL_law_891 : decode cL_law 891 = .ok (.iconst 2, 1) := by decide +kernel
theorem dL_law_892 : decode cL_law 892 = .ok (.iadd, 1) := by decide +kernel
theorem dL_law_893 : decode cL_law 893 = .ok (.iaload, 1) := by decide +kernel
theorem dL_law_894 : decode cL_law 894 = .ok (.invokevirtual 97, 3) := by decide +kernel
theorem dL_law_897 : decode cL_law 897 = .ok (.if_icmp .eq 348, 3) := by decide +kernel
theorem dL_law_900 : decode cL_law 900 = .ok (.iconst 0, 1) := by decide +kernel
theorem dL_law_901 : decode cL_law 901 = .ok (.ireturn, 1) := by decide +kernel
theorem dL_law_902 : decode cL_law 902 = .ok (.aload_n 1, 1) := by decide +kernel
theorem dL_law_903 : decode cL_law 903 = .ok (.aload_n 0, 1) := by decide +kernel
theorem dL_law_904 : decode cL_law 904 = .ok (.iload_n 3, 1) := by decide +kernel
theorem dL_law_905 : decode cL_law 905 = .ok (.iconst 1, 1) := by decide +kernel
theorem dL_law_906 : decode cL_law 906 = .ok (.iadd, 1) := by decide +kernel
theorem dL_law_907 : decode cL_law 907 = .ok (.iaload, 1) := by decide +kernel
theorem dL_law_908 : decode cL_law 908 = .ok (.invokevirtual 98, 3) := by decide +kernel
theorem dL_law_911 : decode cL_law 911 = .ok (.aload_n 2, 1) := by decide +kernel
theorem dL_law_912 : decode cL_law 912 = .ok (.aload_n 0, 1) := by decide +kernel
theorem dL_law_913 : decode cL_law 913 = .ok (.iload_n 3, 1) := by decide +kernel
theorem dL_law_914 : decode cL_law 914 = .ok (.iconst 1, 1) := by decide +kernel
theorem dL_law_915 : decode cL_law 915 = .ok (.iadd, 1) := by decide +kernel
theorem dL_law_916 : decode cL_law 916 = .ok (.iaload, 1) := by decide +kernel
theorem dL_law_917 : decode cL_law 917 = .ok (.invokevirtual 101, 3) := by decide +kernel
theorem dL_law_920 : decode cL_law 920 = .ok (.if_icmp .eq 325, 3) := by decide +kernel
theorem dL_law_923 : decode cL_law 923 = .ok (.iconst 0, 1) := by decide +kernel
theorem dL_law_924 : decode cL_law 924 = .ok (.ireturn, 1) := by decide +kernel
theorem dL_law_925 : decode cL_law 925 = .ok (.aload_n 1, 1) := by decide +kernel
theorem dL_law_926 : decode cL_law 926 = .ok (.aload_n 0, 1) := by decide +kernel
theorem dL_law_927 : decode cL_law 927 = .ok (.iload_n 3, 1) := by decide +kernel
theorem dL_law_928 : decode cL_law 928 = .ok (.iconst 1, 1) := by decide +kernel
theorem dL_law_929 : decode cL_law 929 = .ok (.iadd, 1) := by decide +kernel
theorem dL_law_930 : decode cL_law 930 = .ok (.iaload, 1) := by decide +kernel
theorem dL_law_931 : decode cL_law 931 = .ok (.aload_n 0, 1) := by decide +kernel
theorem dL_law_932 : decode cL_law 932 = .ok (.iload_n 3, 1) := by decide +kernel
theorem dL_law_933 : decode cL_law 933 = .ok (.iconst 2, 1) := by decide +kernel
theorem dL_law_934 : decode cL_law 934 = .ok (.iadd, 1) := by decide +kernel
theorem dL_law_935 : decode cL_law 935 = .ok (.iaload, 1) := by decide +kernel
theorem dL_law_936 : decode cL_law 936 = .ok (.aload_n 0, 1) := by decide +kernel
theorem dL_law_937 : decode cL_law 937 = .ok (.iload_n 3, 1) := by decide +kernel
theorem dL_law_938 : decode cL_law 938 = .ok (.iconst 3, 1) := by decide +kernel
theorem dL_law_939 : decode cL_law 939 = .ok (.iadd, 1) := by decide +kernel
theorem dL_law_940 : decode cL_law 940 = .ok (.iaload, 1) := by decide +kernel
theorem dL_law_941 : decode cL_law 941 = .ok (.invokevirtual 102, 3) := by decide +kernel
theorem dL_law_944 : decode cL_law 944 = .ok (.aload_n 2, 1) := by decide +kernel
theorem dL_law_945 : decode cL_law 945 = .ok (.aload_n 0, 1) := by decide +kernel
theorem dL_law_946 : decode cL_law 946 = .ok (.iload_n 3, 1) := by decide +kernel
theorem dL_law_947 : decode cL_law 947 = .ok (.iconst 1, 1) := by decide +kernel
theorem dL_law_948 : decode cL_law 948 = .ok (.iadd, 1) := by decide +kernel
theorem dL_law_949 : decode cL_law 949 = .ok (.iaload, 1) := by decide +kernel
theorem dL_law_950 : decode cL_law 950 = .ok (.aload_n 0, 1) := by decide +kernel
theorem dL_law_951 : decode cL_law 951 = .ok (.iload_n 3, 1) := by decide +kernel
theorem dL_law_952 : decode cL_law 952 = .ok (.iconst 2, 1) := by decide +kernel
theorem dL_law_953 : decode cL_law 953 = .ok (.iadd, 1) := by decide +kernel
theorem dL_law_954 : decode cL_law 954 = .ok (.iaload, 1) := by decide +kernel
theorem dL_law_955 : decode cL_law 955 = .ok (.aload_n 0, 1) := by decide +kernel
theorem dL_law_956 : decode cL_law 956 = .ok (.iload_n 3, 1) := by decide +kernel
theorem dL_law_957 : decode cL_law 957 = .ok (.iconst 3, 1) := by decide +kernel
theorem dL_law_958 : decode cL_law 958 = .ok (.iadd, 1) := by decide +kernel
theorem dL_law_959 : decode cL_law 959 = .ok (.iaload, 1) := by decide +kernel
theorem dL_law_960 : decode cL_law 960 = .ok (.invokevirtual 105, 3) := by decide +kernel
theorem dL_law_963 : decode cL_law 963 = .ok (.if_icmp .eq 282, 3) := by decide +kernel
theorem dL_law_966 : decode cL_law 966 = .ok (.iconst 0, 1) := by decide +kernel
theorem dL_law_967 : decode cL_law 967 = .ok (.ireturn, 1) := by decide +kernel
theorem dL_law_968 : decode cL_law 968 = .ok (.aload_n 1, 1) := by decide +kernel
theorem dL_law_969 : decode cL_law 969 = .ok (.aload_n 0, 1) := by decide +kernel
theorem dL_law_970 : decode cL_law 970 = .ok (.iload_n 3, 1) := by decide +kernel
theorem dL_law_971 : decode cL_law 971 = .ok (.iconst 1, 1) := by decide +kernel
theorem dL_law_972 : decode cL_law 972 = .ok (.iadd, 1) := by decide +kernel
theorem dL_law_973 : decode cL_law 973 = .ok (.iaload, 1) := by decide +kernel
theorem dL_law_974 : decode cL_law 974 = .ok (.aload_n 0, 1) := by decide +kernel
theorem dL_law_975 : decode cL_law 975 = .ok (.iload_n 3, 1) := by decide +kernel
theorem dL_law_976 : decode cL_law 976 = .ok (.iconst 2, 1) := by decide +kernel
theorem dL_law_977 : decode cL_law 977 = .ok (.iadd, 1) := by decide +kernel
theorem dL_law_978 : decode cL_law 978 = .ok (.iaload, 1) := by decide +kernel
theorem dL_law_979 : decode cL_law 979 = .ok (.invokevirtual 106, 3) := by decide +kernel
theorem dL_law_982 : decode cL_law 982 = .ok (.aload_n 2, 1) := by decide +kernel
theorem dL_law_983 : decode cL_law 983 = .ok (.aload_n 0, 1) := by decide +kernel
theorem dL_law_984 : decode cL_law 984 = .ok (.iload_n 3, 1) := by decide +kernel
theorem dL_law_985 : decode cL_law 985 = .ok (.iconst 1, 1) := by decide +kernel
theorem dL_law_986 : decode cL_law 986 = .ok (.iadd, 1) := by decide +kernel
theorem dL_law_987 : decode cL_law 987 = .ok (.iaload, 1) := by decide +kernel
theorem dL_law_988 : decode cL_law 988 = .ok (.aload_n 0, 1) := by decide +kernel
theorem dL_law_989 : decode cL_law 989 = .ok (.iload_n 3, 1) := by decide +kernel
theorem dL_law_990 : decode cL_law 990 = .ok (.iconst 2, 1) := by decide +kernel
theorem dL_law_991 : decode cL_law 991 = .ok (.iadd, 1) := by decide +kernel
theorem dL_law_992 : decode cL_law 992 = .ok (.iaload, 1) := by decide +kernel
theorem dL_law_993 : decode cL_law 993 = .ok (.invokevirtual 109, 3) := by decide +kernel
theorem dL_law_996 : decode cL_law 996 = .ok (.if_icmp .eq 249, 3) := by decide +kernel
theorem dL_law_999 : decode cL_law 999 = .ok (.iconst 0, 1) := by decide +kernel
theorem dL_law_1000 : decode cL_law 1000 = .ok (.ireturn, 1) := by decide +kernel
theorem dL_law_1001 : decode cL_law 1001 = .ok (.aload_n 1, 1) := by decide +kernel
theorem dL_law_1002 : decode cL_law 1002 = .ok (.aload_n 0, 1) := by decide +kernel
theorem dL_law_1003 : decode cL_law 1003 = .ok (.iload_n 3, 1) := by decide +kernel
theorem dL_law_1004 : decode cL_law 1004 = .ok (.iconst 1, 1) := by decide +kernel
theorem dL_law_1005 : decode cL_law 1005 = .ok (.iadd, 1) := by decide +kernel
theorem dL_law_1006 : decode cL_law 1006 = .ok (.iaload, 1) := by decide +kernel
theorem dL_law_1007 : decode cL_law 1007 = .ok (.invokevirtual 110, 3) := by decide +kernel
theorem dL_law_1010 : decode cL_law 1010 = .ok (.aload_n 2, 1) := by decide +kernel
theorem dL_law_1011 : decode cL_law 1011 = .ok (.aload_n 0, 1) := by decide +kernel
theorem dL_law_1012 : decode cL_law 1012 = .ok (.iload_n 3, 1) := by decide +kernel
theorem dL_law_1013 : decode cL_law 1013 = .ok (.iconst 1, 1) := by decide +kernel
theorem dL_law_1014 : decode cL_law 1014 = .ok (.iadd, 1) := by decide +kernel
theorem dL_law_1015 : decode cL_law 1015 = .ok (.iaload, 1) := by decide +kernel
theorem dL_law_1016 : decode cL_law 1016 = .ok (.invokevirtual 113, 3) := by decide +kernel
theorem dL_law_1019 : decode cL_law 1019 = .ok (.if_icmp .eq 226, 3) := by decide +kernel
theorem dL_law_1022 : decode cL_law 1022 = .ok (.iconst 0, 1) := by decide +kernel
theorem dL_law_1023 : decode cL_law 1023 = .ok (.ireturn, 1) := by decide +kernel
theorem dL_law_1024 : decode cL_law 1024 = .ok (.aload_n 1, 1) := by decide +kernel
theorem dL_law_1025 : decode cL_law 1025 = .ok (.aload_n 0, 1) := by decide +kernel
theorem dL_law_1026 : decode cL_law 1026 = .ok (.iload_n 3, 1) := by decide +kernel
theorem dL_law_1027 : decode cL_law 1027 = .ok (.iconst 1, 1) := by decide +kernel
theorem dL_law_1028 : decode cL_law 1028 = .ok (.iadd, 1) := by decide +kernel
theorem dL_law_1029 : decode cL_law 1029 = .ok (.iaload, 1) := by decide +kernel
theorem dL_law_1030 : decode cL_law 1030 = .ok (.aload_n 0, 1) := by decide +kernel
theorem dL_law_1031 : decode cL_law 1031 = .ok (.iload_n 3, 1) := by decide +kernel
theorem dL_law_1032 : decode cL_law 1032 = .ok (.iconst 2, 1) := by decide +kernel
theorem dL_law_1033 : decode cL_law 1033 = .ok (.iadd, 1) := by decide +kernel
theorem dL_law_1034 : decode cL_law 1034 = .ok (.iaload, 1) := by decide +kernel
theorem dL_law_1035 : decode cL_law 1035 = .ok (.invokevirtual 114, 3) := by decide +kernel
theorem dL_law_1038 : decode cL_law 1038 = .ok (.aload_n 2, 1) := by decide +kernel
theorem dL_law_1039 : decode cL_law 1039 = .ok (.aload_n 0, 1) := by decide +kernel
theorem dL_law_1040 : decode cL_law 1040 = .ok (.iload_n 3, 1) := by decide +kernel
theorem dL_law_1041 : decode cL_law 1041 = .ok (.iconst 1, 1) := by decide +kernel
theorem dL_law_1042 : decode cL_law 1042 = .ok (.iadd, 1) := by decide +kernel
theorem dL_law_1043 : decode cL_law 1043 = .ok (.iaload, 1) := by decide +kernel
theorem dL_law_1044 : decode cL_law 1044 = .ok (.aload_n 0, 1) := by decide +kernel
theorem dL_law_1045 : decode cL_law 1045 = .ok (.iload_n 3, 1) := by decide +kernel
theorem dL_law_1046 : decode cL_law 1046 = .ok (.iconst 2, 1) := by decide +kernel
theorem dL_law_1047 : decode cL_law 1047 = .ok (.iadd, 1) := by decide +kernel
theorem dL_law_1048 : decode cL_law 1048 = .ok (.iaload, 1) := by decide +kernel
theorem dL_law_1049 : decode cL_law 1049 = .ok (.invokevirtual 117, 3) := by decide +kernel
theorem dL_law_1052 : decode cL_law 1052 = .ok (.if_icmp .eq 193, 3) := by decide +kernel
theorem dL_law_1055 : decode cL_law 1055 = .ok (.iconst 0, 1) := by decide +kernel
theorem dL_law_1056 : decode cL_law 1056 = .ok (.ireturn, 1) := by decide +kernel
theorem dL_law_1057 : decode cL_law 1057 = .ok (.aload_n 1, 1) := by decide +kernel
theorem dL_law_1058 : decode cL_law 1058 = .ok (.aload_n 0, 1) := by decide +kernel
theorem dL_law_1059 : decode cL_law 1059 = .ok (.iload_n 3, 1) := by decide +kernel
theorem dL_law_1060 : decode cL_law 1060 = .ok (.iconst 1, 1) := by decide +kernel
theorem dL_law_1061 : decode cL_law 1061 = .ok (.iadd, 1) := by decide +kernel
theorem dL_law_1062 : decode cL_law 1062 = .ok (.iaload, 1) := by decide +kernel
theorem dL_law_1063 : decode cL_law 1063 = .ok (.aload_n 0, 1) := by decide +kernel
theorem dL_law_1064 : decode cL_law 1064 = .ok (.iload_n 3, 1) := by decide +kernel
theorem dL_law_1065 : decode cL_law 1065 = .ok (.iconst 2, 1) := by decide +kernel
theorem dL_law_1066 : decode cL_law 1066 = .ok (.iadd, 1) := by decide +kernel
theorem dL_law_1067 : decode cL_law 1067 = .ok (.iaload, 1) := by decide +kernel
theorem dL_law_1068 : decode cL_law 1068 = .ok (.aload_n 0, 1) := by decide +kernel
theorem dL_law_1069 : decode cL_law 1069 = .ok (.iload_n 3, 1) := by decide +kernel
theorem dL_law_1070 : decode cL_law 1070 = .ok (.iconst 3, 1) := by decide +kernel
theorem dL_law_1071 : decode cL_law 1071 = .ok (.iadd, 1) := by decide +kernel
theorem dL_law_1072 : decode cL_law 1072 = .ok (.iaload, 1) := by decide +kernel
theorem dL_law_1073 : decode cL_law 1073 = .ok (.invokevirtual 118, 3) := by decide +kernel
theorem dL_law_1076 : decode cL_law 1076 = .ok (.aload_n 2, 1) := by decide +kernel
theorem dL_law_1077 : decode cL_law 1077 = .ok (.aload_n 0, 1) := by decide +kernel
theorem dL_law_1078 : decode cL_law 1078 = .ok (.iload_n 3, 1) := by decide +kernel
theorem dL_law_1079 : decode cL_law 1079 = .ok (.iconst 1, 1) := by decide +kernel
theorem dL_law_1080 : decode cL_law 1080 = .ok (.iadd, 1) := by decide +kernel
theorem dL_law_1081 : decode cL_law 1081 = .ok (.iaload, 1) := by decide +kernel
theorem dL_law_1082 : decode cL_law 1082 = .ok (.aload_n 0, 1) := by decide +kernel
theorem dL_law_1083 : decode cL_law 1083 = .ok (.iload_n 3, 1) := by decide +kernel
theorem dL_law_1084 : decode cL_law 1084 = .ok (.iconst 2, 1) := by decide +kernel
theorem dL_law_1085 : decode cL_law 1085 = .ok (.iadd, 1) := by decide +kernel
theorem dL_law_1086 : decode cL_law 1086 = .ok (.iaload, 1) := by decide +kernel
theorem dL_law_1087 : decode cL_law 1087 = .ok (.aload_n 0, 1) := by decide +kernel
theorem dL_law_1088 : decode cL_law 1088 = .ok (.iload_n 3, 1) := by decide +kernel
theorem dL_law_1089 : decode cL_law 1089 = .ok (.iconst 3, 1) := by decide +kernel
theorem dL_law_1090 : decode cL_law 1090 = .ok (.iadd, 1) := by decide +kernel
theorem dL_law_1091 : decode cL_law 1091 = .ok (.iaload, 1) := by decide +kernel
theorem dL_law_1092 : decode cL_law 1092 = .ok (.invokevirtual 121, 3) := by decide +kernel
theorem dL_law_1095 : decode cL_law 1095 = .ok (.if_icmp .eq 150, 3) := by decide +kernel
theorem dL_law_1098 : decode cL_law 1098 = .ok (.iconst 0, 1) := by decide +kernel
theorem dL_law_1099 : decode cL_law 1099 = .ok (.ireturn, 1) := by decide +kernel
theorem dL_law_1100 : decode cL_law 1100 = .ok (.aload_n 1, 1) := by decide +kernel
theorem dL_law_1101 : decode cL_law 1101 = .ok (.aload_n 0, 1) := by decide +kernel
theorem dL_law_1102 : decode cL_law 1102 = .ok (.iload_n 3, 1) := by decide +kernel
theorem dL_law_1103 : decode cL_law 1103 = .ok (.iconst 1, 1) := by decide +kernel
theorem dL_law_1104 : decode cL_law 1104 = .ok (.iadd, 1) := by decide +kernel
theorem dL_law_1105 : decode cL_law 1105 = .ok (.iaload, 1) := by decide +kernel
theorem dL_law_1106 : decode cL_law 1106 = .ok (.aload_n 0, 1) := by decide +kernel
theorem dL_law_1107 : decode cL_law 1107 = .ok (.iload_n 3, 1) := by decide +kernel
theorem dL_law_1108 : decode cL_law 1108 = .ok (.iconst 2, 1) := by decide +kernel
theorem dL_law_1109 : decode cL_law 1109 = .ok (.iadd, 1) := by decide +kernel
theorem dL_law_1110 : decode cL_law 1110 = .ok (.iaload, 1) := by decide +kernel
theorem dL_law_1111 : decode cL_law 1111 = .ok (.invokevirtual 122, 3) := by decide +kernel
theorem dL_law_1114 : decode cL_law 1114 = .ok (.aload_n 2, 1) := by decide +kernel
theorem dL_law_1115 : decode cL_law 1115 = .ok (.aload_n 0, 1) := by decide +kernel
theorem dL_law_1116 : decode cL_law 1116 = .ok (.iload_n 3, 1) := by decide +kernel
theorem dL_law_1117 : decode cL_law 1117 = .ok (.iconst 1, 1) := by decide +kernel
theorem dL_law_1118 : decode cL_law 1118 = .ok (.iadd, 1) := by decide +kernel
theorem dL_law_1119 : decode cL_law 1119 = .ok (.iaload, 1) := by decide +kernel
theorem dL_law_1120 : decode cL_law 1120 = .ok (.aload_n 0, 1) := by decide +kernel
theorem dL_law_1121 : decode cL_law 1121 = .ok (.iload_n 3, 1) := by decide +kernel
theorem dL_law_1122 : decode cL_law 1122 = .ok (.iconst 2, 1) := by decide +kernel
theorem dL_law_1123 : decode cL_law 1123 = .ok (.iadd, 1) := by decide +kernel
theorem dL_law_1124 : decode cL_law 1124 = .ok (.iaload, 1) := by decide +kernel
theorem dL_law_1125 : decode cL_law 1125 = .ok (.invokevirtual 125, 3) := by decide +kernel
theorem dL_law_1128 : decode cL_law 1128 = .ok (.if_icmp .eq 117, 3) := by decide +kernel
theorem dL_law_1131 : decode cL_law 1131 = .ok (.iconst 0, 1) := by decide +kernel
theorem dL_law_1132 : decode cL_law 1132 = .ok (.ireturn, 1) := by decide +kernel
theorem dL_law_1133 : decode cL_law 1133 = .ok (.aload_n 1, 1) := by decide +kernel
theorem dL_law_1134 : decode cL_law 1134 = .ok (.aload_n 0, 1) := by decide +kernel
theorem dL_law_1135 : decode cL_law 1135 = .ok (.iload_n 3, 1) := by decide +kernel
theorem dL_law_1136 : decode cL_law 1136 = .ok (.iconst 1, 1) := by decide +kernel
theorem dL_law_1137 : decode cL_law 1137 = .ok (.iadd, 1) := by decide +kernel
theorem dL_law_1138 : decode cL_law 1138 = .ok (.iaload, 1) := by decide +kernel
theorem dL_law_1139 : decode cL_law 1139 = .ok (.invokevirtual 126, 3) := by decide +kernel
theorem dL_law_1142 : decode cL_law 1142 = .ok (.aload_n 2, 1) := by decide +kernel
theorem dL_law_1143 : decode cL_law 1143 = .ok (.aload_n 0, 1) := by decide +kernel
theorem dL_law_1144 : decode cL_law 1144 = .ok (.iload_n 3, 1) := by decide +kernel
theorem dL_law_1145 : decode cL_law 1145 = .ok (.iconst 1, 1) := by decide +kernel
theorem dL_law_1146 : decode cL_law 1146 = .ok (.iadd, 1) := by decide +kernel
theorem dL_law_1147 : decode cL_law 1147 = .ok (.iaload, 1) := by decide +kernel
theorem dL_law_1148 : decode cL_law 1148 = .ok (.invokevirtual 129, 3) := by decide +kernel
theorem dL_law_1151 : decode cL_law 1151 = .ok (.if_icmp .eq 94, 3) := by decide +kernel
theorem dL_law_1154 : decode cL_law 1154 = .ok (.iconst 0, 1) := by decide +kernel
theorem dL_law_1155 : decode cL_law 1155 = .ok (.ireturn, 1) := by decide +kernel
theorem dL_law_1156 : decode cL_law 1156 = .ok (.aload_n 1, 1) := by decide +kernel
theorem dL_law_1157 : decode cL_law 1157 = .ok (.aload_n 0, 1) := by decide +kernel
theorem dL_law_1158 : decode cL_law 1158 = .ok (.iload_n 3, 1) := by decide +kernel
theorem dL_law_1159 : decode cL_law 1159 = .ok (.iconst 1, 1) := by decide +kernel
theorem dL_law_1160 : decode cL_law 1160 = .ok (.iadd, 1) := by decide +kernel
theorem dL_law_1161 : decode cL_law 1161 = .ok (.iaload, 1) := by decide +kernel
theorem dL_law_1162 : decode cL_law 1162 = .ok (.invokevirtual 130, 3) := by decide +kernel
theorem dL_law_1165 : decode cL_law 1165 = .ok (.aload_n 2, 1) := by decide +kernel
theorem dL_law_1166 : decode cL_law 1166 = .ok (.aload_n 0, 1) := by decide +kernel
theorem dL_law_1167 : decode cL_law 1167 = .ok (.iload_n 3, 1) := by decide +kernel
theorem dL_law_1168 : decode cL_law 1168 = .ok (.iconst 1, 1) := by decide +kernel
theorem dL_law_1169 : decode cL_law 1169 = .ok (.iadd, 1) := by decide +kernel
theorem dL_law_1170 : decode cL_law 1170 = .ok (.iaload, 1) := by decide +kernel
theorem dL_law_1171 : decode cL_law 1171 = .ok (.invokevirtual 133, 3) := by decide +kernel
theorem dL_law_1174 : decode cL_law 1174 = .ok (.if_icmp .eq 71, 3) := by decide +kernel
theorem dL_law_1177 : decode cL_law 1177 = .ok (.iconst 0, 1) := by decide +kernel
theorem dL_law_1178 : decode cL_law 1178 = .ok (.ireturn, 1) := by decide +kernel
theorem dL_law_1179 : decode cL_law 1179 = .ok (.aload_n 1, 1) := by decide +kernel
theorem dL_law_1180 : decode cL_law 1180 = .ok (.aload_n 0, 1) := by decide +kernel
theorem dL_law_1181 : decode cL_law 1181 = .ok (.iload_n 3, 1) := by decide +kernel
theorem dL_law_1182 : decode cL_law 1182 = .ok (.iconst 1, 1) := by decide +kernel
theorem dL_law_1183 : decode cL_law 1183 = .ok (.iadd, 1) := by decide +kernel
theorem dL_law_1184 : decode cL_law 1184 = .ok (.iaload, 1) := by decide +kernel
theorem dL_law_1185 : decode cL_law 1185 = .ok (.aload_n 0, 1) := by decide +kernel
theorem dL_law_1186 : decode cL_law 1186 = .ok (.iload_n 3, 1) := by decide +kernel
theorem dL_law_1187 : decode cL_law 1187 = .ok (.iconst 2, 1) := by decide +kernel
theorem dL_law_1188 : decode cL_law 1188 = .ok (.iadd, 1) := by decide +kernel
theorem dL_law_1189 : decode cL_law 1189 = .ok (.iaload, 1) := by decide +kernel
theorem dL_law_1190 : decode cL_law 1190 = .ok (.aload_n 0, 1) := by decide +kernel
theorem dL_law_1191 : decode cL_law 1191 = .ok (.iload_n 3, 1) := by decide +kernel
theorem dL_law_1192 : decode cL_law 1192 = .ok (.iconst 3, 1) := by decide +kernel
theorem dL_law_1193 : decode cL_law 1193 = .ok (.iadd, 1) := by decide +kernel
theorem dL_law_1194 : decode cL_law 1194 = .ok (.iaload, 1) := by decide +kernel
theorem dL_law_1195 : decode cL_law 1195 = .ok (.invokevirtual 134, 3) := by decide +kernel
theorem dL_law_1198 : decode cL_law 1198 = .ok (.aload_n 2, 1) := by decide +kernel
theorem dL_law_1199 : decode cL_law 1199 = .ok (.aload_n 0, 1) := by decide +kernel
theorem dL_law_1200 : decode cL_law 1200 = .ok (.iload_n 3, 1) := by decide +kernel
theorem dL_law_1201 : decode cL_law 1201 = .ok (.iconst 1, 1) := by decide +kernel
theorem dL_law_1202 : decode cL_law 1202 = .ok (.iadd, 1) := by decide +kernel
theorem dL_law_1203 : decode cL_law 1203 = .ok (.iaload, 1) := by decide +kernel
theorem dL_law_1204 : decode cL_law 1204 = .ok (.aload_n 0, 1) := by decide +kernel
theorem dL_law_1205 : decode cL_law 1205 = .ok (.iload_n 3, 1) := by decide +kernel
theorem dL_law_1206 : decode cL_law 1206 = .ok (.iconst 2, 1) := by decide +kernel
theorem dL_law_1207 : decode cL_law 1207 = .ok (.iadd, 1) := by decide +kernel
theorem dL_law_1208 : decode cL_law 1208 = .ok (.iaload, 1) := by decide +kernel
theorem dL_law_1209 : decode cL_law 1209 = .ok (.aload_n 0, 1) := by decide +kernel
theorem dL_law_1210 : decode cL_law 1210 = .ok (.iload_n 3, 1) := by decide +kernel
theorem dL_law_1211 : decode cL_law 1211 = .ok (.iconst 3, 1) := by decide +kernel
theorem dL_law_1212 : decode cL_law 1212 = .ok (.iadd, 1) := by decide +kernel
theorem dL_law_1213 : decode cL_law 1213 = .ok (.iaload, 1) := by decide +kernel
theorem dL_law_1214 : decode cL_law 1214 = .ok (.invokevirtual 137, 3) := by decide +kernel
theorem dL_law_1217 : decode cL_law 1217 = .ok (.if_icmp .eq 28, 3) := by decide +kernel
theorem dL_law_1220 : decode cL_law 1220 = .ok (.iconst 0, 1) := by decide +kernel
theorem dL_law_1221 : decode cL_law 1221 = .ok (.ireturn, 1) := by decide +kernel
theorem dL_law_1222 : decode cL_law 1222 = .ok (.aload_n 1, 1) := by decide +kernel
theorem dL_law_1223 : decode cL_law 1223 = .ok (.aload_n 0, 1) := by decide +kernel
theorem dL_law_1224 : decode cL_law 1224 = .ok (.iload_n 3, 1) := by decide +kernel
theorem dL_law_1225 : decode cL_law 1225 = .ok (.iconst 1, 1) := by decide +kernel
theorem dL_law_1226 : decode cL_law 1226 = .ok (.iadd, 1) := by decide +kernel
theorem dL_law_1227 : decode cL_law 1227 = .ok (.iaload, 1) := by decide +kernel
theorem dL_law_1228 : decode cL_law 1228 = .ok (.invokevirtual 138, 3) := by decide +kernel
theorem dL_law_1231 : decode cL_law 1231 = .ok (.aload_n 2, 1) := by decide +kernel
theorem dL_law_1232 : decode cL_law 1232 = .ok (.aload_n 0, 1) := by decide +kernel
theorem dL_law_1233 : decode cL_law 1233 = .ok (.iload_n 3, 1) := by decide +kernel
theorem dL_law_1234 : decode cL_law 1234 = .ok (.iconst 1, 1) := by decide +kernel
theorem dL_law_1235 : decode cL_law 1235 = .ok (.iadd, 1) := by decide +kernel
theorem dL_law_1236 : decode cL_law 1236 = .ok (.iaload, 1) := by decide +kernel
theorem dL_law_1237 : decode cL_law 1237 = .ok (.invokevirtual 141, 3) := by decide +kernel
theorem dL_law_1240 : decode cL_law 1240 = .ok (.if_icmp .eq 5, 3) := by decide +kernel
theorem dL_law_1243 : decode cL_law 1243 = .ok (.iconst 0, 1) := by decide +kernel
theorem dL_law_1244 : decode cL_law 1244 = .ok (.ireturn, 1) := by decide +kernel
theorem dL_law_1245 : decode cL_law 1245 = .ok (.iinc 3 5, 3) := by decide +kernel
theorem dL_law_1248 : decode cL_law 1248 = .ok (.goto (-1230), 3) := by decide +kernel
theorem dL_law_1251 : decode cL_law 1251 = .ok (.iconst 1, 1) := by decide +kernel
theorem dL_law_1252 : decode cL_law 1252 = .ok (.ireturn, 1) := by decide +kernel
def HI_kite (Inv : (Nat → Nat) → Mem → Prop) : Prop := ∀ (z : Nat → Nat) (M : Mem), Inv z M → (z 0 ≤ 20 ∧ z 1 ≤ 10 ∧ z 2 ≤ 10) ∧ M 50 2 = nI (z 0) ∧ ∃ res : Option Int32, f_X7_kite z M  = some res ∧ (res = none → z 0 < 20) ∧ (∀ r, res = some r → ∃ M2, f_X8_kite z M  = some (r, M2) ∧ Inv z M2) ∧ (res = none → ∃ M2, f_X8_kite (va_up z 0 (z 0 + 1)) (mu (nk_M (100 + 4 * z 0) M) 50 2 (nI (z 0 + 1)))  = some (nI (z 0), M2) ∧ Inv (va_up z 0 (z 0 + 1)) M2)
def HI_panel (Inv : (Nat → Nat) → Mem → Prop) : Prop := ∀ (z : Nat → Nat) (M : Mem) (p1 : Int32) (p2 : Int32) (p3 : Int32) (p4 : Int32), Inv z M → ∃ (r : Int32) (M1 : Mem) (M2 : Mem), f_X7_panel z M p1 p2 p3 p4 = some (r, M1) ∧ f_X8_panel z M1 p1 p2 p3 p4 = some (r, M2) ∧ Inv z M2
def HI_knot (Inv : (Nat → Nat) → Mem → Prop) : Prop := ∀ (z : Nat → Nat) (M : Mem) (p1 : Int32) (p2 : Int32), Inv z M → ∃ (r : Int32) (M1 : Mem) (M2 : Mem), f_X7_knot z M p1 p2 = some (r, M1) ∧ f_X8_knot z M1 p1 p2 = some (r, M2) ∧ Inv z M2
def HI_table (Inv : (Nat → Nat) → Mem → Prop) : Prop := ∀ (z : Nat → Nat) (M : Mem) (p1 : Int32) (p2 : Int32) (p3 : Int32), Inv z M → ∃ (r : Int32) (M1 : Mem) (M2 : Mem), f_X7_table z M p1 p2 p3 = some (r, M1) ∧ f_X8_table z M1 p1 p2 p3 = some (r, M2) ∧ Inv z M2
def HI_force (Inv : (Nat → Nat) → Mem → Prop) : Prop := ∀ (z : Nat → Nat) (M : Mem) (p1 : Int32) (p2 : Int32) (p3 : Int32) (p4 : Int32), Inv z M → ∃ (r : Int32), f_X7_force z M p1 p2 p3 p4 = some r ∧ f_X8_force z M p1 p2 p3 p4 = some r ∧ Inv z M
def HI_stands (Inv : (Nat → Nat) → Mem → Prop) : Prop := ∀ (z : Nat → Nat) (M : Mem) (p1 : Int32) (p2 : Int32), Inv z M → ∃ (r : Int32), f_X7_stands z M p1 p2 = some r ∧ f_X8_stands z M p1 p2 = some r ∧ Inv z M
def HI_steady (Inv : (Nat → Nat) → Mem → Prop) : Prop := ∀ (z : Nat → Nat) (M : Mem) (p1 : Int32) (p2 : Int32), Inv z M → ∃ (r : Int32), f_X7_steady z M p1 p2 = some r ∧ f_X8_steady z M p1 p2 = some r ∧ Inv z M
def HI_pull (Inv : (Nat → Nat) → Mem → Prop) : Prop := ∀ (z : Nat → Nat) (M : Mem) (p1 : Int32) (p2 : Int32) (p3 : Int32), Inv z M → ∃ (r : Int32), f_X7_pull z M p1 p2 p3 = some r ∧ f_X8_pull z M p1 p2 p3 = some r ∧ Inv z M
def HI_trim (Inv : (Nat → Nat) → Mem → Prop) : Prop := ∀ (z : Nat → Nat) (M : Mem) (p1 : Int32) (p2 : Int32) (p3 : Int32) (p4 : Int32), Inv z M → ∃ (r : Int32) (M2 : Mem), f_X7_trim z M p1 p2 p3 p4 = some r ∧ f_X8_trim z M p1 p2 p3 p4 = some (r, M2) ∧ Inv z M2
def HI_wind (Inv : (Nat → Nat) → Mem → Prop) : Prop := ∀ (z : Nat → Nat) (M : Mem) (p1 : Int32) (p2 : Int32), Inv z M → ∃ (r : Int32) (M1 : Mem) (M2 : Mem), f_X7_wind z M p1 p2 = some (r, M1) ∧ f_X8_wind z M1 p1 p2 = some (r, M2) ∧ Inv z M2
def HI_line (Inv : (Nat → Nat) → Mem → Prop) : Prop := ∀ (z : Nat → Nat) (M : Mem) (p1 : Int32) (p2 : Int32) (p3 : Int32), Inv z M → (z 0 ≤ 20 ∧ z 1 ≤ 10 ∧ z 2 ≤ 10) ∧ M 50 5 = nI (z 1) ∧ ∃ res : Option Int32, f_X7_line z M p1 p2 p3 = some res ∧ (res = none → z 1 < 10) ∧ (∀ r, res = some r → ∃ M2, f_X8_line z M p1 p2 p3 = some (r, M2) ∧ Inv z M2) ∧ (res = none → ∃ M2, f_X8_line (va_up z 1 (z 1 + 1)) (mu (nl_M (200 + 2 * z 1) M p1 p2 p3) 50 5 (nI (z 1 + 1))) p1 p2 p3 = some (nI (z 1), M2) ∧ Inv (va_up z 1 (z 1 + 1)) M2)
def HI_tie (Inv : (Nat → Nat) → Mem → Prop) : Prop := ∀ (z : Nat → Nat) (M : Mem) (p1 : Int32) (p2 : Int32) (p3 : Int32), Inv z M → ∃ (r : Int32) (M1 : Mem) (M2 : Mem), f_X7_tie z M p1 p2 p3 = some (r, M1) ∧ f_X8_tie z M1 p1 p2 p3 = some (r, M2) ∧ Inv z M2
def HI_untie (Inv : (Nat → Nat) → Mem → Prop) : Prop := ∀ (z : Nat → Nat) (M : Mem) (p1 : Int32), Inv z M → ∃ (r : Int32) (M1 : Mem) (M2 : Mem), f_X7_untie z M p1 = some (r, M1) ∧ f_X8_untie z M1 p1 = some (r, M2) ∧ Inv z M2
def HI_weaken (Inv : (Nat → Nat) → Mem → Prop) : Prop := ∀ (z : Nat → Nat) (M : Mem) (p1 : Int32) (p2 : Int32), Inv z M → ∃ (r : Int32) (M1 : Mem) (M2 : Mem), f_X7_weaken z M p1 p2 = some (r, M1) ∧ f_X8_weaken z M1 p1 p2 = some (r, M2) ∧ Inv z M2
def HI_ofLine (Inv : (Nat → Nat) → Mem → Prop) : Prop := ∀ (z : Nat → Nat) (M : Mem) (p1 : Int32) (p2 : Int32), Inv z M → ∃ (r : Int32) (M1 : Mem) (M2 : Mem), f_X7_ofLine z M p1 p2 = some (r, M1) ∧ f_X8_ofLine z M1 p1 p2 = some (r, M2) ∧ Inv z M2
def HI_step (Inv : (Nat → Nat) → Mem → Prop) : Prop := ∀ (z : Nat → Nat) (M : Mem) (p1 : Int32) (p2 : Int32) (p3 : Int32), Inv z M → ∃ (r : Int32) (M1 : Mem) (M2 : Mem), f_X7_step z M p1 p2 p3 = some (r, M1) ∧ f_X8_step z M1 p1 p2 p3 = some (r, M2) ∧ Inv z M2
def HI_part (Inv : (Nat → Nat) → Mem → Prop) : Prop := ∀ (z : Nat → Nat) (M : Mem) (p1 : Int32), Inv z M → ∃ (r : Int32) (M1 : Mem) (M2 : Mem), f_X7_part z M p1 = some (r, M1) ∧ f_X8_part z M1 p1 = some (r, M2) ∧ Inv z M2
def HI_least (Inv : (Nat → Nat) → Mem → Prop) : Prop := ∀ (z : Nat → Nat) (M : Mem) (p1 : Int32) (p2 : Int32), Inv z M → ∃ (r : Int32) (M2 : Mem), f_X7_least z M p1 p2 = some r ∧ f_X8_least z M p1 p2 = some (r, M2) ∧ Inv z M2
def HI_flyer (Inv : (Nat → Nat) → Mem → Prop) : Prop := ∀ (z : Nat → Nat) (M : Mem) (p1 : Int32) (p2 : Int32), Inv z M → (z 0 ≤ 20 ∧ z 1 ≤ 10 ∧ z 2 ≤ 10) ∧ M 50 8 = nI (z 2) ∧ ∃ res : Option Int32, f_X7_flyer z M p1 p2 = some res ∧ (res = none → z 2 < 10) ∧ (∀ r, res = some r → ∃ M2, f_X8_flyer z M p1 p2 = some (r, M2) ∧ Inv z M2) ∧ (res = none → ∃ M2, f_X8_flyer (va_up z 2 (z 2 + 1)) (mu (nf_M (300 + z 2) M (p1 / 200) (irem p1 200) p2) 50 8 (nI (z 2 + 1))) p1 p2 = some (nI (z 2), M2) ∧ Inv (va_up z 2 (z 2 + 1)) M2)
def HI_blow (Inv : (Nat → Nat) → Mem → Prop) : Prop := ∀ (z : Nat → Nat) (M : Mem) (p1 : Int32) (p2 : Int32), Inv z M → ∃ (r : Int32) (M1 : Mem) (M2 : Mem), f_X7_blow z M p1 p2 = some (r, M1) ∧ f_X8_blow z M1 p1 p2 = some (r, M2) ∧ Inv z M2
def HI_tree (Inv : (Nat → Nat) → Mem → Prop) : Prop := ∀ (z : Nat → Nat) (M : Mem) (p1 : Int32), Inv z M → ∃ (r : Int32) (M1 : Mem) (M2 : Mem), f_X7_tree z M p1 = some (r, M1) ∧ f_X8_tree z M1 p1 = some (r, M2) ∧ Inv z M2
def HI_agree (Inv : (Nat → Nat) → Mem → Prop) : Prop := ∀ (z : Nat → Nat) (M : Mem) (p1 : Int32) (p2 : Int32) (p3 : Int32), Inv z M → ∃ (r : Int32) (M1 : Mem) (M2 : Mem), f_X7_agree z M p1 p2 p3 = some (r, M1) ∧ f_X8_agree z M1 p1 p2 p3 = some (r, M2) ∧ Inv z M2
def HI_fly (Inv : (Nat → Nat) → Mem → Prop) : Prop := ∀ (z : Nat → Nat) (M : Mem) (p1 : Int32) (p2 : Int32), Inv z M → ∃ (r : Int32) (M1 : Mem) (M2 : Mem), f_X7_fly z M p1 p2 = some (r, M1) ∧ f_X8_fly z M1 p1 p2 = some (r, M2) ∧ Inv z M2
def HI_why (Inv : (Nat → Nat) → Mem → Prop) : Prop := ∀ (z : Nat → Nat) (M : Mem) (p1 : Int32), Inv z M → ∃ (r : Int32) (M1 : Mem), f_X7_why z M p1 = some (r, M1) ∧ f_X8_why z M1 p1 = some r ∧ Inv z M1
def HI_cone (Inv : (Nat → Nat) → Mem → Prop) : Prop := ∀ (z : Nat → Nat) (M : Mem) (p1 : Int32) (p2 : Int32), Inv z M → ∃ (r : Int32) (M1 : Mem), f_X7_cone z M p1 p2 = some (r, M1) ∧ f_X8_cone z M1 p1 p2 = some r ∧ Inv z M1
def HI_turn (Inv : (Nat → Nat) → Mem → Prop) : Prop := ∀ (z : Nat → Nat) (M : Mem) (p1 : Int32) (p2 : Int32) (p3 : Int32), Inv z M → ∃ (r : Int32) (M1 : Mem) (M2 : Mem), f_X7_turn z M p1 p2 p3 = some (r, M1) ∧ f_X8_turn z M1 p1 p2 p3 = some (r, M2) ∧ Inv z M2
def HI_tangled (Inv : (Nat → Nat) → Mem → Prop) : Prop := ∀ (z : Nat → Nat) (M : Mem) (p1 : Int32) (p2 : Int32), Inv z M → ∃ (r : Int32), f_X7_tangled z M p1 p2 = some r ∧ f_X8_tangled z M p1 p2 = some r ∧ Inv z M
def HI_undo (Inv : (Nat → Nat) → Mem → Prop) : Prop := ∀ (z : Nat → Nat) (M : Mem) (p1 : Int32), Inv z M → ∃ (r : Int32), f_X7_undo z M p1 = some r ∧ f_X8_undo z M p1 = some r ∧ Inv z M
def HI_unwind (Inv : (Nat → Nat) → Mem → Prop) : Prop := ∀ (z : Nat → Nat) (M : Mem) (p1 : Int32), Inv z M → ∃ (r : Int32) (M1 : Mem) (M2 : Mem), f_X7_unwind z M p1 = some (r, M1) ∧ f_X8_unwind z M1 p1 = some (r, M2) ∧ Inv z M2
def HI_cut (Inv : (Nat → Nat) → Mem → Prop) : Prop := ∀ (z : Nat → Nat) (M : Mem) (p1 : Int32) (p2 : Int32) (p3 : Int32), Inv z M → ∃ (r : Int32) (M1 : Mem) (M2 : Mem), f_X7_cut z M p1 p2 p3 = some (r, M1) ∧ f_X8_cut z M1 p1 p2 p3 = some (r, M2) ∧ Inv z M2
def HI_count (Inv : (Nat → Nat) → Mem → Prop) : Prop := ∀ (z : Nat → Nat) (M : Mem) (p1 : Int32), Inv z M → ∃ (r : Int32), f_X7_count z M p1 = some r ∧ f_X8_count z M p1 = some r ∧ Inv z M
theorem lc_kite {Inv : (Nat → Nat) → Mem → Prop} (HI : HI_kite Inv) {K : KK} {a : AA} {M : Mem} {b L i : Nat} {xs : Nat → Int32} (S : Sx K RL cL_law 4 room_1) (X : Xs K b L xs) (hi : i + 5 ≤ L) (hL : L ≤ 2560) (hroom : kc K + 4 ≤ room_1.cells ∧ ks K + 25 ≤ room_1.slots) (inv : Inv a.1 M) (next : ∀ (a' : AA) (M' : Mem), a'.2 50 = a.2 50 → a'.2 0 = a.2 0 → Inv a'.1 M' → Go (kU K (kc K + 4) (ks K + 25)) 4 a' M' 1245 [(0, .ref b), (1, .ref (a.2 50)), (2, .ref (a.2 0)), (3, .int (nI i))] []) : Go K 4 a M 172 [(0, .ref b), (1, .ref (a.2 50)), (2, .ref (a.2 0)), (3, .int (nI i))] [] := by
  refine g_aload_n 1 S dL_law_172 rfl ?_
  obtain ⟨hz, hc, res, h1, h2, h3, h4⟩ := HI a.1 M inv
  refine g_cVA (st := []) S ob_50 rfl ok_X7_kite lk_L_13 (c_X7_kite hz hc h1 h2) rfl rfl ⟨by decide, by decide⟩ ⟨rfl, rfl⟩ hroom (Nat.le_of_ble_eq_true rfl) dL_law_173 (fun r u hp => ?_)
  have S := Sx.up (c := kc K + 4) (n0 := ks K + 25) S hroom.1 hroom.2
  have X : Xs (kU K (kc K + 4) (ks K + 25)) b L xs := X
  rcases hp with ⟨e1, rfl⟩ | ⟨e1, e2, e3, e4, e5⟩
  · obtain ⟨M2, h5, h6⟩ := h3 r e1
    refine g_aload_n 2 S dL_law_176 rfl ?_
    refine g_cVI (st := [.int r]) S ob_0 rfl ok_X8_kite lk_L_17 (c_X8_kite h5) rfl rfl ⟨by decide, by decide⟩ (rmD_z _) (Nat.le_of_ble_eq_true rfl) dL_law_177 ?_
    refine g_eqT (tgt := 1245) S dL_law_180 (by decide) ?_
    exact next a M2 rfl rfl h6
  · obtain ⟨M2, h5, h6⟩ := h4 e1
    rw [← e3, ← e2, ← e5] at h5
    rw [← e3] at h6
    obtain ⟨a2, M3⟩ := u
    have q5 : a.2 50 = a2.2 50 := (e4 50 (by decide)).symm
    have q0 : a.2 0 = a2.2 0 := (e4 0 (by decide)).symm
    rw [q5, q0]
    refine g_aload_n 2 S dL_law_176 rfl ?_
    refine g_cVI (st := [.int r]) S ob_0 rfl ok_X8_kite lk_L_17 (c_X8_kite h5) rfl rfl ⟨by decide, by decide⟩ (rmD_z _) (Nat.le_of_ble_eq_true rfl) dL_law_177 ?_
    refine g_eqT (tgt := 1245) S dL_law_180 (by decide) ?_
    exact (by have h7 := next a2 M2 q5.symm q0.symm h6; rw [q5, q0] at h7; exact h7)
theorem lc_panel {Inv : (Nat → Nat) → Mem → Prop} (HI : HI_panel Inv) {K : KK} {a : AA} {M : Mem} {b L i : Nat} {xs : Nat → Int32} (S : Sx K RL cL_law 4 room_1) (X : Xs K b L xs) (hi : i + 5 ≤ L) (hL : L ≤ 2560) (inv : Inv a.1 M) (next : ∀ M', Inv a.1 M' → Go K 4 a M' 1245 [(0, .ref b), (1, .ref (a.2 50)), (2, .ref (a.2 0)), (3, .int (nI i))] []) : Go K 4 a M 185 [(0, .ref b), (1, .ref (a.2 50)), (2, .ref (a.2 0)), (3, .int (nI i))] [] := by
  refine g_aload_n 1 S dL_law_185 rfl ?_
  refine g_aload_n 0 S dL_law_186 rfl ?_
  refine g_iload_n 3 S dL_law_187 rfl ?_
  refine g_iconst (v := 1) S dL_law_188 rfl ?_
  refine g_iadd S dL_law_189 ?_
  refine g_sld S X (vi_5 (j := 1) hi (by decide) hL) dL_law_190 ?_
  refine g_aload_n 0 S dL_law_191 rfl ?_
  refine g_iload_n 3 S dL_law_192 rfl ?_
  refine g_iconst (v := 2) S dL_law_193 rfl ?_
  refine g_iadd S dL_law_194 ?_
  refine g_sld S X (vi_5 (j := 2) hi (by decide) hL) dL_law_195 ?_
  refine g_aload_n 0 S dL_law_196 rfl ?_
  refine g_iload_n 3 S dL_law_197 rfl ?_
  refine g_iconst (v := 3) S dL_law_198 rfl ?_
  refine g_iadd S dL_law_199 ?_
  refine g_sld S X (vi_5 (j := 3) hi (by decide) hL) dL_law_200 ?_
  refine g_aload_n 0 S dL_law_201 rfl ?_
  refine g_iload_n 3 S dL_law_202 rfl ?_
  refine g_iconst (v := 4) S dL_law_203 rfl ?_
  refine g_iadd S dL_law_204 ?_
  refine g_sld S X (vi_5 (j := 4) hi (by decide) hL) dL_law_205 ?_
  obtain ⟨r, M1, M2, h1, h2, h3⟩ := HI a.1 M (xs (Int32.toNatClampNeg (nI i + 1))) (xs (Int32.toNatClampNeg (nI i + 2))) (xs (Int32.toNatClampNeg (nI i + 3))) (xs (Int32.toNatClampNeg (nI i + 4))) inv
  refine g_cVI (st := []) S ob_50 rfl ok_X7_panel lk_L_18 (c_X7_panel h1) rfl rfl ⟨by decide, by decide⟩ (rmD_z _) (Nat.le_of_ble_eq_true rfl) dL_law_206 ?_
  refine g_aload_n 2 S dL_law_209 rfl ?_
  refine g_aload_n 0 S dL_law_210 rfl ?_
  refine g_iload_n 3 S dL_law_211 rfl ?_
  refine g_iconst (v := 1) S dL_law_212 rfl ?_
  refine g_iadd S dL_law_213 ?_
  refine g_sld S X (vi_5 (j := 1) hi (by decide) hL) dL_law_214 ?_
  refine g_aload_n 0 S dL_law_215 rfl ?_
  refine g_iload_n 3 S dL_law_216 rfl ?_
  refine g_iconst (v := 2) S dL_law_217 rfl ?_
  refine g_iadd S dL_law_218 ?_
  refine g_sld S X (vi_5 (j := 2) hi (by decide) hL) dL_law_219 ?_
  refine g_aload_n 0 S dL_law_220 rfl ?_
  refine g_iload_n 3 S dL_law_221 rfl ?_
  refine g_iconst (v := 3) S dL_law_222 rfl ?_
  refine g_iadd S dL_law_223 ?_
  refine g_sld S X (vi_5 (j := 3) hi (by decide) hL) dL_law_224 ?_
  refine g_aload_n 0 S dL_law_225 rfl ?_
  refine g_iload_n 3 S dL_law_226 rfl ?_
  refine g_iconst (v := 4) S dL_law_227 rfl ?_
  refine g_iadd S dL_law_228 ?_
  refine g_sld S X (vi_5 (j := 4) hi (by decide) hL) dL_law_229 ?_
  refine g_cVI (st := [.int r]) S ob_0 rfl ok_X8_panel lk_L_22 (c_X8_panel h2) rfl rfl ⟨by decide, by decide⟩ (rmD_z _) (Nat.le_of_ble_eq_true rfl) dL_law_230 ?_
  refine g_eqT (tgt := 1245) S dL_law_233 (by decide) ?_
  exact next M2 h3
theorem lc_knot {Inv : (Nat → Nat) → Mem → Prop} (HI : HI_knot Inv) {K : KK} {a : AA} {M : Mem} {b L i : Nat} {xs : Nat → Int32} (S : Sx K RL cL_law 4 room_1) (X : Xs K b L xs) (hi : i + 5 ≤ L) (hL : L ≤ 2560) (inv : Inv a.1 M) (next : ∀ M', Inv a.1 M' → Go K 4 a M' 1245 [(0, .ref b), (1, .ref (a.2 50)), (2, .ref (a.2 0)), (3, .int (nI i))] []) : Go K 4 a M 238 [(0, .ref b), (1, .ref (a.2 50)), (2, .ref (a.2 0)), (3, .int (nI i))] [] := by
  refine g_aload_n 1 S dL_law_238 rfl ?_
  refine g_aload_n 0 S dL_law_239 rfl ?_
  refine g_iload_n 3 S dL_law_240 rfl ?_
  refine g_iconst (v := 1) S dL_law_241 rfl ?_
  refine g_iadd S dL_law_242 ?_
  refine g_sld S X (vi_5 (j := 1) hi (by decide) hL) dL_law_243 ?_
  refine g_aload_n 0 S dL_law_244 rfl ?_
  refine g_iload_n 3 S dL_law_245 rfl ?_
  refine g_iconst (v := 2) S dL_law_246 rfl ?_
  refine g_iadd S dL_law_247 ?_
  refine g_sld S X (vi_5 (j := 2) hi (by decide) hL) dL_law_248 ?_
  obtain ⟨r, M1, M2, h1, h2, h3⟩ := HI a.1 M (xs (Int32.toNatClampNeg (nI i + 1))) (xs (Int32.toNatClampNeg (nI i + 2))) inv
  refine g_cVI (st := []) S ob_50 rfl ok_X7_knot lk_L_23 (c_X7_knot h1) rfl rfl ⟨by decide, by decide⟩ (rmD_z _) (Nat.le_of_ble_eq_true rfl) dL_law_249 ?_
  refine g_aload_n 2 S dL_law_252 rfl ?_
  refine g_aload_n 0 S dL_law_253 rfl ?_
  refine g_iload_n 3 S dL_law_254 rfl ?_
  refine g_iconst (v := 1) S dL_law_255 rfl ?_
  refine g_iadd S dL_law_256 ?_
  refine g_sld S X (vi_5 (j := 1) hi (by decide) hL) dL_law_257 ?_
  refine g_aload_n 0 S dL_law_258 rfl ?_
  refine g_iload_n 3 S dL_law_259 rfl ?_
  refine g_iconst (v := 2) S dL_law_260 rfl ?_
  refine g_iadd S dL_law_261 ?_
  refine g_sld S X (vi_5 (j := 2) hi (by decide) hL) dL_law_262 ?_
  refine g_cVI (st := [.int r]) S ob_0 rfl ok_X8_knot lk_L_27 (c_X8_knot h2) rfl rfl ⟨by decide, by decide⟩ (rmD_z _) (Nat.le_of_ble_eq_true rfl) dL_law_263 ?_
  refine g_eqT (tgt := 1245) S dL_law_266 (by decide) ?_
  exact next M2 h3
theorem lc_table {Inv : (Nat → Nat) → Mem → Prop} (HI : HI_table Inv) {K : KK} {a : AA} {M : Mem} {b L i : Nat} {xs : Nat → Int32} (S : Sx K RL cL_law 4 room_1) (X : Xs K b L xs) (hi : i + 5 ≤ L) (hL : L ≤ 2560) (inv : Inv a.1 M) (next : ∀ M', Inv a.1 M' → Go K 4 a M' 1245 [(0, .ref b), (1, .ref (a.2 50)), (2, .ref (a.2 0)), (3, .int (nI i))] []) : Go K 4 a M 271 [(0, .ref b), (1, .ref (a.2 50)), (2, .ref (a.2 0)), (3, .int (nI i))] [] := by
  refine g_aload_n 1 S dL_law_271 rfl ?_
  refine g_aload_n 0 S dL_law_272 rfl ?_
  refine g_iload_n 3 S dL_law_273 rfl ?_
  refine g_iconst (v := 1) S dL_law_274 rfl ?_
  refine g_iadd S dL_law_275 ?_
  refine g_sld S X (vi_5 (j := 1) hi (by decide) hL) dL_law_276 ?_
  refine g_aload_n 0 S dL_law_277 rfl ?_
  refine g_iload_n 3 S dL_law_278 rfl ?_
  refine g_iconst (v := 2) S dL_law_279 rfl ?_
  refine g_iadd S dL_law_280 ?_
  refine g_sld S X (vi_5 (j := 2) hi (by decide) hL) dL_law_281 ?_
  refine g_aload_n 0 S dL_law_282 rfl ?_
  refine g_iload_n 3 S dL_law_283 rfl ?_
  refine g_iconst (v := 3) S dL_law_284 rfl ?_
  refine g_iadd S dL_law_285 ?_
  refine g_sld S X (vi_5 (j := 3) hi (by decide) hL) dL_law_286 ?_
  obtain ⟨r, M1, M2, h1, h2, h3⟩ := HI a.1 M (xs (Int32.toNatClampNeg (nI i + 1))) (xs (Int32.toNatClampNeg (nI i + 2))) (xs (Int32.toNatClampNeg (nI i + 3))) inv
  refine g_cVI (st := []) S ob_50 rfl ok_X7_table lk_L_28 (c_X7_table h1) rfl rfl ⟨by decide, by decide⟩ (rmD_z _) (Nat.le_of_ble_eq_true rfl) dL_law_287 ?_
  refine g_aload_n 2 S dL_law_290 rfl ?_
  refine g_aload_n 0 S dL_law_291 rfl ?_
  refine g_iload_n 3 S dL_law_292 rfl ?_
  refine g_iconst (v := 1) S dL_law_293 rfl ?_
  refine g_iadd S dL_law_294 ?_
  refine g_sld S X (vi_5 (j := 1) hi (by decide) hL) dL_law_295 ?_
  refine g_aload_n 0 S dL_law_296 rfl ?_
  refine g_iload_n 3 S dL_law_297 rfl ?_
  refine g_iconst (v := 2) S dL_law_298 rfl ?_
  refine g_iadd S dL_law_299 ?_
  refine g_sld S X (vi_5 (j := 2) hi (by decide) hL) dL_law_300 ?_
  refine g_aload_n 0 S dL_law_301 rfl ?_
  refine g_iload_n 3 S dL_law_302 rfl ?_
  refine g_iconst (v := 3) S dL_law_303 rfl ?_
  refine g_iadd S dL_law_304 ?_
  refine g_sld S X (vi_5 (j := 3) hi (by decide) hL) dL_law_305 ?_
  refine g_cVI (st := [.int r]) S ob_0 rfl ok_X8_table lk_L_32 (c_X8_table h2) rfl rfl ⟨by decide, by decide⟩ (rmD_z _) (Nat.le_of_ble_eq_true rfl) dL_law_306 ?_
  refine g_eqT (tgt := 1245) S dL_law_309 (by decide) ?_
  exact next M2 h3
theorem lc_force {Inv : (Nat → Nat) → Mem → Prop} (HI : HI_force Inv) {K : KK} {a : AA} {M : Mem} {b L i : Nat} {xs : Nat → Int32} (S : Sx K RL cL_law 4 room_1) (X : Xs K b L xs) (hi : i + 5 ≤ L) (hL : L ≤ 2560) (inv : Inv a.1 M) (next : ∀ M', Inv a.1 M' → Go K 4 a M' 1245 [(0, .ref b), (1, .ref (a.2 50)), (2, .ref (a.2 0)), (3, .int (nI i))] []) : Go K 4 a M 314 [(0, .ref b), (1, .ref (a.2 50)), (2, .ref (a.2 0)), (3, .int (nI i))] [] := by
  refine g_aload_n 1 S dL_law_314 rfl ?_
  refine g_aload_n 0 S dL_law_315 rfl ?_
  refine g_iload_n 3 S dL_law_316 rfl ?_
  refine g_iconst (v := 1) S dL_law_317 rfl ?_
  refine g_iadd S dL_law_318 ?_
  refine g_sld S X (vi_5 (j := 1) hi (by decide) hL) dL_law_319 ?_
  refine g_aload_n 0 S dL_law_320 rfl ?_
  refine g_iload_n 3 S dL_law_321 rfl ?_
  refine g_iconst (v := 2) S dL_law_322 rfl ?_
  refine g_iadd S dL_law_323 ?_
  refine g_sld S X (vi_5 (j := 2) hi (by decide) hL) dL_law_324 ?_
  refine g_aload_n 0 S dL_law_325 rfl ?_
  refine g_iload_n 3 S dL_law_326 rfl ?_
  refine g_iconst (v := 3) S dL_law_327 rfl ?_
  refine g_iadd S dL_law_328 ?_
  refine g_sld S X (vi_5 (j := 3) hi (by decide) hL) dL_law_329 ?_
  refine g_aload_n 0 S dL_law_330 rfl ?_
  refine g_iload_n 3 S dL_law_331 rfl ?_
  refine g_iconst (v := 4) S dL_law_332 rfl ?_
  refine g_iadd S dL_law_333 ?_
  refine g_sld S X (vi_5 (j := 4) hi (by decide) hL) dL_law_334 ?_
  obtain ⟨r, h1, h2, h3⟩ := HI a.1 M (xs (Int32.toNatClampNeg (nI i + 1))) (xs (Int32.toNatClampNeg (nI i + 2))) (xs (Int32.toNatClampNeg (nI i + 3))) (xs (Int32.toNatClampNeg (nI i + 4))) inv
  refine g_cVI (st := []) S ob_50 rfl ok_X7_force lk_L_33 (c_X7_force h1) rfl rfl ⟨by decide, by decide⟩ (rmD_z _) (Nat.le_of_ble_eq_true rfl) dL_law_335 ?_
  refine g_aload_n 2 S dL_law_338 rfl ?_
  refine g_aload_n 0 S dL_law_339 rfl ?_
  refine g_iload_n 3 S dL_law_340 rfl ?_
  refine g_iconst (v := 1) S dL_law_341 rfl ?_
  refine g_iadd S dL_law_342 ?_
  refine g_sld S X (vi_5 (j := 1) hi (by decide) hL) dL_law_343 ?_
  refine g_aload_n 0 S dL_law_344 rfl ?_
  refine g_iload_n 3 S dL_law_345 rfl ?_
  refine g_iconst (v := 2) S dL_law_346 rfl ?_
  refine g_iadd S dL_law_347 ?_
  refine g_sld S X (vi_5 (j := 2) hi (by decide) hL) dL_law_348 ?_
  refine g_aload_n 0 S dL_law_349 rfl ?_
  refine g_iload_n 3 S dL_law_350 rfl ?_
  refine g_iconst (v := 3) S dL_law_351 rfl ?_
  refine g_iadd S dL_law_352 ?_
  refine g_sld S X (vi_5 (j := 3) hi (by decide) hL) dL_law_353 ?_
  refine g_aload_n 0 S dL_law_354 rfl ?_
  refine g_iload_n 3 S dL_law_355 rfl ?_
  refine g_iconst (v := 4) S dL_law_356 rfl ?_
  refine g_iadd S dL_law_357 ?_
  refine g_sld S X (vi_5 (j := 4) hi (by decide) hL) dL_law_358 ?_
  refine g_cVI (st := [.int r]) S ob_0 rfl ok_X8_force lk_L_36 (c_X8_force h2) rfl rfl ⟨by decide, by decide⟩ (rmD_z _) (Nat.le_of_ble_eq_true rfl) dL_law_359 ?_
  refine g_eqT (tgt := 1245) S dL_law_362 (by decide) ?_
  exact next M h3
theorem lc_stands {Inv : (Nat → Nat) → Mem → Prop} (HI : HI_stands Inv) {K : KK} {a : AA} {M : Mem} {b L i : Nat} {xs : Nat → Int32} (S : Sx K RL cL_law 4 room_1) (X : Xs K b L xs) (hi : i + 5 ≤ L) (hL : L ≤ 2560) (inv : Inv a.1 M) (next : ∀ M', Inv a.1 M' → Go K 4 a M' 1245 [(0, .ref b), (1, .ref (a.2 50)), (2, .ref (a.2 0)), (3, .int (nI i))] []) : Go K 4 a M 367 [(0, .ref b), (1, .ref (a.2 50)), (2, .ref (a.2 0)), (3, .int (nI i))] [] := by
  refine g_aload_n 1 S dL_law_367 rfl ?_
  refine g_aload_n 0 S dL_law_368 rfl ?_
  refine g_iload_n 3 S dL_law_369 rfl ?_
  refine g_iconst (v := 1) S dL_law_370 rfl ?_
  refine g_iadd S dL_law_371 ?_
  refine g_sld S X (vi_5 (j := 1) hi (by decide) hL) dL_law_372 ?_
  refine g_aload_n 0 S dL_law_373 rfl ?_
  refine g_iload_n 3 S dL_law_374 rfl ?_
  refine g_iconst (v := 2) S dL_law_375 rfl ?_
  refine g_iadd S dL_law_376 ?_
  refine g_sld S X (vi_5 (j := 2) hi (by decide) hL) dL_law_377 ?_
  obtain ⟨r, h1, h2, h3⟩ := HI a.1 M (xs (Int32.toNatClampNeg (nI i + 1))) (xs (Int32.toNatClampNeg (nI i + 2))) inv
  refine g_cVI (st := []) S ob_50 rfl ok_X7_stands lk_L_37 (c_X7_stands h1) rfl rfl ⟨by decide, by decide⟩ (rmD_z _) (Nat.le_of_ble_eq_true rfl) dL_law_378 ?_
  refine g_aload_n 2 S dL_law_381 rfl ?_
  refine g_aload_n 0 S dL_law_382 rfl ?_
  refine g_iload_n 3 S dL_law_383 rfl ?_
  refine g_iconst (v := 1) S dL_law_384 rfl ?_
  refine g_iadd S dL_law_385 ?_
  refine g_sld S X (vi_5 (j := 1) hi (by decide) hL) dL_law_386 ?_
  refine g_aload_n 0 S dL_law_387 rfl ?_
  refine g_iload_n 3 S dL_law_388 rfl ?_
  refine g_iconst (v := 2) S dL_law_389 rfl ?_
  refine g_iadd S dL_law_390 ?_
  refine g_sld S X (vi_5 (j := 2) hi (by decide) hL) dL_law_391 ?_
  refine g_cVI (st := [.int r]) S ob_0 rfl ok_X8_stands lk_L_40 (c_X8_stands h2) rfl rfl ⟨by decide, by decide⟩ (rmD_z _) (Nat.le_of_ble_eq_true rfl) dL_law_392 ?_
  refine g_eqT (tgt := 1245) S dL_law_395 (by decide) ?_
  exact next M h3
theorem lc_steady {Inv : (Nat → Nat) → Mem → Prop} (HI : HI_steady Inv) {K : KK} {a : AA} {M : Mem} {b L i : Nat} {xs : Nat → Int32} (S : Sx K RL cL_law 4 room_1) (X : Xs K b L xs) (hi : i + 5 ≤ L) (hL : L ≤ 2560) (inv : Inv a.1 M) (next : ∀ M', Inv a.1 M' → Go K 4 a M' 1245 [(0, .ref b), (1, .ref (a.2 50)), (2, .ref (a.2 0)), (3, .int (nI i))] []) : Go K 4 a M 400 [(0, .ref b), (1, .ref (a.2 50)), (2, .ref (a.2 0)), (3, .int (nI i))] [] := by
  refine g_aload_n 1 S dL_law_400 rfl ?_
  refine g_aload_n 0 S dL_law_401 rfl ?_
  refine g_iload_n 3 S dL_law_402 rfl ?_
  refine g_iconst (v := 1) S dL_law_403 rfl ?_
  refine g_iadd S dL_law_404 ?_
  refine g_sld S X (vi_5 (j := 1) hi (by decide) hL) dL_law_405 ?_
  refine g_aload_n 0 S dL_law_406 rfl ?_
  refine g_iload_n 3 S dL_law_407 rfl ?_
  refine g_iconst (v := 2) S dL_law_408 rfl ?_
  refine g_iadd S dL_law_409 ?_
  refine g_sld S X (vi_5 (j := 2) hi (by decide) hL) dL_law_410 ?_
  obtain ⟨r, h1, h2, h3⟩ := HI a.1 M (xs (Int32.toNatClampNeg (nI i + 1))) (xs (Int32.toNatClampNeg (nI i + 2))) inv
  refine g_cVI (st := []) S ob_50 rfl ok_X7_steady lk_L_41 (c_X7_steady h1) rfl rfl ⟨by decide, by decide⟩ (rmD_z _) (Nat.le_of_ble_eq_true rfl) dL_law_411 ?_
  refine g_aload_n 2 S dL_law_414 rfl ?_
  refine g_aload_n 0 S dL_law_415 rfl ?_
  refine g_iload_n 3 S dL_law_416 rfl ?_
  refine g_iconst (v := 1) S dL_law_417 rfl ?_
  refine g_iadd S dL_law_418 ?_
  refine g_sld S X (vi_5 (j := 1) hi (by decide) hL) dL_law_419 ?_
  refine g_aload_n 0 S dL_law_420 rfl ?_
  refine g_iload_n 3 S dL_law_421 rfl ?_
  refine g_iconst (v := 2) S dL_law_422 rfl ?_
  refine g_iadd S dL_law_423 ?_
  refine g_sld S X (vi_5 (j := 2) hi (by decide) hL) dL_law_424 ?_
  refine g_cVI (st := [.int r]) S ob_0 rfl ok_X8_steady lk_L_44 (c_X8_steady h2) rfl rfl ⟨by decide, by decide⟩ (rmD_z _) (Nat.le_of_ble_eq_true rfl) dL_law_425 ?_
  refine g_eqT (tgt := 1245) S dL_law_428 (by decide) ?_
  exact next M h3
theorem lc_pull {Inv : (Nat → Nat) → Mem → Prop} (HI : HI_pull Inv) {K : KK} {a : AA} {M : Mem} {b L i : Nat} {xs : Nat → Int32} (S : Sx K RL cL_law 4 room_1) (X : Xs K b L xs) (hi : i + 5 ≤ L) (hL : L ≤ 2560) (inv : Inv a.1 M) (next : ∀ M', Inv a.1 M' → Go K 4 a M' 1245 [(0, .ref b), (1, .ref (a.2 50)), (2, .ref (a.2 0)), (3, .int (nI i))] []) : Go K 4 a M 433 [(0, .ref b), (1, .ref (a.2 50)), (2, .ref (a.2 0)), (3, .int (nI i))] [] := by
  refine g_aload_n 1 S dL_law_433 rfl ?_
  refine g_aload_n 0 S dL_law_434 rfl ?_
  refine g_iload_n 3 S dL_law_435 rfl ?_
  refine g_iconst (v := 1) S dL_law_436 rfl ?_
  refine g_iadd S dL_law_437 ?_
  refine g_sld S X (vi_5 (j := 1) hi (by decide) hL) dL_law_438 ?_
  refine g_aload_n 0 S dL_law_439 rfl ?_
  refine g_iload_n 3 S dL_law_440 rfl ?_
  refine g_iconst (v := 2) S dL_law_441 rfl ?_
  refine g_iadd S dL_law_442 ?_
  refine g_sld S X (vi_5 (j := 2) hi (by decide) hL) dL_law_443 ?_
  refine g_aload_n 0 S dL_law_444 rfl ?_
  refine g_iload_n 3 S dL_law_445 rfl ?_
  refine g_iconst (v := 3) S dL_law_446 rfl ?_
  refine g_iadd S dL_law_447 ?_
  refine g_sld S X (vi_5 (j := 3) hi (by decide) hL) dL_law_448 ?_
  obtain ⟨r, h1, h2, h3⟩ := HI a.1 M (xs (Int32.toNatClampNeg (nI i + 1))) (xs (Int32.toNatClampNeg (nI i + 2))) (xs (Int32.toNatClampNeg (nI i + 3))) inv
  refine g_cVI (st := []) S ob_50 rfl ok_X7_pull lk_L_45 (c_X7_pull h1) rfl rfl ⟨by decide, by decide⟩ (rmD_z _) (Nat.le_of_ble_eq_true rfl) dL_law_449 ?_
  refine g_aload_n 2 S dL_law_452 rfl ?_
  refine g_aload_n 0 S dL_law_453 rfl ?_
  refine g_iload_n 3 S dL_law_454 rfl ?_
  refine g_iconst (v := 1) S dL_law_455 rfl ?_
  refine g_iadd S dL_law_456 ?_
  refine g_sld S X (vi_5 (j := 1) hi (by decide) hL) dL_law_457 ?_
  refine g_aload_n 0 S dL_law_458 rfl ?_
  refine g_iload_n 3 S dL_law_459 rfl ?_
  refine g_iconst (v := 2) S dL_law_460 rfl ?_
  refine g_iadd S dL_law_461 ?_
  refine g_sld S X (vi_5 (j := 2) hi (by decide) hL) dL_law_462 ?_
  refine g_aload_n 0 S dL_law_463 rfl ?_
  refine g_iload_n 3 S dL_law_464 rfl ?_
  refine g_iconst (v := 3) S dL_law_465 rfl ?_
  refine g_iadd S dL_law_466 ?_
  refine g_sld S X (vi_5 (j := 3) hi (by decide) hL) dL_law_467 ?_
  refine g_cVI (st := [.int r]) S ob_0 rfl ok_X8_pull lk_L_48 (c_X8_pull h2) rfl rfl ⟨by decide, by decide⟩ (rmD_z _) (Nat.le_of_ble_eq_true rfl) dL_law_468 ?_
  refine g_eqT (tgt := 1245) S dL_law_471 (by decide) ?_
  exact next M h3
theorem lc_trim {Inv : (Nat → Nat) → Mem → Prop} (HI : HI_trim Inv) {K : KK} {a : AA} {M : Mem} {b L i : Nat} {xs : Nat → Int32} (S : Sx K RL cL_law 4 room_1) (X : Xs K b L xs) (hi : i + 5 ≤ L) (hL : L ≤ 2560) (inv : Inv a.1 M) (next : ∀ M', Inv a.1 M' → Go K 4 a M' 1245 [(0, .ref b), (1, .ref (a.2 50)), (2, .ref (a.2 0)), (3, .int (nI i))] []) : Go K 4 a M 476 [(0, .ref b), (1, .ref (a.2 50)), (2, .ref (a.2 0)), (3, .int (nI i))] [] := by
  refine g_aload_n 1 S dL_law_476 rfl ?_
  refine g_aload_n 0 S dL_law_477 rfl ?_
  refine g_iload_n 3 S dL_law_478 rfl ?_
  refine g_iconst (v := 1) S dL_law_479 rfl ?_
  refine g_iadd S dL_law_480 ?_
  refine g_sld S X (vi_5 (j := 1) hi (by decide) hL) dL_law_481 ?_
  refine g_aload_n 0 S dL_law_482 rfl ?_
  refine g_iload_n 3 S dL_law_483 rfl ?_
  refine g_iconst (v := 2) S dL_law_484 rfl ?_
  refine g_iadd S dL_law_485 ?_
  refine g_sld S X (vi_5 (j := 2) hi (by decide) hL) dL_law_486 ?_
  refine g_aload_n 0 S dL_law_487 rfl ?_
  refine g_iload_n 3 S dL_law_488 rfl ?_
  refine g_iconst (v := 3) S dL_law_489 rfl ?_
  refine g_iadd S dL_law_490 ?_
  refine g_sld S X (vi_5 (j := 3) hi (by decide) hL) dL_law_491 ?_
  refine g_aload_n 0 S dL_law_492 rfl ?_
  refine g_iload_n 3 S dL_law_493 rfl ?_
  refine g_iconst (v := 4) S dL_law_494 rfl ?_
  refine g_iadd S dL_law_495 ?_
  refine g_sld S X (vi_5 (j := 4) hi (by decide) hL) dL_law_496 ?_
  obtain ⟨r, M2, h1, h2, h3⟩ := HI a.1 M (xs (Int32.toNatClampNeg (nI i + 1))) (xs (Int32.toNatClampNeg (nI i + 2))) (xs (Int32.toNatClampNeg (nI i + 3))) (xs (Int32.toNatClampNeg (nI i + 4))) inv
  refine g_cVI (st := []) S ob_50 rfl ok_X7_trim lk_L_49 (c_X7_trim h1) rfl rfl ⟨by decide, by decide⟩ (rmD_z _) (Nat.le_of_ble_eq_true rfl) dL_law_497 ?_
  refine g_aload_n 2 S dL_law_500 rfl ?_
  refine g_aload_n 0 S dL_law_501 rfl ?_
  refine g_iload_n 3 S dL_law_502 rfl ?_
  refine g_iconst (v := 1) S dL_law_503 rfl ?_
  refine g_iadd S dL_law_504 ?_
  refine g_sld S X (vi_5 (j := 1) hi (by decide) hL) dL_law_505 ?_
  refine g_aload_n 0 S dL_law_506 rfl ?_
  refine g_iload_n 3 S dL_law_507 rfl ?_
  refine g_iconst (v := 2) S dL_law_508 rfl ?_
  refine g_iadd S dL_law_509 ?_
  refine g_sld S X (vi_5 (j := 2) hi (by decide) hL) dL_law_510 ?_
  refine g_aload_n 0 S dL_law_511 rfl ?_
  refine g_iload_n 3 S dL_law_512 rfl ?_
  refine g_iconst (v := 3) S dL_law_513 rfl ?_
  refine g_iadd S dL_law_514 ?_
  refine g_sld S X (vi_5 (j := 3) hi (by decide) hL) dL_law_515 ?_
  refine g_aload_n 0 S dL_law_516 rfl ?_
  refine g_iload_n 3 S dL_law_517 rfl ?_
  refine g_iconst (v := 4) S dL_law_518 rfl ?_
  refine g_iadd S dL_law_519 ?_
  refine g_sld S X (vi_5 (j := 4) hi (by decide) hL) dL_law_520 ?_
  refine g_cVI (st := [.int r]) S ob_0 rfl ok_X8_trim lk_L_52 (c_X8_trim h2) rfl rfl ⟨by decide, by decide⟩ (rmD_z _) (Nat.le_of_ble_eq_true rfl) dL_law_521 ?_
  refine g_eqT (tgt := 1245) S dL_law_524 (by decide) ?_
  exact next M2 h3
theorem lc_wind {Inv : (Nat → Nat) → Mem → Prop} (HI : HI_wind Inv) {K : KK} {a : AA} {M : Mem} {b L i : Nat} {xs : Nat → Int32} (S : Sx K RL cL_law 4 room_1) (X : Xs K b L xs) (hi : i + 5 ≤ L) (hL : L ≤ 2560) (inv : Inv a.1 M) (next : ∀ M', Inv a.1 M' → Go K 4 a M' 1245 [(0, .ref b), (1, .ref (a.2 50)), (2, .ref (a.2 0)), (3, .int (nI i))] []) : Go K 4 a M 529 [(0, .ref b), (1, .ref (a.2 50)), (2, .ref (a.2 0)), (3, .int (nI i))] [] := by
  refine g_aload_n 1 S dL_law_529 rfl ?_
  refine g_aload_n 0 S dL_law_530 rfl ?_
  refine g_iload_n 3 S dL_law_531 rfl ?_
  refine g_iconst (v := 1) S dL_law_532 rfl ?_
  refine g_iadd S dL_law_533 ?_
  refine g_sld S X (vi_5 (j := 1) hi (by decide) hL) dL_law_534 ?_
  refine g_aload_n 0 S dL_law_535 rfl ?_
  refine g_iload_n 3 S dL_law_536 rfl ?_
  refine g_iconst (v := 2) S dL_law_537 rfl ?_
  refine g_iadd S dL_law_538 ?_
  refine g_sld S X (vi_5 (j := 2) hi (by decide) hL) dL_law_539 ?_
  obtain ⟨r, M1, M2, h1, h2, h3⟩ := HI a.1 M (xs (Int32.toNatClampNeg (nI i + 1))) (xs (Int32.toNatClampNeg (nI i + 2))) inv
  refine g_cVI (st := []) S ob_50 rfl ok_X7_wind lk_L_53 (c_X7_wind h1) rfl rfl ⟨by decide, by decide⟩ (rmD_z _) (Nat.le_of_ble_eq_true rfl) dL_law_540 ?_
  refine g_aload_n 2 S dL_law_543 rfl ?_
  refine g_aload_n 0 S dL_law_544 rfl ?_
  refine g_iload_n 3 S dL_law_545 rfl ?_
  refine g_iconst (v := 1) S dL_law_546 rfl ?_
  refine g_iadd S dL_law_547 ?_
  refine g_sld S X (vi_5 (j := 1) hi (by decide) hL) dL_law_548 ?_
  refine g_aload_n 0 S dL_law_549 rfl ?_
  refine g_iload_n 3 S dL_law_550 rfl ?_
  refine g_iconst (v := 2) S dL_law_551 rfl ?_
  refine g_iadd S dL_law_552 ?_
  refine g_sld S X (vi_5 (j := 2) hi (by decide) hL) dL_law_553 ?_
  refine g_cVI (st := [.int r]) S ob_0 rfl ok_X8_wind lk_L_56 (c_X8_wind h2) rfl rfl ⟨by decide, by decide⟩ (rmD_z _) (Nat.le_of_ble_eq_true rfl) dL_law_554 ?_
  refine g_eqT (tgt := 1245) S dL_law_557 (by decide) ?_
  exact next M2 h3
theorem lc_line {Inv : (Nat → Nat) → Mem → Prop} (HI : HI_line Inv) {K : KK} {a : AA} {M : Mem} {b L i : Nat} {xs : Nat → Int32} (S : Sx K RL cL_law 4 room_1) (X : Xs K b L xs) (hi : i + 5 ≤ L) (hL : L ≤ 2560) (hroom : kc K + 2 ≤ room_1.cells ∧ ks K + 15 ≤ room_1.slots) (inv : Inv a.1 M) (next : ∀ (a' : AA) (M' : Mem), a'.2 50 = a.2 50 → a'.2 0 = a.2 0 → Inv a'.1 M' → Go (kU K (kc K + 2) (ks K + 15)) 4 a' M' 1245 [(0, .ref b), (1, .ref (a.2 50)), (2, .ref (a.2 0)), (3, .int (nI i))] []) : Go K 4 a M 562 [(0, .ref b), (1, .ref (a.2 50)), (2, .ref (a.2 0)), (3, .int (nI i))] [] := by
  refine g_aload_n 1 S dL_law_562 rfl ?_
  refine g_aload_n 0 S dL_law_563 rfl ?_
  refine g_iload_n 3 S dL_law_564 rfl ?_
  refine g_iconst (v := 1) S dL_law_565 rfl ?_
  refine g_iadd S dL_law_566 ?_
  refine g_sld S X (vi_5 (j := 1) hi (by decide) hL) dL_law_567 ?_
  refine g_aload_n 0 S dL_law_568 rfl ?_
  refine g_iload_n 3 S dL_law_569 rfl ?_
  refine g_iconst (v := 2) S dL_law_570 rfl ?_
  refine g_iadd S dL_law_571 ?_
  refine g_sld S X (vi_5 (j := 2) hi (by decide) hL) dL_law_572 ?_
  refine g_aload_n 0 S dL_law_573 rfl ?_
  refine g_iload_n 3 S dL_law_574 rfl ?_
  refine g_iconst (v := 3) S dL_law_575 rfl ?_
  refine g_iadd S dL_law_576 ?_
  refine g_sld S X (vi_5 (j := 3) hi (by decide) hL) dL_law_577 ?_
  obtain ⟨hz, hc, res, h1, h2, h3, h4⟩ := HI a.1 M (xs (Int32.toNatClampNeg (nI i + 1))) (xs (Int32.toNatClampNeg (nI i + 2))) (xs (Int32.toNatClampNeg (nI i + 3))) inv
  refine g_cVA (st := []) S ob_50 rfl ok_X7_line lk_L_57 (c_X7_line hz hc h1 h2) rfl rfl ⟨by decide, by decide⟩ ⟨rfl, rfl⟩ hroom (Nat.le_of_ble_eq_true rfl) dL_law_578 (fun r u hp => ?_)
  have S := Sx.up (c := kc K + 2) (n0 := ks K + 15) S hroom.1 hroom.2
  have X : Xs (kU K (kc K + 2) (ks K + 15)) b L xs := X
  rcases hp with ⟨e1, rfl⟩ | ⟨e1, e2, e3, e4, e5⟩
  · obtain ⟨M2, h5, h6⟩ := h3 r e1
    refine g_aload_n 2 S dL_law_581 rfl ?_
    refine g_aload_n 0 S dL_law_582 rfl ?_
    refine g_iload_n 3 S dL_law_583 rfl ?_
    refine g_iconst (v := 1) S dL_law_584 rfl ?_
    refine g_iadd S dL_law_585 ?_
    refine g_sld S X (vi_5 (j := 1) hi (by decide) hL) dL_law_586 ?_
    refine g_aload_n 0 S dL_law_587 rfl ?_
    refine g_iload_n 3 S dL_law_588 rfl ?_
    refine g_iconst (v := 2) S dL_law_589 rfl ?_
    refine g_iadd S dL_law_590 ?_
    refine g_sld S X (vi_5 (j := 2) hi (by decide) hL) dL_law_591 ?_
    refine g_aload_n 0 S dL_law_592 rfl ?_
    refine g_iload_n 3 S dL_law_593 rfl ?_
    refine g_iconst (v := 3) S dL_law_594 rfl ?_
    refine g_iadd S dL_law_595 ?_
    refine g_sld S X (vi_5 (j := 3) hi (by decide) hL) dL_law_596 ?_
    refine g_cVI (st := [.int r]) S ob_0 rfl ok_X8_line lk_L_60 (c_X8_line h5) rfl rfl ⟨by decide, by decide⟩ (rmD_z _) (Nat.le_of_ble_eq_true rfl) dL_law_597 ?_
    refine g_eqT (tgt := 1245) S dL_law_600 (by decide) ?_
    exact next a M2 rfl rfl h6
  · obtain ⟨M2, h5, h6⟩ := h4 e1
    rw [← e3, ← e2, ← e5] at h5
    rw [← e3] at h6
    obtain ⟨a2, M3⟩ := u
    have q5 : a.2 50 = a2.2 50 := (e4 50 (by decide)).symm
    have q0 : a.2 0 = a2.2 0 := (e4 0 (by decide)).symm
    rw [q5, q0]
    refine g_aload_n 2 S dL_law_581 rfl ?_
    refine g_aload_n 0 S dL_law_582 rfl ?_
    refine g_iload_n 3 S dL_law_583 rfl ?_
    refine g_iconst (v := 1) S dL_law_584 rfl ?_
    refine g_iadd S dL_law_585 ?_
    refine g_sld S X (vi_5 (j := 1) hi (by decide) hL) dL_law_586 ?_
    refine g_aload_n 0 S dL_law_587 rfl ?_
    refine g_iload_n 3 S dL_law_588 rfl ?_
    refine g_iconst (v := 2) S dL_law_589 rfl ?_
    refine g_iadd S dL_law_590 ?_
    refine g_sld S X (vi_5 (j := 2) hi (by decide) hL) dL_law_591 ?_
    refine g_aload_n 0 S dL_law_592 rfl ?_
    refine g_iload_n 3 S dL_law_593 rfl ?_
    refine g_iconst (v := 3) S dL_law_594 rfl ?_
    refine g_iadd S dL_law_595 ?_
    refine g_sld S X (vi_5 (j := 3) hi (by decide) hL) dL_law_596 ?_
    refine g_cVI (st := [.int r]) S ob_0 rfl ok_X8_line lk_L_60 (c_X8_line h5) rfl rfl ⟨by decide, by decide⟩ (rmD_z _) (Nat.le_of_ble_eq_true rfl) dL_law_597 ?_
    refine g_eqT (tgt := 1245) S dL_law_600 (by decide) ?_
    exact (by have h7 := next a2 M2 q5.symm q0.symm h6; rw [q5, q0] at h7; exact h7)
theorem lc_tie {Inv : (Nat → Nat) → Mem → Prop} (HI : HI_tie Inv) {K : KK} {a : AA} {M : Mem} {b L i : Nat} {xs : Nat → Int32} (S : Sx K RL cL_law 4 room_1) (X : Xs K b L xs) (hi : i + 5 ≤ L) (hL : L ≤ 2560) (inv : Inv a.1 M) (next : ∀ M', Inv a.1 M' → Go K 4 a M' 1245 [(0, .ref b), (1, .ref (a.2 50)), (2, .ref (a.2 0)), (3, .int (nI i))] []) : Go K 4 a M 605 [(0, .ref b), (1, .ref (a.2 50)), (2, .ref (a.2 0)), (3, .int (nI i))] [] := by
  refine g_aload_n 1 S dL_law_605 rfl ?_
  refine g_aload_n 0 S dL_law_606 rfl ?_
  refine g_iload_n 3 S dL_law_607 rfl ?_
  refine g_iconst (v := 1) S dL_law_608 rfl ?_
  refine g_iadd S dL_law_609 ?_
  refine g_sld S X (vi_5 (j := 1) hi (by decide) hL) dL_law_610 ?_
  refine g_aload_n 0 S dL_law_611 rfl ?_
  refine g_iload_n 3 S dL_law_612 rfl ?_
  refine g_iconst (v := 2) S dL_law_613 rfl ?_
  refine g_iadd S dL_law_614 ?_
  refine g_sld S X (vi_5 (j := 2) hi (by decide) hL) dL_law_615 ?_
  refine g_aload_n 0 S dL_law_616 rfl ?_
  refine g_iload_n 3 S dL_law_617 rfl ?_
  refine g_iconst (v := 3) S dL_law_618 rfl ?_
  refine g_iadd S dL_law_619 ?_
  refine g_sld S X (vi_5 (j := 3) hi (by decide) hL) dL_law_620 ?_
  obtain ⟨r, M1, M2, h1, h2, h3⟩ := HI a.1 M (xs (Int32.toNatClampNeg (nI i + 1))) (xs (Int32.toNatClampNeg (nI i + 2))) (xs (Int32.toNatClampNeg (nI i + 3))) inv
  refine g_cVI (st := []) S ob_50 rfl ok_X7_tie lk_L_61 (c_X7_tie h1) rfl rfl ⟨by decide, by decide⟩ (rmD_z _) (Nat.le_of_ble_eq_true rfl) dL_law_621 ?_
  refine g_aload_n 2 S dL_law_624 rfl ?_
  refine g_aload_n 0 S dL_law_625 rfl ?_
  refine g_iload_n 3 S dL_law_626 rfl ?_
  refine g_iconst (v := 1) S dL_law_627 rfl ?_
  refine g_iadd S dL_law_628 ?_
  refine g_sld S X (vi_5 (j := 1) hi (by decide) hL) dL_law_629 ?_
  refine g_aload_n 0 S dL_law_630 rfl ?_
  refine g_iload_n 3 S dL_law_631 rfl ?_
  refine g_iconst (v := 2) S dL_law_632 rfl ?_
  refine g_iadd S dL_law_633 ?_
  refine g_sld S X (vi_5 (j := 2) hi (by decide) hL) dL_law_634 ?_
  refine g_aload_n 0 S dL_law_635 rfl ?_
  refine g_iload_n 3 S dL_law_636 rfl ?_
  refine g_iconst (v := 3) S dL_law_637 rfl ?_
  refine g_iadd S dL_law_638 ?_
  refine g_sld S X (vi_5 (j := 3) hi (by decide) hL) dL_law_639 ?_
  refine g_cVI (st := [.int r]) S ob_0 rfl ok_X8_tie lk_L_64 (c_X8_tie h2) rfl rfl ⟨by decide, by decide⟩ (rmD_z _) (Nat.le_of_ble_eq_true rfl) dL_law_640 ?_
  refine g_eqT (tgt := 1245) S dL_law_643 (by decide) ?_
  exact next M2 h3
theorem lc_untie {Inv : (Nat → Nat) → Mem → Prop} (HI : HI_untie Inv) {K : KK} {a : AA} {M : Mem} {b L i : Nat} {xs : Nat → Int32} (S : Sx K RL cL_law 4 room_1) (X : Xs K b L xs) (hi : i + 5 ≤ L) (hL : L ≤ 2560) (inv : Inv a.1 M) (next : ∀ M', Inv a.1 M' → Go K 4 a M' 1245 [(0, .ref b), (1, .ref (a.2 50)), (2, .ref (a.2 0)), (3, .int (nI i))] []) : Go K 4 a M 648 [(0, .ref b), (1, .ref (a.2 50)), (2, .ref (a.2 0)), (3, .int (nI i))] [] := by
  refine g_aload_n 1 S dL_law_648 rfl ?_
  refine g_aload_n 0 S dL_law_649 rfl ?_
  refine g_iload_n 3 S dL_law_650 rfl ?_
  refine g_iconst (v := 1) S dL_law_651 rfl ?_
  refine g_iadd S dL_law_652 ?_
  refine g_sld S X (vi_5 (j := 1) hi (by decide) hL) dL_law_653 ?_
  obtain ⟨r, M1, M2, h1, h2, h3⟩ := HI a.1 M (xs (Int32.toNatClampNeg (nI i + 1))) inv
  refine g_cVI (st := []) S ob_50 rfl ok_X7_untie lk_L_65 (c_X7_untie h1) rfl rfl ⟨by decide, by decide⟩ (rmD_z _) (Nat.le_of_ble_eq_true rfl) dL_law_654 ?_
  refine g_aload_n 2 S dL_law_657 rfl ?_
  refine g_aload_n 0 S dL_law_658 rfl ?_
  refine g_iload_n 3 S dL_law_659 rfl ?_
  refine g_iconst (v := 1) S dL_law_660 rfl ?_
  refine g_iadd S dL_law_661 ?_
  refine g_sld S X (vi_5 (j := 1) hi (by decide) hL) dL_law_662 ?_
  refine g_cVI (st := [.int r]) S ob_0 rfl ok_X8_untie lk_L_69 (c_X8_untie h2) rfl rfl ⟨by decide, by decide⟩ (rmD_z _) (Nat.le_of_ble_eq_true rfl) dL_law_663 ?_
  refine g_eqT (tgt := 1245) S dL_law_666 (by decide) ?_
  exact next M2 h3
theorem lc_weaken {Inv : (Nat → Nat) → Mem → Prop} (HI : HI_weaken Inv) {K : KK} {a : AA} {M : Mem} {b L i : Nat} {xs : Nat → Int32} (S : Sx K RL cL_law 4 room_1) (X : Xs K b L xs) (hi : i + 5 ≤ L) (hL : L ≤ 2560) (inv : Inv a.1 M) (next : ∀ M', Inv a.1 M' → Go K 4 a M' 1245 [(0, .ref b), (1, .ref (a.2 50)), (2, .ref (a.2 0)), (3, .int (nI i))] []) : Go K 4 a M 671 [(0, .ref b), (1, .ref (a.2 50)), (2, .ref (a.2 0)), (3, .int (nI i))] [] := by
  refine g_aload_n 1 S dL_law_671 rfl ?_
  refine g_aload_n 0 S dL_law_672 rfl ?_
  refine g_iload_n 3 S dL_law_673 rfl ?_
  refine g_iconst (v := 1) S dL_law_674 rfl ?_
  refine g_iadd S dL_law_675 ?_
  refine g_sld S X (vi_5 (j := 1) hi (by decide) hL) dL_law_676 ?_
  refine g_aload_n 0 S dL_law_677 rfl ?_
  refine g_iload_n 3 S dL_law_678 rfl ?_
  refine g_iconst (v := 2) S dL_law_679 rfl ?_
  refine g_iadd S dL_law_680 ?_
  refine g_sld S X (vi_5 (j := 2) hi (by decide) hL) dL_law_681 ?_
  obtain ⟨r, M1, M2, h1, h2, h3⟩ := HI a.1 M (xs (Int32.toNatClampNeg (nI i + 1))) (xs (Int32.toNatClampNeg (nI i + 2))) inv
  refine g_cVI (st := []) S ob_50 rfl ok_X7_weaken lk_L_70 (c_X7_weaken h1) rfl rfl ⟨by decide, by decide⟩ (rmD_z _) (Nat.le_of_ble_eq_true rfl) dL_law_682 ?_
  refine g_aload_n 2 S dL_law_685 rfl ?_
  refine g_aload_n 0 S dL_law_686 rfl ?_
  refine g_iload_n 3 S dL_law_687 rfl ?_
  refine g_iconst (v := 1) S dL_law_688 rfl ?_
  refine g_iadd S dL_law_689 ?_
  refine g_sld S X (vi_5 (j := 1) hi (by decide) hL) dL_law_690 ?_
  refine g_aload_n 0 S dL_law_691 rfl ?_
  refine g_iload_n 3 S dL_law_692 rfl ?_
  refine g_iconst (v := 2) S dL_law_693 rfl ?_
  refine g_iadd S dL_law_694 ?_
  refine g_sld S X (vi_5 (j := 2) hi (by decide) hL) dL_law_695 ?_
  refine g_cVI (st := [.int r]) S ob_0 rfl ok_X8_weaken lk_L_73 (c_X8_weaken h2) rfl rfl ⟨by decide, by decide⟩ (rmD_z _) (Nat.le_of_ble_eq_true rfl) dL_law_696 ?_
  refine g_eqT (tgt := 1245) S dL_law_699 (by decide) ?_
  exact next M2 h3
theorem lc_ofLine {Inv : (Nat → Nat) → Mem → Prop} (HI : HI_ofLine Inv) {K : KK} {a : AA} {M : Mem} {b L i : Nat} {xs : Nat → Int32} (S : Sx K RL cL_law 4 room_1) (X : Xs K b L xs) (hi : i + 5 ≤ L) (hL : L ≤ 2560) (inv : Inv a.1 M) (next : ∀ M', Inv a.1 M' → Go K 4 a M' 1245 [(0, .ref b), (1, .ref (a.2 50)), (2, .ref (a.2 0)), (3, .int (nI i))] []) : Go K 4 a M 704 [(0, .ref b), (1, .ref (a.2 50)), (2, .ref (a.2 0)), (3, .int (nI i))] [] := by
  refine g_aload_n 1 S dL_law_704 rfl ?_
  refine g_aload_n 0 S dL_law_705 rfl ?_
  refine g_iload_n 3 S dL_law_706 rfl ?_
  refine g_iconst (v := 1) S dL_law_707 rfl ?_
  refine g_iadd S dL_law_708 ?_
  refine g_sld S X (vi_5 (j := 1) hi (by decide) hL) dL_law_709 ?_
  refine g_aload_n 0 S dL_law_710 rfl ?_
  refine g_iload_n 3 S dL_law_711 rfl ?_
  refine g_iconst (v := 2) S dL_law_712 rfl ?_
  refine g_iadd S dL_law_713 ?_
  refine g_sld S X (vi_5 (j := 2) hi (by decide) hL) dL_law_714 ?_
  obtain ⟨r, M1, M2, h1, h2, h3⟩ := HI a.1 M (xs (Int32.toNatClampNeg (nI i + 1))) (xs (Int32.toNatClampNeg (nI i + 2))) inv
  refine g_cVI (st := []) S ob_50 rfl ok_X7_ofLine lk_L_74 (c_X7_ofLine h1) rfl rfl ⟨by decide, by decide⟩ (rmD_z _) (Nat.le_of_ble_eq_true rfl) dL_law_715 ?_
  refine g_aload_n 2 S dL_law_718 rfl ?_
  refine g_aload_n 0 S dL_law_719 rfl ?_
  refine g_iload_n 3 S dL_law_720 rfl ?_
  refine g_iconst (v := 1) S dL_law_721 rfl ?_
  refine g_iadd S dL_law_722 ?_
  refine g_sld S X (vi_5 (j := 1) hi (by decide) hL) dL_law_723 ?_
  refine g_aload_n 0 S dL_law_724 rfl ?_
  refine g_iload_n 3 S dL_law_725 rfl ?_
  refine g_iconst (v := 2) S dL_law_726 rfl ?_
  refine g_iadd S dL_law_727 ?_
  refine g_sld S X (vi_5 (j := 2) hi (by decide) hL) dL_law_728 ?_
  refine g_cVI (st := [.int r]) S ob_0 rfl ok_X8_ofLine lk_L_77 (c_X8_ofLine h2) rfl rfl ⟨by decide, by decide⟩ (rmD_z _) (Nat.le_of_ble_eq_true rfl) dL_law_729 ?_
  refine g_eqT (tgt := 1245) S dL_law_732 (by decide) ?_
  exact next M2 h3
theorem lc_step {Inv : (Nat → Nat) → Mem → Prop} (HI : HI_step Inv) {K : KK} {a : AA} {M : Mem} {b L i : Nat} {xs : Nat → Int32} (S : Sx K RL cL_law 4 room_1) (X : Xs K b L xs) (hi : i + 5 ≤ L) (hL : L ≤ 2560) (inv : Inv a.1 M) (next : ∀ M', Inv a.1 M' → Go K 4 a M' 1245 [(0, .ref b), (1, .ref (a.2 50)), (2, .ref (a.2 0)), (3, .int (nI i))] []) : Go K 4 a M 737 [(0, .ref b), (1, .ref (a.2 50)), (2, .ref (a.2 0)), (3, .int (nI i))] [] := by
  refine g_aload_n 1 S dL_law_737 rfl ?_
  refine g_aload_n 0 S dL_law_738 rfl ?_
  refine g_iload_n 3 S dL_law_739 rfl ?_
  refine g_iconst (v := 1) S dL_law_740 rfl ?_
  refine g_iadd S dL_law_741 ?_
  refine g_sld S X (vi_5 (j := 1) hi (by decide) hL) dL_law_742 ?_
  refine g_aload_n 0 S dL_law_743 rfl ?_
  refine g_iload_n 3 S dL_law_744 rfl ?_
  refine g_iconst (v := 2) S dL_law_745 rfl ?_
  refine g_iadd S dL_law_746 ?_
  refine g_sld S X (vi_5 (j := 2) hi (by decide) hL) dL_law_747 ?_
  refine g_aload_n 0 S dL_law_748 rfl ?_
  refine g_iload_n 3 S dL_law_749 rfl ?_
  refine g_iconst (v := 3) S dL_law_750 rfl ?_
  refine g_iadd S dL_law_751 ?_
  refine g_sld S X (vi_5 (j := 3) hi (by decide) hL) dL_law_752 ?_
  obtain ⟨r, M1, M2, h1, h2, h3⟩ := HI a.1 M (xs (Int32.toNatClampNeg (nI i + 1))) (xs (Int32.toNatClampNeg (nI i + 2))) (xs (Int32.toNatClampNeg (nI i + 3))) inv
  refine g_cVI (st := []) S ob_50 rfl ok_X7_step lk_L_78 (c_X7_step h1) rfl rfl ⟨by decide, by decide⟩ (rmD_z _) (Nat.le_of_ble_eq_true rfl) dL_law_753 ?_
  refine g_aload_n 2 S dL_law_756 rfl ?_
  refine g_aload_n 0 S dL_law_757 rfl ?_
  refine g_iload_n 3 S dL_law_758 rfl ?_
  refine g_iconst (v := 1) S dL_law_759 rfl ?_
  refine g_iadd S dL_law_760 ?_
  refine g_sld S X (vi_5 (j := 1) hi (by decide) hL) dL_law_761 ?_
  refine g_aload_n 0 S dL_law_762 rfl ?_
  refine g_iload_n 3 S dL_law_763 rfl ?_
  refine g_iconst (v := 2) S dL_law_764 rfl ?_
  refine g_iadd S dL_law_765 ?_
  refine g_sld S X (vi_5 (j := 2) hi (by decide) hL) dL_law_766 ?_
  refine g_aload_n 0 S dL_law_767 rfl ?_
  refine g_iload_n 3 S dL_law_768 rfl ?_
  refine g_iconst (v := 3) S dL_law_769 rfl ?_
  refine g_iadd S dL_law_770 ?_
  refine g_sld S X (vi_5 (j := 3) hi (by decide) hL) dL_law_771 ?_
  refine g_cVI (st := [.int r]) S ob_0 rfl ok_X8_step lk_L_81 (c_X8_step h2) rfl rfl ⟨by decide, by decide⟩ (rmD_z _) (Nat.le_of_ble_eq_true rfl) dL_law_772 ?_
  refine g_eqT (tgt := 1245) S dL_law_775 (by decide) ?_
  exact next M2 h3
theorem lc_part {Inv : (Nat → Nat) → Mem → Prop} (HI : HI_part Inv) {K : KK} {a : AA} {M : Mem} {b L i : Nat} {xs : Nat → Int32} (S : Sx K RL cL_law 4 room_1) (X : Xs K b L xs) (hi : i + 5 ≤ L) (hL : L ≤ 2560) (inv : Inv a.1 M) (next : ∀ M', Inv a.1 M' → Go K 4 a M' 1245 [(0, .ref b), (1, .ref (a.2 50)), (2, .ref (a.2 0)), (3, .int (nI i))] []) : Go K 4 a M 780 [(0, .ref b), (1, .ref (a.2 50)), (2, .ref (a.2 0)), (3, .int (nI i))] [] := by
  refine g_aload_n 1 S dL_law_780 rfl ?_
  refine g_aload_n 0 S dL_law_781 rfl ?_
  refine g_iload_n 3 S dL_law_782 rfl ?_
  refine g_iconst (v := 1) S dL_law_783 rfl ?_
  refine g_iadd S dL_law_784 ?_
  refine g_sld S X (vi_5 (j := 1) hi (by decide) hL) dL_law_785 ?_
  obtain ⟨r, M1, M2, h1, h2, h3⟩ := HI a.1 M (xs (Int32.toNatClampNeg (nI i + 1))) inv
  refine g_cVI (st := []) S ob_50 rfl ok_X7_part lk_L_82 (c_X7_part h1) rfl rfl ⟨by decide, by decide⟩ (rmD_z _) (Nat.le_of_ble_eq_true rfl) dL_law_786 ?_
  refine g_aload_n 2 S dL_law_789 rfl ?_
  refine g_aload_n 0 S dL_law_790 rfl ?_
  refine g_iload_n 3 S dL_law_791 rfl ?_
  refine g_iconst (v := 1) S dL_law_792 rfl ?_
  refine g_iadd S dL_law_793 ?_
  refine g_sld S X (vi_5 (j := 1) hi (by decide) hL) dL_law_794 ?_
  refine g_cVI (st := [.int r]) S ob_0 rfl ok_X8_part lk_L_85 (c_X8_part h2) rfl rfl ⟨by decide, by decide⟩ (rmD_z _) (Nat.le_of_ble_eq_true rfl) dL_law_795 ?_
  refine g_eqT (tgt := 1245) S dL_law_798 (by decide) ?_
  exact next M2 h3
theorem lc_least {Inv : (Nat → Nat) → Mem → Prop} (HI : HI_least Inv) {K : KK} {a : AA} {M : Mem} {b L i : Nat} {xs : Nat → Int32} (S : Sx K RL cL_law 4 room_1) (X : Xs K b L xs) (hi : i + 5 ≤ L) (hL : L ≤ 2560) (inv : Inv a.1 M) (next : ∀ M', Inv a.1 M' → Go K 4 a M' 1245 [(0, .ref b), (1, .ref (a.2 50)), (2, .ref (a.2 0)), (3, .int (nI i))] []) : Go K 4 a M 803 [(0, .ref b), (1, .ref (a.2 50)), (2, .ref (a.2 0)), (3, .int (nI i))] [] := by
  refine g_aload_n 1 S dL_law_803 rfl ?_
  refine g_aload_n 0 S dL_law_804 rfl ?_
  refine g_iload_n 3 S dL_law_805 rfl ?_
  refine g_iconst (v := 1) S dL_law_806 rfl ?_
  refine g_iadd S dL_law_807 ?_
  refine g_sld S X (vi_5 (j := 1) hi (by decide) hL) dL_law_808 ?_
  refine g_aload_n 0 S dL_law_809 rfl ?_
  refine g_iload_n 3 S dL_law_810 rfl ?_
  refine g_iconst (v := 2) S dL_law_811 rfl ?_
  refine g_iadd S dL_law_812 ?_
  refine g_sld S X (vi_5 (j := 2) hi (by decide) hL) dL_law_813 ?_
  obtain ⟨r, M2, h1, h2, h3⟩ := HI a.1 M (xs (Int32.toNatClampNeg (nI i + 1))) (xs (Int32.toNatClampNeg (nI i + 2))) inv
  refine g_cVI (st := []) S ob_50 rfl ok_X7_least lk_L_86 (c_X7_least h1) rfl rfl ⟨by decide, by decide⟩ (rmD_z _) (Nat.le_of_ble_eq_true rfl) dL_law_814 ?_
  refine g_aload_n 2 S dL_law_817 rfl ?_
  refine g_aload_n 0 S dL_law_818 rfl ?_
  refine g_iload_n 3 S dL_law_819 rfl ?_
  refine g_iconst (v := 1) S dL_law_820 rfl ?_
  refine g_iadd S dL_law_821 ?_
  refine g_sld S X (vi_5 (j := 1) hi (by decide) hL) dL_law_822 ?_
  refine g_aload_n 0 S dL_law_823 rfl ?_
  refine g_iload_n 3 S dL_law_824 rfl ?_
  refine g_iconst (v := 2) S dL_law_825 rfl ?_
  refine g_iadd S dL_law_826 ?_
  refine g_sld S X (vi_5 (j := 2) hi (by decide) hL) dL_law_827 ?_
  refine g_cVI (st := [.int r]) S ob_0 rfl ok_X8_least lk_L_89 (c_X8_least h2) rfl rfl ⟨by decide, by decide⟩ (rmD_z _) (Nat.le_of_ble_eq_true rfl) dL_law_828 ?_
  refine g_eqT (tgt := 1245) S dL_law_831 (by decide) ?_
  exact next M2 h3
theorem lc_flyer {Inv : (Nat → Nat) → Mem → Prop} (HI : HI_flyer Inv) {K : KK} {a : AA} {M : Mem} {b L i : Nat} {xs : Nat → Int32} (S : Sx K RL cL_law 4 room_1) (X : Xs K b L xs) (hi : i + 5 ≤ L) (hL : L ≤ 2560) (hroom : kc K + 1 ≤ room_1.cells ∧ ks K + 4 ≤ room_1.slots) (inv : Inv a.1 M) (next : ∀ (a' : AA) (M' : Mem), a'.2 50 = a.2 50 → a'.2 0 = a.2 0 → Inv a'.1 M' → Go (kU K (kc K + 1) (ks K + 4)) 4 a' M' 1245 [(0, .ref b), (1, .ref (a.2 50)), (2, .ref (a.2 0)), (3, .int (nI i))] []) : Go K 4 a M 836 [(0, .ref b), (1, .ref (a.2 50)), (2, .ref (a.2 0)), (3, .int (nI i))] [] := by
  refine g_aload_n 1 S dL_law_836 rfl ?_
  refine g_aload_n 0 S dL_law_837 rfl ?_
  refine g_iload_n 3 S dL_law_838 rfl ?_
  refine g_iconst (v := 1) S dL_law_839 rfl ?_
  refine g_iadd S dL_law_840 ?_
  refine g_sld S X (vi_5 (j := 1) hi (by decide) hL) dL_law_841 ?_
  refine g_aload_n 0 S dL_law_842 rfl ?_
  refine g_iload_n 3 S dL_law_843 rfl ?_
  refine g_iconst (v := 2) S dL_law_844 rfl ?_
  refine g_iadd S dL_law_845 ?_
  refine g_sld S X (vi_5 (j := 2) hi (by decide) hL) dL_law_846 ?_
  obtain ⟨hz, hc, res, h1, h2, h3, h4⟩ := HI a.1 M (xs (Int32.toNatClampNeg (nI i + 1))) (xs (Int32.toNatClampNeg (nI i + 2))) inv
  refine g_cVA (st := []) S ob_50 rfl ok_X7_flyer lk_L_90 (c_X7_flyer hz hc h1 h2) rfl rfl ⟨by decide, by decide⟩ ⟨rfl, rfl⟩ hroom (Nat.le_of_ble_eq_true rfl) dL_law_847 (fun r u hp => ?_)
  have S := Sx.up (c := kc K + 1) (n0 := ks K + 4) S hroom.1 hroom.2
  have X : Xs (kU K (kc K + 1) (ks K + 4)) b L xs := X
  rcases hp with ⟨e1, rfl⟩ | ⟨e1, e2, e3, e4, e5⟩
  · obtain ⟨M2, h5, h6⟩ := h3 r e1
    refine g_aload_n 2 S dL_law_850 rfl ?_
    refine g_aload_n 0 S dL_law_851 rfl ?_
    refine g_iload_n 3 S dL_law_852 rfl ?_
    refine g_iconst (v := 1) S dL_law_853 rfl ?_
    refine g_iadd S dL_law_854 ?_
    refine g_sld S X (vi_5 (j := 1) hi (by decide) hL) dL_law_855 ?_
    refine g_aload_n 0 S dL_law_856 rfl ?_
    refine g_iload_n 3 S dL_law_857 rfl ?_
    refine g_iconst (v := 2) S dL_law_858 rfl ?_
    refine g_iadd S dL_law_859 ?_
    refine g_sld S X (vi_5 (j := 2) hi (by decide) hL) dL_law_860 ?_
    refine g_cVI (st := [.int r]) S ob_0 rfl ok_X8_flyer lk_L_93 (c_X8_flyer h5) rfl rfl ⟨by decide, by decide⟩ (rmD_z _) (Nat.le_of_ble_eq_true rfl) dL_law_861 ?_
    refine g_eqT (tgt := 1245) S dL_law_864 (by decide) ?_
    exact next a M2 rfl rfl h6
  · obtain ⟨M2, h5, h6⟩ := h4 e1
    rw [← e3, ← e2, ← e5] at h5
    rw [← e3] at h6
    obtain ⟨a2, M3⟩ := u
    have q5 : a.2 50 = a2.2 50 := (e4 50 (by decide)).symm
    have q0 : a.2 0 = a2.2 0 := (e4 0 (by decide)).symm
    rw [q5, q0]
    refine g_aload_n 2 S dL_law_850 rfl ?_
    refine g_aload_n 0 S dL_law_851 rfl ?_
    refine g_iload_n 3 S dL_law_852 rfl ?_
    refine g_iconst (v := 1) S dL_law_853 rfl ?_
    refine g_iadd S dL_law_854 ?_
    refine g_sld S X (vi_5 (j := 1) hi (by decide) hL) dL_law_855 ?_
    refine g_aload_n 0 S dL_law_856 rfl ?_
    refine g_iload_n 3 S dL_law_857 rfl ?_
    refine g_iconst (v := 2) S dL_law_858 rfl ?_
    refine g_iadd S dL_law_859 ?_
    refine g_sld S X (vi_5 (j := 2) hi (by decide) hL) dL_law_860 ?_
    refine g_cVI (st := [.int r]) S ob_0 rfl ok_X8_flyer lk_L_93 (c_X8_flyer h5) rfl rfl ⟨by decide, by decide⟩ (rmD_z _) (Nat.le_of_ble_eq_true rfl) dL_law_861 ?_
    refine g_eqT (tgt := 1245) S dL_law_864 (by decide) ?_
    exact (by have h7 := next a2 M2 q5.symm q0.symm h6; rw [q5, q0] at h7; exact h7)
theorem lc_blow {Inv : (Nat → Nat) → Mem → Prop} (HI : HI_blow Inv) {K : KK} {a : AA} {M : Mem} {b L i : Nat} {xs : Nat → Int32} (S : Sx K RL cL_law 4 room_1) (X : Xs K b L xs) (hi : i + 5 ≤ L) (hL : L ≤ 2560) (inv : Inv a.1 M) (next : ∀ M', Inv a.1 M' → Go K 4 a M' 1245 [(0, .ref b), (1, .ref (a.2 50)), (2, .ref (a.2 0)), (3, .int (nI i))] []) : Go K 4 a M 869 [(0, .ref b), (1, .ref (a.2 50)), (2, .ref (a.2 0)), (3, .int (nI i))] [] := by
  refine g_aload_n 1 S dL_law_869 rfl ?_
  refine g_aload_n 0 S dL_law_870 rfl ?_
  refine g_iload_n 3 S dL_law_871 rfl ?_
  refine g_iconst (v := 1) S dL_law_872 rfl ?_
  refine g_iadd S dL_law_873 ?_
  refine g_sld S X (vi_5 (j := 1) hi (by decide) hL) dL_law_874 ?_
  refine g_aload_n 0 S dL_law_875 rfl ?_
  refine g_iload_n 3 S dL_law_876 rfl ?_
  refine g_iconst (v := 2) S dL_law_877 rfl ?_
  refine g_iadd S dL_law_878 ?_
  refine g_sld S X (vi_5 (j := 2) hi (by decide) hL) dL_law_879 ?_
  obtain ⟨r, M1, M2, h1, h2, h3⟩ := HI a.1 M (xs (Int32.toNatClampNeg (nI i + 1))) (xs (Int32.toNatClampNeg (nI i + 2))) inv
  refine g_cVI (st := []) S ob_50 rfl ok_X7_blow lk_L_94 (c_X7_blow h1) rfl rfl ⟨by decide, by decide⟩ (rmD_z _) (Nat.le_of_ble_eq_true rfl) dL_law_880 ?_
  refine g_aload_n 2 S dL_law_883 rfl ?_
  refine g_aload_n 0 S dL_law_884 rfl ?_
  refine g_iload_n 3 S dL_law_885 rfl ?_
  refine g_iconst (v := 1) S dL_law_886 rfl ?_
  refine g_iadd S dL_law_887 ?_
  refine g_sld S X (vi_5 (j := 1) hi (by decide) hL) dL_law_888 ?_
  refine g_aload_n 0 S dL_law_889 rfl ?_
  refine g_iload_n 3 S dL_law_890 rfl ?_
  refine g_iconst (v := 2) S dL_law_891 rfl ?_
  refine g_iadd S dL_law_892 ?_
  refine g_sld S X (vi_5 (j := 2) hi (by decide) hL) dL_law_893 ?_
  refine g_cVI (st := [.int r]) S ob_0 rfl ok_X8_blow lk_L_97 (c_X8_blow h2) rfl rfl ⟨by decide, by decide⟩ (rmD_z _) (Nat.le_of_ble_eq_true rfl) dL_law_894 ?_
  refine g_eqT (tgt := 1245) S dL_law_897 (by decide) ?_
  exact next M2 h3
theorem lc_tree {Inv : (Nat → Nat) → Mem → Prop} (HI : HI_tree Inv) {K : KK} {a : AA} {M : Mem} {b L i : Nat} {xs : Nat → Int32} (S : Sx K RL cL_law 4 room_1) (X : Xs K b L xs) (hi : i + 5 ≤ L) (hL : L ≤ 2560) (inv : Inv a.1 M) (next : ∀ M', Inv a.1 M' → Go K 4 a M' 1245 [(0, .ref b), (1, .ref (a.2 50)), (2, .ref (a.2 0)), (3, .int (nI i))] []) : Go K 4 a M 902 [(0, .ref b), (1, .ref (a.2 50)), (2, .ref (a.2 0)), (3, .int (nI i))] [] := by
  refine g_aload_n 1 S dL_law_902 rfl ?_
  refine g_aload_n 0 S dL_law_903 rfl ?_
  refine g_iload_n 3 S dL_law_904 rfl ?_
  refine g_iconst (v := 1) S dL_law_905 rfl ?_
  refine g_iadd S dL_law_906 ?_
  refine g_sld S X (vi_5 (j := 1) hi (by decide) hL) dL_law_907 ?_
  obtain ⟨r, M1, M2, h1, h2, h3⟩ := HI a.1 M (xs (Int32.toNatClampNeg (nI i + 1))) inv
  refine g_cVI (st := []) S ob_50 rfl ok_X7_tree lk_L_98 (c_X7_tree h1) rfl rfl ⟨by decide, by decide⟩ (rmD_z _) (Nat.le_of_ble_eq_true rfl) dL_law_908 ?_
  refine g_aload_n 2 S dL_law_911 rfl ?_
  refine g_aload_n 0 S dL_law_912 rfl ?_
  refine g_iload_n 3 S dL_law_913 rfl ?_
  refine g_iconst (v := 1) S dL_law_914 rfl ?_
  refine g_iadd S dL_law_915 ?_
  refine g_sld S X (vi_5 (j := 1) hi (by decide) hL) dL_law_916 ?_
  refine g_cVI (st := [.int r]) S ob_0 rfl ok_X8_tree lk_L_101 (c_X8_tree h2) rfl rfl ⟨by decide, by decide⟩ (rmD_z _) (Nat.le_of_ble_eq_true rfl) dL_law_917 ?_
  refine g_eqT (tgt := 1245) S dL_law_920 (by decide) ?_
  exact next M2 h3
theorem lc_agree {Inv : (Nat → Nat) → Mem → Prop} (HI : HI_agree Inv) {K : KK} {a : AA} {M : Mem} {b L i : Nat} {xs : Nat → Int32} (S : Sx K RL cL_law 4 room_1) (X : Xs K b L xs) (hi : i + 5 ≤ L) (hL : L ≤ 2560) (inv : Inv a.1 M) (next : ∀ M', Inv a.1 M' → Go K 4 a M' 1245 [(0, .ref b), (1, .ref (a.2 50)), (2, .ref (a.2 0)), (3, .int (nI i))] []) : Go K 4 a M 925 [(0, .ref b), (1, .ref (a.2 50)), (2, .ref (a.2 0)), (3, .int (nI i))] [] := by
  refine g_aload_n 1 S dL_law_925 rfl ?_
  refine g_aload_n 0 S dL_law_926 rfl ?_
  refine g_iload_n 3 S dL_law_927 rfl ?_
  refine g_iconst (v := 1) S dL_law_928 rfl ?_
  refine g_iadd S dL_law_929 ?_
  refine g_sld S X (vi_5 (j := 1) hi (by decide) hL) dL_law_930 ?_
  refine g_aload_n 0 S dL_law_931 rfl ?_
  refine g_iload_n 3 S dL_law_932 rfl ?_
  refine g_iconst (v := 2) S dL_law_933 rfl ?_
  refine g_iadd S dL_law_934 ?_
  refine g_sld S X (vi_5 (j := 2) hi (by decide) hL) dL_law_935 ?_
  refine g_aload_n 0 S dL_law_936 rfl ?_
  refine g_iload_n 3 S dL_law_937 rfl ?_
  refine g_iconst (v := 3) S dL_law_938 rfl ?_
  refine g_iadd S dL_law_939 ?_
  refine g_sld S X (vi_5 (j := 3) hi (by decide) hL) dL_law_940 ?_
  obtain ⟨r, M1, M2, h1, h2, h3⟩ := HI a.1 M (xs (Int32.toNatClampNeg (nI i + 1))) (xs (Int32.toNatClampNeg (nI i + 2))) (xs (Int32.toNatClampNeg (nI i + 3))) inv
  refine g_cVI (st := []) S ob_50 rfl ok_X7_agree lk_L_102 (c_X7_agree h1) rfl rfl ⟨by decide, by decide⟩ (rmD_z _) (Nat.le_of_ble_eq_true rfl) dL_law_941 ?_
  refine g_aload_n 2 S dL_law_944 rfl ?_
  refine g_aload_n 0 S dL_law_945 rfl ?_
  refine g_iload_n 3 S dL_law_946 rfl ?_
  refine g_iconst (v := 1) S dL_law_947 rfl ?_
  refine g_iadd S dL_law_948 ?_
  refine g_sld S X (vi_5 (j := 1) hi (by decide) hL) dL_law_949 ?_
  refine g_aload_n 0 S dL_law_950 rfl ?_
  refine g_iload_n 3 S dL_law_951 rfl ?_
  refine g_iconst (v := 2) S dL_law_952 rfl ?_
  refine g_iadd S dL_law_953 ?_
  refine g_sld S X (vi_5 (j := 2) hi (by decide) hL) dL_law_954 ?_
  refine g_aload_n 0 S dL_law_955 rfl ?_
  refine g_iload_n 3 S dL_law_956 rfl ?_
  refine g_iconst (v := 3) S dL_law_957 rfl ?_
  refine g_iadd S dL_law_958 ?_
  refine g_sld S X (vi_5 (j := 3) hi (by decide) hL) dL_law_959 ?_
  refine g_cVI (st := [.int r]) S ob_0 rfl ok_X8_agree lk_L_105 (c_X8_agree h2) rfl rfl ⟨by decide, by decide⟩ (rmD_z _) (Nat.le_of_ble_eq_true rfl) dL_law_960 ?_
  refine g_eqT (tgt := 1245) S dL_law_963 (by decide) ?_
  exact next M2 h3
theorem lc_fly {Inv : (Nat → Nat) → Mem → Prop} (HI : HI_fly Inv) {K : KK} {a : AA} {M : Mem} {b L i : Nat} {xs : Nat → Int32} (S : Sx K RL cL_law 4 room_1) (X : Xs K b L xs) (hi : i + 5 ≤ L) (hL : L ≤ 2560) (inv : Inv a.1 M) (next : ∀ M', Inv a.1 M' → Go K 4 a M' 1245 [(0, .ref b), (1, .ref (a.2 50)), (2, .ref (a.2 0)), (3, .int (nI i))] []) : Go K 4 a M 968 [(0, .ref b), (1, .ref (a.2 50)), (2, .ref (a.2 0)), (3, .int (nI i))] [] := by
  refine g_aload_n 1 S dL_law_968 rfl ?_
  refine g_aload_n 0 S dL_law_969 rfl ?_
  refine g_iload_n 3 S dL_law_970 rfl ?_
  refine g_iconst (v := 1) S dL_law_971 rfl ?_
  refine g_iadd S dL_law_972 ?_
  refine g_sld S X (vi_5 (j := 1) hi (by decide) hL) dL_law_973 ?_
  refine g_aload_n 0 S dL_law_974 rfl ?_
  refine g_iload_n 3 S dL_law_975 rfl ?_
  refine g_iconst (v := 2) S dL_law_976 rfl ?_
  refine g_iadd S dL_law_977 ?_
  refine g_sld S X (vi_5 (j := 2) hi (by decide) hL) dL_law_978 ?_
  obtain ⟨r, M1, M2, h1, h2, h3⟩ := HI a.1 M (xs (Int32.toNatClampNeg (nI i + 1))) (xs (Int32.toNatClampNeg (nI i + 2))) inv
  refine g_cVI (st := []) S ob_50 rfl ok_X7_fly lk_L_106 (c_X7_fly h1) rfl rfl ⟨by decide, by decide⟩ (rmD_z _) (Nat.le_of_ble_eq_true rfl) dL_law_979 ?_
  refine g_aload_n 2 S dL_law_982 rfl ?_
  refine g_aload_n 0 S dL_law_983 rfl ?_
  refine g_iload_n 3 S dL_law_984 rfl ?_
  refine g_iconst (v := 1) S dL_law_985 rfl ?_
  refine g_iadd S dL_law_986 ?_
  refine g_sld S X (vi_5 (j := 1) hi (by decide) hL) dL_law_987 ?_
  refine g_aload_n 0 S dL_law_988 rfl ?_
  refine g_iload_n 3 S dL_law_989 rfl ?_
  refine g_iconst (v := 2) S dL_law_990 rfl ?_
  refine g_iadd S dL_law_991 ?_
  refine g_sld S X (vi_5 (j := 2) hi (by decide) hL) dL_law_992 ?_
  refine g_cVI (st := [.int r]) S ob_0 rfl ok_X8_fly lk_L_109 (c_X8_fly h2) rfl rfl ⟨by decide, by decide⟩ (rmD_z _) (Nat.le_of_ble_eq_true rfl) dL_law_993 ?_
  refine g_eqT (tgt := 1245) S dL_law_996 (by decide) ?_
  exact next M2 h3
theorem lc_why {Inv : (Nat → Nat) → Mem → Prop} (HI : HI_why Inv) {K : KK} {a : AA} {M : Mem} {b L i : Nat} {xs : Nat → Int32} (S : Sx K RL cL_law 4 room_1) (X : Xs K b L xs) (hi : i + 5 ≤ L) (hL : L ≤ 2560) (inv : Inv a.1 M) (next : ∀ M', Inv a.1 M' → Go K 4 a M' 1245 [(0, .ref b), (1, .ref (a.2 50)), (2, .ref (a.2 0)), (3, .int (nI i))] []) : Go K 4 a M 1001 [(0, .ref b), (1, .ref (a.2 50)), (2, .ref (a.2 0)), (3, .int (nI i))] [] := by
  refine g_aload_n 1 S dL_law_1001 rfl ?_
  refine g_aload_n 0 S dL_law_1002 rfl ?_
  refine g_iload_n 3 S dL_law_1003 rfl ?_
  refine g_iconst (v := 1) S dL_law_1004 rfl ?_
  refine g_iadd S dL_law_1005 ?_
  refine g_sld S X (vi_5 (j := 1) hi (by decide) hL) dL_law_1006 ?_
  obtain ⟨r, M1, h1, h2, h3⟩ := HI a.1 M (xs (Int32.toNatClampNeg (nI i + 1))) inv
  refine g_cVI (st := []) S ob_50 rfl ok_X7_why lk_L_110 (c_X7_why h1) rfl rfl ⟨by decide, by decide⟩ (rmD_z _) (Nat.le_of_ble_eq_true rfl) dL_law_1007 ?_
  refine g_aload_n 2 S dL_law_1010 rfl ?_
  refine g_aload_n 0 S dL_law_1011 rfl ?_
  refine g_iload_n 3 S dL_law_1012 rfl ?_
  refine g_iconst (v := 1) S dL_law_1013 rfl ?_
  refine g_iadd S dL_law_1014 ?_
  refine g_sld S X (vi_5 (j := 1) hi (by decide) hL) dL_law_1015 ?_
  refine g_cVI (st := [.int r]) S ob_0 rfl ok_X8_why lk_L_113 (c_X8_why h2) rfl rfl ⟨by decide, by decide⟩ (rmD_z _) (Nat.le_of_ble_eq_true rfl) dL_law_1016 ?_
  refine g_eqT (tgt := 1245) S dL_law_1019 (by decide) ?_
  exact next M1 h3
theorem lc_cone {Inv : (Nat → Nat) → Mem → Prop} (HI : HI_cone Inv) {K : KK} {a : AA} {M : Mem} {b L i : Nat} {xs : Nat → Int32} (S : Sx K RL cL_law 4 room_1) (X : Xs K b L xs) (hi : i + 5 ≤ L) (hL : L ≤ 2560) (inv : Inv a.1 M) (next : ∀ M', Inv a.1 M' → Go K 4 a M' 1245 [(0, .ref b), (1, .ref (a.2 50)), (2, .ref (a.2 0)), (3, .int (nI i))] []) : Go K 4 a M 1024 [(0, .ref b), (1, .ref (a.2 50)), (2, .ref (a.2 0)), (3, .int (nI i))] [] := by
  refine g_aload_n 1 S dL_law_1024 rfl ?_
  refine g_aload_n 0 S dL_law_1025 rfl ?_
  refine g_iload_n 3 S dL_law_1026 rfl ?_
  refine g_iconst (v := 1) S dL_law_1027 rfl ?_
  refine g_iadd S dL_law_1028 ?_
  refine g_sld S X (vi_5 (j := 1) hi (by decide) hL) dL_law_1029 ?_
  refine g_aload_n 0 S dL_law_1030 rfl ?_
  refine g_iload_n 3 S dL_law_1031 rfl ?_
  refine g_iconst (v := 2) S dL_law_1032 rfl ?_
  refine g_iadd S dL_law_1033 ?_
  refine g_sld S X (vi_5 (j := 2) hi (by decide) hL) dL_law_1034 ?_
  obtain ⟨r, M1, h1, h2, h3⟩ := HI a.1 M (xs (Int32.toNatClampNeg (nI i + 1))) (xs (Int32.toNatClampNeg (nI i + 2))) inv
  refine g_cVI (st := []) S ob_50 rfl ok_X7_cone lk_L_114 (c_X7_cone h1) rfl rfl ⟨by decide, by decide⟩ (rmD_z _) (Nat.le_of_ble_eq_true rfl) dL_law_1035 ?_
  refine g_aload_n 2 S dL_law_1038 rfl ?_
  refine g_aload_n 0 S dL_law_1039 rfl ?_
  refine g_iload_n 3 S dL_law_1040 rfl ?_
  refine g_iconst (v := 1) S dL_law_1041 rfl ?_
  refine g_iadd S dL_law_1042 ?_
  refine g_sld S X (vi_5 (j := 1) hi (by decide) hL) dL_law_1043 ?_
  refine g_aload_n 0 S dL_law_1044 rfl ?_
  refine g_iload_n 3 S dL_law_1045 rfl ?_
  refine g_iconst (v := 2) S dL_law_1046 rfl ?_
  refine g_iadd S dL_law_1047 ?_
  refine g_sld S X (vi_5 (j := 2) hi (by decide) hL) dL_law_1048 ?_
  refine g_cVI (st := [.int r]) S ob_0 rfl ok_X8_cone lk_L_117 (c_X8_cone h2) rfl rfl ⟨by decide, by decide⟩ (rmD_z _) (Nat.le_of_ble_eq_true rfl) dL_law_1049 ?_
  refine g_eqT (tgt := 1245) S dL_law_1052 (by decide) ?_
  exact next M1 h3
theorem lc_turn {Inv : (Nat → Nat) → Mem → Prop} (HI : HI_turn Inv) {K : KK} {a : AA} {M : Mem} {b L i : Nat} {xs : Nat → Int32} (S : Sx K RL cL_law 4 room_1) (X : Xs K b L xs) (hi : i + 5 ≤ L) (hL : L ≤ 2560) (inv : Inv a.1 M) (next : ∀ M', Inv a.1 M' → Go K 4 a M' 1245 [(0, .ref b), (1, .ref (a.2 50)), (2, .ref (a.2 0)), (3, .int (nI i))] []) : Go K 4 a M 1057 [(0, .ref b), (1, .ref (a.2 50)), (2, .ref (a.2 0)), (3, .int (nI i))] [] := by
  refine g_aload_n 1 S dL_law_1057 rfl ?_
  refine g_aload_n 0 S dL_law_1058 rfl ?_
  refine g_iload_n 3 S dL_law_1059 rfl ?_
  refine g_iconst (v := 1) S dL_law_1060 rfl ?_
  refine g_iadd S dL_law_1061 ?_
  refine g_sld S X (vi_5 (j := 1) hi (by decide) hL) dL_law_1062 ?_
  refine g_aload_n 0 S dL_law_1063 rfl ?_
  refine g_iload_n 3 S dL_law_1064 rfl ?_
  refine g_iconst (v := 2) S dL_law_1065 rfl ?_
  refine g_iadd S dL_law_1066 ?_
  refine g_sld S X (vi_5 (j := 2) hi (by decide) hL) dL_law_1067 ?_
  refine g_aload_n 0 S dL_law_1068 rfl ?_
  refine g_iload_n 3 S dL_law_1069 rfl ?_
  refine g_iconst (v := 3) S dL_law_1070 rfl ?_
  refine g_iadd S dL_law_1071 ?_
  refine g_sld S X (vi_5 (j := 3) hi (by decide) hL) dL_law_1072 ?_
  obtain ⟨r, M1, M2, h1, h2, h3⟩ := HI a.1 M (xs (Int32.toNatClampNeg (nI i + 1))) (xs (Int32.toNatClampNeg (nI i + 2))) (xs (Int32.toNatClampNeg (nI i + 3))) inv
  refine g_cVI (st := []) S ob_50 rfl ok_X7_turn lk_L_118 (c_X7_turn h1) rfl rfl ⟨by decide, by decide⟩ (rmD_z _) (Nat.le_of_ble_eq_true rfl) dL_law_1073 ?_
  refine g_aload_n 2 S dL_law_1076 rfl ?_
  refine g_aload_n 0 S dL_law_1077 rfl ?_
  refine g_iload_n 3 S dL_law_1078 rfl ?_
  refine g_iconst (v := 1) S dL_law_1079 rfl ?_
  refine g_iadd S dL_law_1080 ?_
  refine g_sld S X (vi_5 (j := 1) hi (by decide) hL) dL_law_1081 ?_
  refine g_aload_n 0 S dL_law_1082 rfl ?_
  refine g_iload_n 3 S dL_law_1083 rfl ?_
  refine g_iconst (v := 2) S dL_law_1084 rfl ?_
  refine g_iadd S dL_law_1085 ?_
  refine g_sld S X (vi_5 (j := 2) hi (by decide) hL) dL_law_1086 ?_
  refine g_aload_n 0 S dL_law_1087 rfl ?_
  refine g_iload_n 3 S dL_law_1088 rfl ?_
  refine g_iconst (v := 3) S dL_law_1089 rfl ?_
  refine g_iadd S dL_law_1090 ?_
  refine g_sld S X (vi_5 (j := 3) hi (by decide) hL) dL_law_1091 ?_
  refine g_cVI (st := [.int r]) S ob_0 rfl ok_X8_turn lk_L_121 (c_X8_turn h2) rfl rfl ⟨by decide, by decide⟩ (rmD_z _) (Nat.le_of_ble_eq_true rfl) dL_law_1092 ?_
  refine g_eqT (tgt := 1245) S dL_law_1095 (by decide) ?_
  exact next M2 h3
theorem lc_tangled {Inv : (Nat → Nat) → Mem → Prop} (HI : HI_tangled Inv) {K : KK} {a : AA} {M : Mem} {b L i : Nat} {xs : Nat → Int32} (S : Sx K RL cL_law 4 room_1) (X : Xs K b L xs) (hi : i + 5 ≤ L) (hL : L ≤ 2560) (inv : Inv a.1 M) (next : ∀ M', Inv a.1 M' → Go K 4 a M' 1245 [(0, .ref b), (1, .ref (a.2 50)), (2, .ref (a.2 0)), (3, .int (nI i))] []) : Go K 4 a M 1100 [(0, .ref b), (1, .ref (a.2 50)), (2, .ref (a.2 0)), (3, .int (nI i))] [] := by
  refine g_aload_n 1 S dL_law_1100 rfl ?_
  refine g_aload_n 0 S dL_law_1101 rfl ?_
  refine g_iload_n 3 S dL_law_1102 rfl ?_
  refine g_iconst (v := 1) S dL_law_1103 rfl ?_
  refine g_iadd S dL_law_1104 ?_
  refine g_sld S X (vi_5 (j := 1) hi (by decide) hL) dL_law_1105 ?_
  refine g_aload_n 0 S dL_law_1106 rfl ?_
  refine g_iload_n 3 S dL_law_1107 rfl ?_
  refine g_iconst (v := 2) S dL_law_1108 rfl ?_
  refine g_iadd S dL_law_1109 ?_
  refine g_sld S X (vi_5 (j := 2) hi (by decide) hL) dL_law_1110 ?_
  obtain ⟨r, h1, h2, h3⟩ := HI a.1 M (xs (Int32.toNatClampNeg (nI i + 1))) (xs (Int32.toNatClampNeg (nI i + 2))) inv
  refine g_cVI (st := []) S ob_50 rfl ok_X7_tangled lk_L_122 (c_X7_tangled h1) rfl rfl ⟨by decide, by decide⟩ (rmD_z _) (Nat.le_of_ble_eq_true rfl) dL_law_1111 ?_
  refine g_aload_n 2 S dL_law_1114 rfl ?_
  refine g_aload_n 0 S dL_law_1115 rfl ?_
  refine g_iload_n 3 S dL_law_1116 rfl ?_
  refine g_iconst (v := 1) S dL_law_1117 rfl ?_
  refine g_iadd S dL_law_1118 ?_
  refine g_sld S X (vi_5 (j := 1) hi (by decide) hL) dL_law_1119 ?_
  refine g_aload_n 0 S dL_law_1120 rfl ?_
  refine g_iload_n 3 S dL_law_1121 rfl ?_
  refine g_iconst (v := 2) S dL_law_1122 rfl ?_
  refine g_iadd S dL_law_1123 ?_
  refine g_sld S X (vi_5 (j := 2) hi (by decide) hL) dL_law_1124 ?_
  refine g_cVI (st := [.int r]) S ob_0 rfl ok_X8_tangled lk_L_125 (c_X8_tangled h2) rfl rfl ⟨by decide, by decide⟩ (rmD_z _) (Nat.le_of_ble_eq_true rfl) dL_law_1125 ?_
  refine g_eqT (tgt := 1245) S dL_law_1128 (by decide) ?_
  exact next M h3
theorem lc_undo {Inv : (Nat → Nat) → Mem → Prop} (HI : HI_undo Inv) {K : KK} {a : AA} {M : Mem} {b L i : Nat} {xs : Nat → Int32} (S : Sx K RL cL_law 4 room_1) (X : Xs K b L xs) (hi : i + 5 ≤ L) (hL : L ≤ 2560) (inv : Inv a.1 M) (next : ∀ M', Inv a.1 M' → Go K 4 a M' 1245 [(0, .ref b), (1, .ref (a.2 50)), (2, .ref (a.2 0)), (3, .int (nI i))] []) : Go K 4 a M 1133 [(0, .ref b), (1, .ref (a.2 50)), (2, .ref (a.2 0)), (3, .int (nI i))] [] := by
  refine g_aload_n 1 S dL_law_1133 rfl ?_
  refine g_aload_n 0 S dL_law_1134 rfl ?_
  refine g_iload_n 3 S dL_law_1135 rfl ?_
  refine g_iconst (v := 1) S dL_law_1136 rfl ?_
  refine g_iadd S dL_law_1137 ?_
  refine g_sld S X (vi_5 (j := 1) hi (by decide) hL) dL_law_1138 ?_
  obtain ⟨r, h1, h2, h3⟩ := HI a.1 M (xs (Int32.toNatClampNeg (nI i + 1))) inv
  refine g_cVI (st := []) S ob_50 rfl ok_X7_undo lk_L_126 (c_X7_undo h1) rfl rfl ⟨by decide, by decide⟩ (rmD_z _) (Nat.le_of_ble_eq_true rfl) dL_law_1139 ?_
  refine g_aload_n 2 S dL_law_1142 rfl ?_
  refine g_aload_n 0 S dL_law_1143 rfl ?_
  refine g_iload_n 3 S dL_law_1144 rfl ?_
  refine g_iconst (v := 1) S dL_law_1145 rfl ?_
  refine g_iadd S dL_law_1146 ?_
  refine g_sld S X (vi_5 (j := 1) hi (by decide) hL) dL_law_1147 ?_
  refine g_cVI (st := [.int r]) S ob_0 rfl ok_X8_undo lk_L_129 (c_X8_undo h2) rfl rfl ⟨by decide, by decide⟩ (rmD_z _) (Nat.le_of_ble_eq_true rfl) dL_law_1148 ?_
  refine g_eqT (tgt := 1245) S dL_law_1151 (by decide) ?_
  exact next M h3
theorem lc_unwind {Inv : (Nat → Nat) → Mem → Prop} (HI : HI_unwind Inv) {K : KK} {a : AA} {M : Mem} {b L i : Nat} {xs : Nat → Int32} (S : Sx K RL cL_law 4 room_1) (X : Xs K b L xs) (hi : i + 5 ≤ L) (hL : L ≤ 2560) (inv : Inv a.1 M) (next : ∀ M', Inv a.1 M' → Go K 4 a M' 1245 [(0, .ref b), (1, .ref (a.2 50)), (2, .ref (a.2 0)), (3, .int (nI i))] []) : Go K 4 a M 1156 [(0, .ref b), (1, .ref (a.2 50)), (2, .ref (a.2 0)), (3, .int (nI i))] [] := by
  refine g_aload_n 1 S dL_law_1156 rfl ?_
  refine g_aload_n 0 S dL_law_1157 rfl ?_
  refine g_iload_n 3 S dL_law_1158 rfl ?_
  refine g_iconst (v := 1) S dL_law_1159 rfl ?_
  refine g_iadd S dL_law_1160 ?_
  refine g_sld S X (vi_5 (j := 1) hi (by decide) hL) dL_law_1161 ?_
  obtain ⟨r, M1, M2, h1, h2, h3⟩ := HI a.1 M (xs (Int32.toNatClampNeg (nI i + 1))) inv
  refine g_cVI (st := []) S ob_50 rfl ok_X7_unwind lk_L_130 (c_X7_unwind h1) rfl rfl ⟨by decide, by decide⟩ (rmD_z _) (Nat.le_of_ble_eq_true rfl) dL_law_1162 ?_
  refine g_aload_n 2 S dL_law_1165 rfl ?_
  refine g_aload_n 0 S dL_law_1166 rfl ?_
  refine g_iload_n 3 S dL_law_1167 rfl ?_
  refine g_iconst (v := 1) S dL_law_1168 rfl ?_
  refine g_iadd S dL_law_1169 ?_
  refine g_sld S X (vi_5 (j := 1) hi (by decide) hL) dL_law_1170 ?_
  refine g_cVI (st := [.int r]) S ob_0 rfl ok_X8_unwind lk_L_133 (c_X8_unwind h2) rfl rfl ⟨by decide, by decide⟩ (rmD_z _) (Nat.le_of_ble_eq_true rfl) dL_law_1171 ?_
  refine g_eqT (tgt := 1245) S dL_law_1174 (by decide) ?_
  exact next M2 h3
theorem lc_cut {Inv : (Nat → Nat) → Mem → Prop} (HI : HI_cut Inv) {K : KK} {a : AA} {M : Mem} {b L i : Nat} {xs : Nat → Int32} (S : Sx K RL cL_law 4 room_1) (X : Xs K b L xs) (hi : i + 5 ≤ L) (hL : L ≤ 2560) (inv : Inv a.1 M) (next : ∀ M', Inv a.1 M' → Go K 4 a M' 1245 [(0, .ref b), (1, .ref (a.2 50)), (2, .ref (a.2 0)), (3, .int (nI i))] []) : Go K 4 a M 1179 [(0, .ref b), (1, .ref (a.2 50)), (2, .ref (a.2 0)), (3, .int (nI i))] [] := by
  refine g_aload_n 1 S dL_law_1179 rfl ?_
  refine g_aload_n 0 S dL_law_1180 rfl ?_
  refine g_iload_n 3 S dL_law_1181 rfl ?_
  refine g_iconst (v := 1) S dL_law_1182 rfl ?_
  refine g_iadd S dL_law_1183 ?_
  refine g_sld S X (vi_5 (j := 1) hi (by decide) hL) dL_law_1184 ?_
  refine g_aload_n 0 S dL_law_1185 rfl ?_
  refine g_iload_n 3 S dL_law_1186 rfl ?_
  refine g_iconst (v := 2) S dL_law_1187 rfl ?_
  refine g_iadd S dL_law_1188 ?_
  refine g_sld S X (vi_5 (j := 2) hi (by decide) hL) dL_law_1189 ?_
  refine g_aload_n 0 S dL_law_1190 rfl ?_
  refine g_iload_n 3 S dL_law_1191 rfl ?_
  refine g_iconst (v := 3) S dL_law_1192 rfl ?_
  refine g_iadd S dL_law_1193 ?_
  refine g_sld S X (vi_5 (j := 3) hi (by decide) hL) dL_law_1194 ?_
  obtain ⟨r, M1, M2, h1, h2, h3⟩ := HI a.1 M (xs (Int32.toNatClampNeg (nI i + 1))) (xs (Int32.toNatClampNeg (nI i + 2))) (xs (Int32.toNatClampNeg (nI i + 3))) inv
  refine g_cVI (st := []) S ob_50 rfl ok_X7_cut lk_L_134 (c_X7_cut h1) rfl rfl ⟨by decide, by decide⟩ (rmD_z _) (Nat.le_of_ble_eq_true rfl) dL_law_1195 ?_
  refine g_aload_n 2 S dL_law_1198 rfl ?_
  refine g_aload_n 0 S dL_law_1199 rfl ?_
  refine g_iload_n 3 S dL_law_1200 rfl ?_
  refine g_iconst (v := 1) S dL_law_1201 rfl ?_
  refine g_iadd S dL_law_1202 ?_
  refine g_sld S X (vi_5 (j := 1) hi (by decide) hL) dL_law_1203 ?_
  refine g_aload_n 0 S dL_law_1204 rfl ?_
  refine g_iload_n 3 S dL_law_1205 rfl ?_
  refine g_iconst (v := 2) S dL_law_1206 rfl ?_
  refine g_iadd S dL_law_1207 ?_
  refine g_sld S X (vi_5 (j := 2) hi (by decide) hL) dL_law_1208 ?_
  refine g_aload_n 0 S dL_law_1209 rfl ?_
  refine g_iload_n 3 S dL_law_1210 rfl ?_
  refine g_iconst (v := 3) S dL_law_1211 rfl ?_
  refine g_iadd S dL_law_1212 ?_
  refine g_sld S X (vi_5 (j := 3) hi (by decide) hL) dL_law_1213 ?_
  refine g_cVI (st := [.int r]) S ob_0 rfl ok_X8_cut lk_L_137 (c_X8_cut h2) rfl rfl ⟨by decide, by decide⟩ (rmD_z _) (Nat.le_of_ble_eq_true rfl) dL_law_1214 ?_
  refine g_eqT (tgt := 1245) S dL_law_1217 (by decide) ?_
  exact next M2 h3
theorem lc_count {Inv : (Nat → Nat) → Mem → Prop} (HI : HI_count Inv) {K : KK} {a : AA} {M : Mem} {b L i : Nat} {xs : Nat → Int32} (S : Sx K RL cL_law 4 room_1) (X : Xs K b L xs) (hi : i + 5 ≤ L) (hL : L ≤ 2560) (inv : Inv a.1 M) (next : ∀ M', Inv a.1 M' → Go K 4 a M' 1245 [(0, .ref b), (1, .ref (a.2 50)), (2, .ref (a.2 0)), (3, .int (nI i))] []) : Go K 4 a M 1222 [(0, .ref b), (1, .ref (a.2 50)), (2, .ref (a.2 0)), (3, .int (nI i))] [] := by
  refine g_aload_n 1 S dL_law_1222 rfl ?_
  refine g_aload_n 0 S dL_law_1223 rfl ?_
  refine g_iload_n 3 S dL_law_1224 rfl ?_
  refine g_iconst (v := 1) S dL_law_1225 rfl ?_
  refine g_iadd S dL_law_1226 ?_
  refine g_sld S X (vi_5 (j := 1) hi (by decide) hL) dL_law_1227 ?_
  obtain ⟨r, h1, h2, h3⟩ := HI a.1 M (xs (Int32.toNatClampNeg (nI i + 1))) inv
  refine g_cVI (st := []) S ob_50 rfl ok_X7_count lk_L_138 (c_X7_count h1) rfl rfl ⟨by decide, by decide⟩ (rmD_z _) (Nat.le_of_ble_eq_true rfl) dL_law_1228 ?_
  refine g_aload_n 2 S dL_law_1231 rfl ?_
  refine g_aload_n 0 S dL_law_1232 rfl ?_
  refine g_iload_n 3 S dL_law_1233 rfl ?_
  refine g_iconst (v := 1) S dL_law_1234 rfl ?_
  refine g_iadd S dL_law_1235 ?_
  refine g_sld S X (vi_5 (j := 1) hi (by decide) hL) dL_law_1236 ?_
  refine g_cVI (st := [.int r]) S ob_0 rfl ok_X8_count lk_L_141 (c_X8_count h2) rfl rfl ⟨by decide, by decide⟩ (rmD_z _) (Nat.le_of_ble_eq_true rfl) dL_law_1237 ?_
  refine g_eqT (tgt := 1245) S dL_law_1240 (by decide) ?_
  exact next M h3
