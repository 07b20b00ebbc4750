-- BridleBookModel.count(I)I
theorem dX8_count_0 : decode cX8_count 0 = .ok (.iconst 0, 1) := by decide +kernel
theorem dX8_count_1 : decode cX8_count 1 = .ok (.istore_n 2, 1) := by decide +kernel
theorem dX8_count_2 : decode cX8_count 2 = .ok (.iload_n 1, 1) := by decide +kernel
theorem dX8_count_3 : decode cX8_count 3 = .ok (.tableswitch 174 0 7 #[45, 50, 55, 60, 95, 100, 105, 140], 45) := by decide +kernel
theorem dX8_count_48 : decode cX8_count 48 = .ok (.aload_n 0, 1) := by decide +kernel
theorem dX8_count_49 : decode cX8_count 49 = .ok (.getfield 108, 3) := by decide +kernel
theorem dX8_count_52 : decode cX8_count 52 = .ok (.ireturn, 1) := by decide +kernel
theorem dX8_count_53 : decode cX8_count 53 = .ok (.aload_n 0, 1) := by decide +kernel
theorem dX8_count_54 : decode cX8_count 54 = .ok (.getfield 153, 3) := by decide +kernel
theorem dX8_count_57 : decode cX8_count 57 = .ok (.ireturn, 1) := by decide +kernel
theorem dX8_count_58 : decode cX8_count 58 = .ok (.aload_n 0, 1) := by decide +kernel
theorem dX8_count_59 : decode cX8_count 59 = .ok (.getfield 199, 3) := by decide +kernel
theorem dX8_count_62 : decode cX8_count 62 = .ok (.ireturn, 1) := by decide +kernel
theorem dX8_count_63 : decode cX8_count 63 = .ok (.iconst 0, 1) := by decide +kernel
theorem dX8_count_64 : decode cX8_count 64 = .ok (.istore_n 3, 1) := by decide +kernel
theorem dX8_count_65 : decode cX8_count 65 = .ok (.iload_n 3, 1) := by decide +kernel
theorem dX8_count_66 : decode cX8_count 66 = .ok (.aload_n 0, 1) := by decide +kernel
theorem dX8_count_67 : decode cX8_count 67 = .ok (.getfield 199, 3) := by decide +kernel
theorem dX8_count_70 : decode cX8_count 70 = .ok (.if_icmp .ge 26, 3) := by decide +kernel
theorem dX8_count_73 : decode cX8_count 73 = .ok (.iload_n 2, 1) := by decide +kernel
theorem dX8_count_74 : decode cX8_count 74 = .ok (.aload_n 0, 1) := by decide +kernel
theorem dX8_count_75 : decode cX8_count 75 = .ok (.getfield 83, 3) := by decide +kernel
theorem dX8_count_78 : decode cX8_count 78 = .ok (.iload_n 3, 1) := by decide +kernel
theorem dX8_count_79 : decode cX8_count 79 = .ok (.baload, 1) := by decide +kernel
theorem dX8_count_80 : decode cX8_count 80 = .ok (.ifCond .eq 7, 3) := by decide +kernel
theorem dX8_count_83 : decode cX8_count 83 = .ok (.iconst 1, 1) := by decide +kernel
theorem dX8_count_84 : decode cX8_count 84 = .ok (.goto 4, 3) := by decide +kernel
theorem dX8_count_87 : decode cX8_count 87 = .ok (.iconst 0, 1) := by decide +kernel
theorem dX8_count_88 : decode cX8_count 88 = .ok (.iadd, 1) := by decide +kernel
theorem dX8_count_89 : decode cX8_count 89 = .ok (.istore_n 2, 1) := by decide +kernel
theorem dX8_count_90 : decode cX8_count 90 = .ok (.iinc 3 1, 3) := by decide +kernel
theorem dX8_count_93 : decode cX8_count 93 = .ok (.goto (-28), 3) := by decide +kernel
theorem dX8_count_96 : decode cX8_count 96 = .ok (.iload_n 2, 1) := by decide +kernel
theorem dX8_count_97 : decode cX8_count 97 = .ok (.ireturn, 1) := by decide +kernel
theorem dX8_count_98 : decode cX8_count 98 = .ok (.aload_n 0, 1) := by decide +kernel
theorem dX8_count_99 : decode cX8_count 99 = .ok (.getfield 209, 3) := by decide +kernel
theorem dX8_count_102 : decode cX8_count 102 = .ok (.ireturn, 1) := by decide +kernel
theorem dX8_count_103 : decode cX8_count 103 = .ok (.aload_n 0, 1) := by decide +kernel
theorem dX8_count_104 : decode cX8_count 104 = .ok (.getfield 227, 3) := by decide +kernel
theorem dX8_count_107 : decode cX8_count 107 = .ok (.ireturn, 1) := by decide +kernel
theorem dX8_count_108 : decode cX8_count 108 = .ok (.iconst 0, 1) := by decide +kernel
theorem dX8_count_109 : decode cX8_count 109 = .ok (.istore_n 3, 1) := by decide +kernel
theorem dX8_count_110 : decode cX8_count 110 = .ok (.iload_n 3, 1) := by decide +kernel
theorem dX8_count_111 : decode cX8_count 111 = .ok (.aload_n 0, 1) := by decide +kernel
theorem dX8_count_112 : decode cX8_count 112 = .ok (.getfield 108, 3) := by decide +kernel
theorem dX8_count_115 : decode cX8_count 115 = .ok (.if_icmp .ge 26, 3) := by decide +kernel
theorem dX8_count_118 : decode cX8_count 118 = .ok (.iload_n 2, 1) := by decide +kernel
theorem dX8_count_119 : decode cX8_count 119 = .ok (.aload_n 0, 1) := by decide +kernel
theorem dX8_count_120 : decode cX8_count 120 = .ok (.getfield 29, 3) := by decide +kernel
theorem dX8_count_123 : decode cX8_count 123 = .ok (.iload_n 3, 1) := by decide +kernel
theorem dX8_count_124 : decode cX8_count 124 = .ok (.iaload, 1) := by decide +kernel
theorem dX8_count_125 : decode cX8_count 125 = .ok (.ifCond .lt 7, 3) := by decide +kernel
theorem dX8_count_128 : decode cX8_count 128 = .ok (.iconst 1, 1) := by decide +kernel
theorem dX8_count_129 : decode cX8_count 129 = .ok (.goto 4, 3) := by decide +kernel
theorem dX8_count_132 : decode cX8_count 132 = .ok (.iconst 0, 1) := by decide +kernel
theorem dX8_count_133 : decode cX8_count 133 = .ok (.iadd, 1) := by decide +kernel
theorem dX8_count_134 : decode cX8_count 134 = .ok (.istore_n 2, 1) := by decide +kernel
theorem dX8_count_135 : decode cX8_count 135 = .ok (.iinc 3 1, 3) := by decide +kernel
theorem dX8_count_138 : decode cX8_count 138 = .ok (.goto (-28), 3) := by decide +kernel
theorem dX8_count_141 : decode cX8_count 141 = .ok (.iload_n 2, 1) := by decide +kernel
theorem dX8_count_142 : decode cX8_count 142 = .ok (.ireturn, 1) := by decide +kernel
theorem dX8_count_143 : decode cX8_count 143 = .ok (.iconst 0, 1) := by decide +kernel
theorem dX8_count_144 : decode cX8_count 144 = .ok (.istore_n 3, 1) := by decide +kernel
theorem dX8_count_145 : decode cX8_count 145 = .ok (.iload_n 3, 1) := by decide +kernel
theorem dX8_count_146 : decode cX8_count 146 = .ok (.aload_n 0, 1) := by decide +kernel
theorem dX8_count_147 : decode cX8_count 147 = .ok (.getfield 153, 3) := by decide +kernel
theorem dX8_count_150 : decode cX8_count 150 = .ok (.if_icmp .ge 25, 3) := by decide +kernel
theorem dX8_count_153 : decode cX8_count 153 = .ok (.iload_n 2, 1) := by decide +kernel
theorem dX8_count_154 : decode cX8_count 154 = .ok (.aload_n 0, 1) := by decide +kernel
theorem dX8_count_155 : decode cX8_count 155 = .ok (.iload_n 3, 1) := by decide +kernel
theorem dX8_count_156 : decode cX8_count 156 = .ok (.invokevirtual 246, 3) := by decide +kernel
theorem dX8_count_159 : decode cX8_count 159 = .ok (.ifCond .ne 7, 3) := by decide +kernel
theorem dX8_count_162 : decode cX8_count 162 = .ok (.iconst 1, 1) := by decide +kernel
theorem dX8_count_163 : decode cX8_count 163 = .ok (.goto 4, 3) := by decide +kernel
theorem dX8_count_166 : decode cX8_count 166 = .ok (.iconst 0, 1) := by decide +kernel
theorem dX8_count_167 : decode cX8_count 167 = .ok (.iadd, 1) := by decide +kernel
theorem dX8_count_168 : decode cX8_count 168 = .ok (.istore_n 2, 1) := by decide +kernel
theorem dX8_count_169 : decode cX8_count 169 = .ok (.iinc 3 1, 3) := by decide +kernel
theorem dX8_count_172 : decode cX8_count 172 = .ok (.goto (-27), 3) := by decide +kernel
theorem dX8_count_175 : decode cX8_count 175 = .ok (.iload_n 2, 1) := by decide +kernel
theorem dX8_count_176 : decode cX8_count 176 = .ok (.ireturn, 1) := by decide +kernel
theorem dX8_count_177 : decode cX8_count 177 = .ok (.iconst (-1), 1) := by decide +kernel
theorem dX8_count_178 : decode cX8_count 178 = .ok (.ireturn, 1) := by decide +kernel
def f_X8_count_65 (z : Nat → Nat) (M : Mem) : Nat → Int32 → Int32 → Option Int32
  | 0, _, _ => none
  | fu + 1, x2, x3 => if (M 0 23) ≤ x3 then some x2 else ck (inb x3 10) (if (M 27 (Int32.toNatClampNeg x3)) = 0 then f_X8_count_65 z M fu (x2 + 0) (x3 + 1) else f_X8_count_65 z M fu (x2 + 1) (x3 + 1))
theorem t_X8_count_65 {K : KK} {a : AA} (S : Sx K RX8 cX8_count 4 (rmD 3)) {r : Int32} {M : Mem} (rt : RtI K a cX8_count r M) : ∀ (fu : Nat) (x2 : Int32) (x3 : Int32), f_X8_count_65 a.1 M fu x2 x3 = some r → Go K 4 a M 65 [(0, .ref (a.2 0)), (2, .int x2), (3, .int x3)] [] := by
  intro fu
  induction fu with
  | zero => intro x2 x3 hf; exact absurd hf (by simp [f_X8_count_65])
  | succ fu ih =>
    intro x2 x3 hf
    rw [f_X8_count_65] at hf
    refine g_iload_n 2 S dX8_count_65 rfl ?_
    refine g_aload_n 0 S dX8_count_66 rfl ?_
    refine g_get (v := .int (M 0 23)) S ob_0 rfl gi_X8 (by decide) lf_X8_199 rfl dX8_count_67 ?_
    refine g_icmp_ge (tgt := 96) S dX8_count_70 (by decide) hf (fun c hf => ?_) (fun c hf => ?_)
    · refine g_iload_n 1 S dX8_count_96 rfl ?_
      exact g_iretP rt hf dX8_count_97
    · refine g_iload_n 1 S dX8_count_73 rfl ?_
      refine g_aload_n 0 S dX8_count_74 rfl ?_
      refine g_get (v := .ref (a.2 27)) S ob_0 rfl gi_X8 (by decide) lf_X8_83 rfl dX8_count_75 ?_
      refine g_iload_n 2 S dX8_count_78 rfl ?_
      refine g_zald S za_27 dX8_count_79 hf (fun hf => ?_)
      refine g_if_eq (tgt := 87) S dX8_count_80 (by decide) hf (fun c hf => ?_) (fun c hf => ?_)
      · refine g_iconst (v := 0) S dX8_count_87 rfl ?_
        refine g_iadd S dX8_count_88 ?_
        refine g_istore_n (lv' := [(2, .int (x2 + 0)), (0, .ref (a.2 0)), (3, .int x3)]) S dX8_count_89 (by decide) rfl ?_
        refine g_iinc (v := (x3 + 1)) (lv' := [(3, .int (x3 + 1)), (2, .int (x2 + 0)), (0, .ref (a.2 0))]) 2 S dX8_count_90 rfl rfl (by decide) rfl ?_
        refine g_goto (tgt := 65) S dX8_count_93 (by decide) ?_
        refine Go.sub [2, 1, 0] rfl ?_
        exact ih _ _ hf
      · refine g_iconst (v := 1) S dX8_count_83 rfl ?_
        refine g_goto (tgt := 88) S dX8_count_84 (by decide) ?_
        refine g_iadd S dX8_count_88 ?_
        refine g_istore_n (lv' := [(2, .int (x2 + 1)), (0, .ref (a.2 0)), (3, .int x3)]) S dX8_count_89 (by decide) rfl ?_
        refine g_iinc (v := (x3 + 1)) (lv' := [(3, .int (x3 + 1)), (2, .int (x2 + 1)), (0, .ref (a.2 0))]) 2 S dX8_count_90 rfl rfl (by decide) rfl ?_
        refine g_goto (tgt := 65) S dX8_count_93 (by decide) ?_
        refine Go.sub [2, 1, 0] rfl ?_
        exact ih _ _ hf
def f_X8_count_110 (z : Nat → Nat) (M : Mem) : Nat → Int32 → Int32 → Option Int32
  | 0, _, _ => none
  | fu + 1, x2, x3 => if (M 0 1) ≤ x3 then some x2 else ck (inb x3 20) (if (M 7 (Int32.toNatClampNeg x3)) < 0 then f_X8_count_110 z M fu (x2 + 0) (x3 + 1) else f_X8_count_110 z M fu (x2 + 1) (x3 + 1))
theorem t_X8_count_110 {K : KK} {a : AA} (S : Sx K RX8 cX8_count 4 (rmD 3)) {r : Int32} {M : Mem} (rt : RtI K a cX8_count r M) : ∀ (fu : Nat) (x2 : Int32) (x3 : Int32), f_X8_count_110 a.1 M fu x2 x3 = some r → Go K 4 a M 110 [(0, .ref (a.2 0)), (2, .int x2), (3, .int x3)] [] := by
  intro fu
  induction fu with
  | zero => intro x2 x3 hf; exact absurd hf (by simp [f_X8_count_110])
  | succ fu ih =>
    intro x2 x3 hf
    rw [f_X8_count_110] at hf
    refine g_iload_n 2 S dX8_count_110 rfl ?_
    refine g_aload_n 0 S dX8_count_111 rfl ?_
    refine g_get (v := .int (M 0 1)) S ob_0 rfl gi_X8 (by decide) lf_X8_108 rfl dX8_count_112 ?_
    refine g_icmp_ge (tgt := 141) S dX8_count_115 (by decide) hf (fun c hf => ?_) (fun c hf => ?_)
    · refine g_iload_n 1 S dX8_count_141 rfl ?_
      exact g_iretP rt hf dX8_count_142
    · refine g_iload_n 1 S dX8_count_118 rfl ?_
      refine g_aload_n 0 S dX8_count_119 rfl ?_
      refine g_get (v := .ref (a.2 7)) S ob_0 rfl gi_X8 (by decide) lf_X8_29 rfl dX8_count_120 ?_
      refine g_iload_n 2 S dX8_count_123 rfl ?_
      refine g_iald S ia_7 dX8_count_124 hf (fun hf => ?_)
      refine g_if_lt (tgt := 132) S dX8_count_125 (by decide) hf (fun c hf => ?_) (fun c hf => ?_)
      · refine g_iconst (v := 0) S dX8_count_132 rfl ?_
        refine g_iadd S dX8_count_133 ?_
        refine g_istore_n (lv' := [(2, .int (x2 + 0)), (0, .ref (a.2 0)), (3, .int x3)]) S dX8_count_134 (by decide) rfl ?_
        refine g_iinc (v := (x3 + 1)) (lv' := [(3, .int (x3 + 1)), (2, .int (x2 + 0)), (0, .ref (a.2 0))]) 2 S dX8_count_135 rfl rfl (by decide) rfl ?_
        refine g_goto (tgt := 110) S dX8_count_138 (by decide) ?_
        refine Go.sub [2, 1, 0] rfl ?_
        exact ih _ _ hf
      · refine g_iconst (v := 1) S dX8_count_128 rfl ?_
        refine g_goto (tgt := 133) S dX8_count_129 (by decide) ?_
        refine g_iadd S dX8_count_133 ?_
        refine g_istore_n (lv' := [(2, .int (x2 + 1)), (0, .ref (a.2 0)), (3, .int x3)]) S dX8_count_134 (by decide) rfl ?_
        refine g_iinc (v := (x3 + 1)) (lv' := [(3, .int (x3 + 1)), (2, .int (x2 + 1)), (0, .ref (a.2 0))]) 2 S dX8_count_135 rfl rfl (by decide) rfl ?_
        refine g_goto (tgt := 110) S dX8_count_138 (by decide) ?_
        refine Go.sub [2, 1, 0] rfl ?_
        exact ih _ _ hf
def f_X8_count_145 (z : Nat → Nat) (M : Mem) : Nat → Int32 → Int32 → Option Int32
  | 0, _, _ => none
  | fu + 1, x2, x3 => if (M 0 12) ≤ x3 then some x2 else bd1 (f_X8_undo z M x3) (fun r1 => if r1 = 0 then f_X8_count_145 z M fu (x2 + 1) (x3 + 1) else f_X8_count_145 z M fu (x2 + 0) (x3 + 1))
theorem t_X8_count_145 {K : KK} {a : AA} (S : Sx K RX8 cX8_count 4 (rmD 3)) {r : Int32} {M : Mem} (rt : RtI K a cX8_count r M) : ∀ (fu : Nat) (x2 : Int32) (x3 : Int32), f_X8_count_145 a.1 M fu x2 x3 = some r → Go K 4 a M 145 [(0, .ref (a.2 0)), (2, .int x2), (3, .int x3)] [] := by
  intro fu
  induction fu with
  | zero => intro x2 x3 hf; exact absurd hf (by simp [f_X8_count_145])
  | succ fu ih =>
    intro x2 x3 hf
    rw [f_X8_count_145] at hf
    refine g_iload_n 2 S dX8_count_145 rfl ?_
    refine g_aload_n 0 S dX8_count_146 rfl ?_
    refine g_get (v := .int (M 0 12)) S ob_0 rfl gi_X8 (by decide) lf_X8_153 rfl dX8_count_147 ?_
    refine g_icmp_ge (tgt := 175) S dX8_count_150 (by decide) hf (fun c hf => ?_) (fun c hf => ?_)
    · refine g_iload_n 1 S dX8_count_175 rfl ?_
      exact g_iretP rt hf dX8_count_176
    · refine g_iload_n 1 S dX8_count_153 rfl ?_
      refine g_aload_n 0 S dX8_count_154 rfl ?_
      refine g_iload_n 2 S dX8_count_155 rfl ?_
      obtain ⟨r1, hr1, hf⟩ := bd1_some hf
      refine g_cVI (st := [.int x2]) S ob_0 rfl ok_X8_undo lk_X8_246 (c_X8_undo hr1) rfl rfl ⟨by decide, by decide⟩ (rmD_z _) (Nat.le_of_ble_eq_true rfl) dX8_count_156 ?_
      refine g_if_ne (tgt := 166) S dX8_count_159 (by decide) hf (fun c hf => ?_) (fun c hf => ?_)
      · refine g_iconst (v := 1) S dX8_count_162 rfl ?_
        refine g_goto (tgt := 167) S dX8_count_163 (by decide) ?_
        refine g_iadd S dX8_count_167 ?_
        refine g_istore_n (lv' := [(2, .int (x2 + 1)), (0, .ref (a.2 0)), (3, .int x3)]) S dX8_count_168 (by decide) rfl ?_
        refine g_iinc (v := (x3 + 1)) (lv' := [(3, .int (x3 + 1)), (2, .int (x2 + 1)), (0, .ref (a.2 0))]) 2 S dX8_count_169 rfl rfl (by decide) rfl ?_
        refine g_goto (tgt := 145) S dX8_count_172 (by decide) ?_
        refine Go.sub [2, 1, 0] rfl ?_
        exact ih _ _ hf
      · refine g_iconst (v := 0) S dX8_count_166 rfl ?_
        refine g_iadd S dX8_count_167 ?_
        refine g_istore_n (lv' := [(2, .int (x2 + 0)), (0, .ref (a.2 0)), (3, .int x3)]) S dX8_count_168 (by decide) rfl ?_
        refine g_iinc (v := (x3 + 1)) (lv' := [(3, .int (x3 + 1)), (2, .int (x2 + 0)), (0, .ref (a.2 0))]) 2 S dX8_count_169 rfl rfl (by decide) rfl ?_
        refine g_goto (tgt := 145) S dX8_count_172 (by decide) ?_
        refine Go.sub [2, 1, 0] rfl ?_
        exact ih _ _ hf
def f_X8_count (z : Nat → Nat) (M : Mem) (p1 : Int32) : Option Int32 := if p1 = 0 then some (M 0 1) else if p1 = 1 then some (M 0 12) else if p1 = 2 then some (M 0 23) else if p1 = 3 then f_X8_count_65 z M 1000 0 0 else if p1 = 4 then some (M 0 32) else if p1 = 5 then some (M 0 34) else if p1 = 6 then f_X8_count_110 z M 1000 0 0 else if p1 = 7 then f_X8_count_145 z M 1000 0 0 else (some (-1))
theorem c_X8_count {l : Launch} {G : GG} {a : AA} {M : Mem} {p1 : Int32} {r : Int32} (hf : f_X8_count a.1 M p1 = some r) : CtI l G a yX8_count cX8_count 4 .int (rmD 3) [.ref (a.2 0), .int p1] M r M := by
  refine ct_I (by decide) rfl rfl (own := RX8) (Nat.le_of_ble_eq_true rfl) (fun K hl hg S rt => ?_)
  subst hl; subst hg
  unfold f_X8_count at hf
  show Go K 4 a M 0 [(0, .ref (a.2 0)), (1, .int p1)] []
  refine g_iconst (v := 0) S dX8_count_0 rfl ?_
  refine g_istore_n (lv' := [(2, .int 0), (0, .ref (a.2 0)), (1, .int p1)]) S dX8_count_1 (by decide) rfl ?_
  refine g_iload_n 2 S dX8_count_2 rfl ?_
  refine sp_if hf (fun c0 hf => ?_) (fun c0 hf => ?_)
  · refine g_tabIn (tgt := 48) 0 S dX8_count_3 c0 (by decide) (by decide) rfl (by decide) ?_
    refine g_aload_n 1 S dX8_count_48 rfl ?_
    refine g_get (v := .int (M 0 1)) S ob_0 rfl gi_X8 (by decide) lf_X8_108 rfl dX8_count_49 ?_
    exact g_iretP rt hf dX8_count_52
  refine sp_if hf (fun c1 hf => ?_) (fun c1 hf => ?_)
  · refine g_tabIn (tgt := 53) 1 S dX8_count_3 c1 (by decide) (by decide) rfl (by decide) ?_
    refine g_aload_n 1 S dX8_count_53 rfl ?_
    refine g_get (v := .int (M 0 12)) S ob_0 rfl gi_X8 (by decide) lf_X8_153 rfl dX8_count_54 ?_
    exact g_iretP rt hf dX8_count_57
  refine sp_if hf (fun c2 hf => ?_) (fun c2 hf => ?_)
  · refine g_tabIn (tgt := 58) 2 S dX8_count_3 c2 (by decide) (by decide) rfl (by decide) ?_
    refine g_aload_n 1 S dX8_count_58 rfl ?_
    refine g_get (v := .int (M 0 23)) S ob_0 rfl gi_X8 (by decide) lf_X8_199 rfl dX8_count_59 ?_
    exact g_iretP rt hf dX8_count_62
  refine sp_if hf (fun c3 hf => ?_) (fun c3 hf => ?_)
  · refine g_tabIn (tgt := 63) 3 S dX8_count_3 c3 (by decide) (by decide) rfl (by decide) ?_
    refine g_iconst (v := 0) S dX8_count_63 rfl ?_
    refine g_istore_n (lv' := [(3, .int 0), (2, .int 0), (0, .ref (a.2 0)), (1, .int p1)]) S dX8_count_64 (by decide) rfl ?_
    refine Go.sub [2, 1, 0] rfl ?_
    exact t_X8_count_65  S rt 1000 _ _ hf
  refine sp_if hf (fun c4 hf => ?_) (fun c4 hf => ?_)
  · refine g_tabIn (tgt := 98) 4 S dX8_count_3 c4 (by decide) (by decide) rfl (by decide) ?_
    refine g_aload_n 1 S dX8_count_98 rfl ?_
    refine g_get (v := .int (M 0 32)) S ob_0 rfl gi_X8 (by decide) lf_X8_209 rfl dX8_count_99 ?_
    exact g_iretP rt hf dX8_count_102
  refine sp_if hf (fun c5 hf => ?_) (fun c5 hf => ?_)
  · refine g_tabIn (tgt := 103) 5 S dX8_count_3 c5 (by decide) (by decide) rfl (by decide) ?_
    refine g_aload_n 1 S dX8_count_103 rfl ?_
    refine g_get (v := .int (M 0 34)) S ob_0 rfl gi_X8 (by decide) lf_X8_227 rfl dX8_count_104 ?_
    exact g_iretP rt hf dX8_count_107
  refine sp_if hf (fun c6 hf => ?_) (fun c6 hf => ?_)
  · refine g_tabIn (tgt := 108) 6 S dX8_count_3 c6 (by decide) (by decide) rfl (by decide) ?_
    refine g_iconst (v := 0) S dX8_count_108 rfl ?_
    refine g_istore_n (lv' := [(3, .int 0), (2, .int 0), (0, .ref (a.2 0)), (1, .int p1)]) S dX8_count_109 (by decide) rfl ?_
    refine Go.sub [2, 1, 0] rfl ?_
    exact t_X8_count_110  S rt 1000 _ _ hf
  refine sp_if hf (fun c7 hf => ?_) (fun c7 hf => ?_)
  · refine g_tabIn (tgt := 143) 7 S dX8_count_3 c7 (by decide) (by decide) rfl (by decide) ?_
    refine g_iconst (v := 0) S dX8_count_143 rfl ?_
    refine g_istore_n (lv' := [(3, .int 0), (2, .int 0), (0, .ref (a.2 0)), (1, .int p1)]) S dX8_count_144 (by decide) rfl ?_
    refine Go.sub [2, 1, 0] rfl ?_
    exact t_X8_count_145  S rt 1000 _ _ hf
  refine g_tabOut (tgt := 177) S dX8_count_3 (by have := sw_ne c0; simp only [show ((0 : Int32).toInt) = 0 from by decide] at this; have := sw_ne c1; simp only [show ((1 : Int32).toInt) = 1 from by decide] at this; have := sw_ne c2; simp only [show ((2 : Int32).toInt) = 2 from by decide] at this; have := sw_ne c3; simp only [show ((3 : Int32).toInt) = 3 from by decide] at this; have := sw_ne c4; simp only [show ((4 : Int32).toInt) = 4 from by decide] at this; have := sw_ne c5; simp only [show ((5 : Int32).toInt) = 5 from by decide] at this; have := sw_ne c6; simp only [show ((6 : Int32).toInt) = 6 from by decide] at this; have := sw_ne c7; simp only [show ((7 : Int32).toInt) = 7 from by decide] at this; omega) (by decide) ?_
  refine g_iconst (v := (-1)) S dX8_count_177 rfl ?_
  exact g_iretP rt hf dX8_count_178
