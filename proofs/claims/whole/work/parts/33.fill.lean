/-! what the loops of the constructors leave -/
def ta_l (j : Nat) : Int32 := if j ≤ 9 then 9 * nI j else 162 - 9 * nI j
def ta_L (i : Nat) : Nat → Int32 := fun j => if j < i then ta_l j else 0
def ta_D (i : Nat) : Nat → Int32 := fun j => if j < i then 2 * nI j else 0
def fi_F (f : Nat → Int32) (v : Int32) (i : Nat) : Nat → Int32 := fun j => if j < i then v else f j
theorem ta_L0 : ta_L 0 = fun _ => 0 := funext fun j => by simp [ta_L]
theorem ta_D0 : ta_D 0 = fun _ => 0 := funext fun j => by simp [ta_D]
theorem fi_F0 {f : Nat → Int32} {v : Int32} : fi_F f v 0 = f := funext fun j => by simp [fi_F]
theorem up_s {g g' : Nat → Int32} {i : Nat} {x : Int32} (hi : i < 2 ^ 31) (h1 : g' i = x) (h2 : ∀ j, j ≠ i → g' j = g j) : upd g (Int32.toNatClampNeg (nI i)) x = g' := by
  rw [nI_clamp hi]
  funext j
  unfold upd
  by_cases h : j = i
  · subst h; rw [if_pos rfl, h1]
  · rw [if_neg h, h2 j h]
theorem ta_Ls {i : Nat} {x : Int32} (hi : i < 2 ^ 31) (hx : ta_l i = x) : upd (ta_L i) (Int32.toNatClampNeg (nI i)) x = ta_L (i + 1) := up_s hi (by simp [ta_L, hx]) (fun j h => by
  unfold ta_L
  by_cases h1 : j < i
  · rw [if_pos h1, if_pos (by omega)]
  · rw [if_neg h1, if_neg (by omega)])
theorem ta_Ds {i : Nat} (hi : i < 2 ^ 31) : upd (ta_D i) (Int32.toNatClampNeg (nI i)) (2 * nI i) = ta_D (i + 1) := up_s hi (by simp [ta_D]) (fun j h => by
  unfold ta_D
  by_cases h1 : j < i
  · rw [if_pos h1, if_pos (by omega)]
  · rw [if_neg h1, if_neg (by omega)])
theorem fi_s {f : Nat → Int32} {v : Int32} {i : Nat} (hi : i < 2 ^ 31) : upd (fi_F f v i) (Int32.toNatClampNeg (nI i)) v = fi_F f v (i + 1) := up_s hi (by simp [fi_F]) (fun j h => by
  unfold fi_F
  by_cases h1 : j < i
  · rw [if_pos h1, if_pos (by omega)]
  · rw [if_neg h1, if_neg (by omega)])
theorem ta_lt {i : Nat} (h : ¬ (9 : Int32) < nI i) (hi : i < 2 ^ 31) : ta_l i = 9 * nI i := by
  unfold ta_l
  rw [if_pos]
  exact Nat.not_lt.mp fun q => h (nI_lt (a := 9) q hi)
theorem ta_gt {i : Nat} (h : (9 : Int32) < nI i) (hi : i < 2 ^ 31) : ta_l i = 162 - 9 * nI i := by
  unfold ta_l
  rw [if_neg]
  intro q
  exact nI_nlt (a := 9) (b := i) q (by decide) h
theorem nI_ge0 {i n : Nat} (h : i < n) (hn : n < 2 ^ 31) : ¬ nI n ≤ nI i := nI_ge h hn
/-- Arrays.fill over any world -/
theorem t_fill {K : KK} {r l : va_W} {h len : Nat} {f : Nat → Int32} {v : Int32} {j : Nat} (hlen : len < 2 ^ 31) (S : Sx K RJ7 cJ7_fill_53178 4 (rmC 0 0 0)) (he : l[j]? = some (h, .inl ((kG K).2.2.1, len, .inl f))) {P : Unit → Prop} {post : Unit → va_W} (hP : P ()) (hpost : post () = r ++ l.set j (h, .inl ((kG K).2.2.1, len, .inl (fi_F f v len)))) (rt : RtR K cJ7_fill_53178 P post 0 0) : ∀ (k i : Nat), i + k = len → GoW K 0 0 4 (r ++ l.set j (h, .inl ((kG K).2.2.1, len, .inl (fi_F f v i)))) 5 [(0, .ref h), (1, .int v), (2, .int (nI i)), (3, .int (nI len))] [] := by
  intro k
  have hjl : j < l.length := (List.getElem?_eq_some_iff.mp he).1
  induction k with
  | zero =>
    intro i hi
    have e : i = len := by omega
    subst e
    refine w_iload_n 2 S dJ7_fill_53178_5 rfl ?_
    refine w_iload_n 3 S dJ7_fill_53178_6 rfl ?_
    refine w_icmp_ge (tgt := 20) S dJ7_fill_53178_7 (by decide) (fun c => ?_) (fun c => ?_)
    · exact w_ret rt () hP hpost (Nat.le_refl _) (Nat.le_refl _) dJ7_fill_53178_20
    · exact absurd (nI_le (Nat.le_refl _) hlen) c
  | succ k ih =>
    intro i hi
    refine w_iload_n 2 S dJ7_fill_53178_5 rfl ?_
    refine w_iload_n 3 S dJ7_fill_53178_6 rfl ?_
    refine w_icmp_ge (tgt := 20) S dJ7_fill_53178_7 (by decide) (fun c => ?_) (fun c => ?_)
    · exact absurd c (nI_ge0 (by omega) hlen)
    · refine w_aload_n 0 S dJ7_fill_53178_10 rfl ?_
      refine w_iload_n 2 S dJ7_fill_53178_11 rfl ?_
      refine w_iload_n 1 S dJ7_fill_53178_12 rfl ?_
      refine w_iast (l' := l.set j (h, .inl ((kG K).2.2.1, len, .inl (fi_F f v (i + 1))))) j S (by rw [List.getElem?_set_self hjl]) (vp_in_nI (by omega) hlen) (by rw [List.set_set, fi_s (by omega)]) dJ7_fill_53178_13 ?_
      refine w_iinc (v := (nI i + 1)) (lv' := [(2, .int (nI i + 1)), (0, .ref h), (1, .int v), (3, .int (nI len))]) 2 S dJ7_fill_53178_14 rfl rfl (by decide) rfl ?_
      refine w_goto (tgt := 5) S dJ7_fill_53178_17 (by decide) ?_
      have h9 := ih (i + 1) (by omega)
      rw [← nI_1] at h9
      exact GoW.sub [1, 2, 0, 3] rfl h9
theorem c_fillR {l : Launch} {G : GG} {r l0 : va_W} {h len : Nat} {f : Nat → Int32} {v : Int32} {j : Nat} (hlen : len < 2 ^ 31) (he : l0[j]? = some (h, .inl (G.2.2.1, len, .inl f))) : CtR (T := Unit) l G yJ7_fill_53178 cJ7_fill_53178 4 (rmC 0 0 0) [.ref h, .int v] (r ++ l0) (fun _ => True) (fun _ => r ++ l0.set j (h, .inl (G.2.2.1, len, .inl (fi_F f v len)))) 0 0 := by
  refine ct_R (by decide) rfl (own := RJ7) (Nat.le_of_ble_eq_true rfl) (fun K hl hg S hi rt => ?_)
  subst hl; subst hg
  show GoW K 0 0 4 (r ++ l0) 0 [(0, .ref h), (1, .int v)] []
  refine w_iconst (v := 0) S dJ7_fill_53178_0 rfl ?_
  refine w_istore_n (lv' := [(2, .int 0), (0, .ref h), (1, .int v)]) S dJ7_fill_53178_1 (by decide) rfl ?_
  refine w_aload_n 1 S dJ7_fill_53178_2 rfl ?_
  refine w_alen (v := nI len) j S he rfl dJ7_fill_53178_3 ?_
  refine w_istore_n (lv' := [(3, .int (nI len)), (2, .int 0), (0, .ref h), (1, .int v)]) S dJ7_fill_53178_4 (by decide) rfl ?_
  have h9 := t_fill (r := r) (v := v) hlen S he (P := fun _ => True) trivial rfl rt len 0 (by omega)
  rw [fi_F0] at h9
  have e2 : l0.set j (h, .inl ((kG K).2.2.1, len, .inl f)) = l0 := by
    apply List.ext_getElem?
    intro i
    by_cases hj : j = i
    · subst hj
      rw [List.getElem?_set_self (List.getElem?_eq_some_iff.mp he).1, he]
    · rw [List.getElem?_set_ne hj]
  rw [e2] at h9
  exact GoW.sub [2, 3, 1, 0] rfl h9
