/-! a kite as both sides see it -/
def KV (M : Mem) (i p : Nat) : Prop := p ≤ 6 ∧ M 2 i = nI p ∧ M (100 + 4 * i) 3 = nI p ∧ ∀ j, j < p → M (100 + 4 * i + 1) j = M 3 (6 * i + j) ∧ M (100 + 4 * i + 2) j = M 4 (6 * i + j) ∧ M (100 + 4 * i + 3) j = M 5 (6 * i + j)
def TV (M : Mem) : Prop := ∀ q, q < 18 → M 70 q = M 9 q ∧ M 71 q = M 10 q
def S_tn (M : Mem) (i p : Nat) (v kn : Int32) (q : Nat) : Int32 := bx_sum (t_tn (fun j => M 3 (6 * i + j)) (fun j => M 4 (6 * i + j)) (fun j => M 5 (6 * i + j)) (M 9 q) v kn) p
def S_up (M : Mem) (i p : Nat) (v lf : Int32) : Int32 := bx_sum (t_up (fun j => M 3 (6 * i + j)) (fun j => M 5 (6 * i + j)) lf v) p
def S_bk (M : Mem) (i p : Nat) (v dg : Int32) : Int32 := bx_sum (t_bk (fun j => M 3 (6 * i + j)) dg v) p
theorem wi_nI {q : Nat} {hi : Int32} {n : Nat} (hn : hi.toInt = n) (h : q ≤ n) (hb : q < 2 ^ 31) : wi (nI q) 0 hi = true := wi_t.mpr (by rw [nI_toInt hb, hn]; simp; omega)
theorem e_liftAt {z : Nat → Nat} {M : Mem} {q : Nat} (hT : TV M) (hq : q < 18) : f_X4_liftAt z M (nI q) = some (M 9 q) := by
  unfold f_X4_liftAt f_X7_isAngle
  rw [e_within, wi_nI (n := 17) (by decide) (by omega) (by omega), s_bd1, s_bd1, if_pos rfl, inb_nI hq (by decide), s_ck, nI_clamp (by omega), (hT q hq).1]
theorem e_dragAt {z : Nat → Nat} {M : Mem} {q : Nat} (hT : TV M) (hq : q < 18) : f_X4_dragAt z M (nI q) = some (M 10 q) := by
  unfold f_X4_dragAt f_X7_isAngle
  rw [e_within, wi_nI (n := 17) (by decide) (by omega) (by omega), s_bd1, s_bd1, if_pos rfl, inb_nI hq (by decide), s_ck, nI_clamp (by omega), (hT q hq).2]
theorem e_liftN {z : Nat → Nat} {M : Mem} : f_X4_liftAt z M (-2) = some 0 := by
  unfold f_X4_liftAt f_X7_isAngle
  rw [e_within, show wi (-2) 0 17 = false from by decide]
  rfl
theorem e_dragN {z : Nat → Nat} {M : Mem} : f_X4_dragAt z M (-2) = some 0 := by
  unfold f_X4_dragAt f_X7_isAngle
  rw [e_within, show wi (-2) 0 17 = false from by decide]
  rfl
theorem e_x_turn {z : Nat → Nat} {M : Mem} {i p q : Nat} {v kn : Int32} (hT : TV M) (hV : KV M i p) (hq : q < 18) : f_X2_turningAt z (100 + 4 * i) M v (nI q) kn = some (S_tn M i p v kn q) := by
  unfold f_X2_turningAt S_tn
  rw [e_liftAt hT hq, s_bd1]
  have h := l_x_turn (z := z) (v := v) (kn := kn) (lf := M 9 q) hV.2.2.1 hV.1 p 1000 0 (by omega) (by have := hV.1; omega)
  refine h.trans (congrArg some (bx_cong fun j hj => ?_))
  obtain ⟨a1, a2, a3⟩ := hV.2.2.2 j hj
  unfold t_tn
  rw [a1, a2, a3]
theorem e_m_turn {z : Nat → Nat} {M : Mem} {i p q : Nat} {v : Int32} (hi : i < 20) (hV : KV M i p) (hq : q < 18) : f_X8_turns z M (nI i) v (nI q) = some (S_tn M i p v (M 6 i) q) := by
  unfold f_X8_turns
  rw [m6]
  exact l_m_turn hi hV.2.1 hV.1 hq p 1000 0 (by omega) (by have := hV.1; omega)
theorem e_x_upL {z : Nat → Nat} {M : Mem} {i p : Nat} {v a lf : Int32} (hV : KV M i p) (hl : f_X4_liftAt z M a = some lf) : f_X2_upAt z (100 + 4 * i) M v a = some (S_up M i p v lf) := by
  unfold f_X2_upAt S_up
  rw [hl, s_bd1]
  have h := l_x_up (z := z) (v := v) (lf := lf) hV.2.2.1 hV.1 p 1000 0 (by omega) (by have := hV.1; omega)
  refine h.trans (congrArg some (bx_cong fun j hj => ?_))
  obtain ⟨a1, a2, a3⟩ := hV.2.2.2 j hj
  unfold t_up
  rw [a1, a3]
theorem e_x_bkL {z : Nat → Nat} {M : Mem} {i p : Nat} {v a dg : Int32} (hV : KV M i p) (hl : f_X4_dragAt z M a = some dg) : f_X2_backAt z (100 + 4 * i) M v a = some (S_bk M i p v dg) := by
  unfold f_X2_backAt S_bk
  rw [hl, s_bd1]
  have h := l_x_bk (z := z) (v := v) (lf := dg) hV.2.2.1 hV.1 p 1000 0 (by omega) (by have := hV.1; omega)
  refine h.trans (congrArg some (bx_cong fun j hj => ?_))
  obtain ⟨a1, a2, a3⟩ := hV.2.2.2 j hj
  unfold t_bk
  rw [a1]
theorem e_m_wt {z : Nat → Nat} {M : Mem} {i p : Nat} (hi : i < 20) (hV : KV M i p) : f_X8_weightOf z M (nI i) = some (bx_sum (fun j => M 5 (6 * i + j)) p) := by
  unfold f_X8_weightOf
  rw [m6]
  exact l_m_wt hi hV.2.1 hV.1 p 1000 0 (by omega) (by have := hV.1; omega)
theorem e_m_up {z : Nat → Nat} {M : Mem} {i p q : Nat} {v : Int32} (hi : i < 20) (hV : KV M i p) (hq : q < 18) : f_X8_up z M (nI i) v (nI q) = some (S_up M i p v (M 9 q)) := by
  unfold f_X8_up
  rw [e_m_wt hi hV, s_bd1, m6]
  have h := l_m_up (z := z) (v := v) (s0 := -(bx_sum (fun j => M 5 (6 * i + j)) p)) hi hV.2.1 hV.1 hq p 1000 0 (by omega) (by have := hV.1; omega)
  rw [show bx_sum (t_bk (fun j => M 3 (6 * i + j)) (M 9 q) v) 0 = 0 from rfl, Int32.add_zero, sum_up] at h
  exact h
theorem e_m_bk {z : Nat → Nat} {M : Mem} {i p q : Nat} {v : Int32} (hi : i < 20) (hV : KV M i p) (hq : q < 18) : f_X8_back z M (nI i) v (nI q) = some (S_bk M i p v (M 10 q)) := by
  unfold f_X8_back
  rw [m6]
  exact l_m_bk hi hV.2.1 hV.1 hq p 1000 0 (by omega) (by have := hV.1; omega)
/-- the angle at which a kite stands, of its turnings T -/
def s_st (T : Nat → Int32) : Nat → Nat → Int32
  | 0, _ => -2
  | k + 1, q => if T q = 0 then nI q else if q = 17 then -2 else if (0 < T q ∧ T (q + 1) < 0) ∨ (T q < 0 ∧ 0 < T (q + 1)) then nI q else s_st T k (q + 1)
theorem s_st_r (T : Nat → Int32) : ∀ (k q : Nat), q + k = 18 → s_st T k q = -2 ∨ ∃ r, r < 18 ∧ s_st T k q = nI r := by
  intro k
  induction k with
  | zero => intro q _; exact Or.inl rfl
  | succ k ih =>
    intro q h
    unfold s_st
    by_cases c1 : T q = 0
    · rw [if_pos c1]; exact Or.inr ⟨q, by omega, rfl⟩
    · rw [if_neg c1]
      by_cases c2 : q = 17
      · rw [if_pos c2]; exact Or.inl rfl
      · rw [if_neg c2]
        by_cases c3 : (0 < T q ∧ T (q + 1) < 0) ∨ (T q < 0 ∧ 0 < T (q + 1))
        · rw [if_pos c3]; exact Or.inr ⟨q, by omega, rfl⟩
        · rw [if_neg c3]; exact ih (q + 1) (by omega)
theorem lt_ge {x : Int32} : x < 0 ↔ ¬ 0 ≤ x := by
  rw [Int32.lt_iff_toInt_lt, Int32.le_iff_toInt_le]; omega
theorem gt_le {x : Int32} : 0 < x ↔ ¬ x ≤ 0 := by
  rw [Int32.lt_iff_toInt_lt, Int32.le_iff_toInt_le]; omega
theorem z_tri {x : Int32} (h0 : ¬ x = 0) : (0 < x ∧ ¬ x < 0) ∨ (x < 0 ∧ ¬ 0 < x) := by
  have : x.toInt ≠ 0 := fun e => h0 (Int32.toInt_inj.mp (e.trans (by decide)))
  rw [Int32.lt_iff_toInt_lt, Int32.lt_iff_toInt_lt, show (0 : Int32).toInt = 0 from rfl]
  omega
