/-! turns: read -/
theorem ia_p {c : Nat} (h : c < 2 ^ 31) : iabs (nI c) = nI c := by unfold iabs; rw [if_pos (nI_pos' h)]
theorem ia_n {c : Nat} (h0 : 0 < c) (h : c < 2 ^ 30) : iabs (-(nI c)) = nI c := by
  have e : (-(nI c)).toInt = -(c : Int) := by
    have := pk_sub_toInt (a := 0) (b := c) (by decide) h
    rw [show nI 0 - nI c = -(nI c) from by rw [nI_0]; grind] at this
    omega
  unfold iabs
  rw [if_neg (by rw [Int32.le_iff_toInt_le, e]; simp; omega)]
  grind
/-- a turn of the row: its lines A < B, and its number -/
def TN (M : Mem) (k A B n : Nat) : Prop := A < B ∧ B < n ∧ M 35 k = nI A ∧ M 36 k = nI B ∧ ((M 37 k = 1 ∧ M 74 k = nI (10 * A + B)) ∨ (M 37 k = -1 ∧ M 74 k = -(nI (10 * A + B))))
theorem TN.abs {M : Mem} {k A B n : Nat} (h : TN M k A B n) (hn : n ≤ 10) : iabs (M 74 k) = nI (10 * A + B) := by
  obtain ⟨h1, h2, -, -, h3⟩ := h
  rcases h3 with ⟨-, e⟩ | ⟨-, e⟩
  · rw [e]; exact ia_p (by omega)
  · rw [e]; exact ia_n (by omega) (by omega)
theorem TN.of {z : Nat → Nat} {M : Mem} {k A B n l : Nat} (h : TN M k A B n) (hn : n ≤ 10) (hl : l < 10) : f_X6_isOfLine z M (M 74 k) (nI l) = some (decide (A = l ∨ B = l)) := by
  have h1 := h.1
  have h2 := h.2.1
  unfold f_X6_isOfLine irem
  rw [h.abs hn]
  have e1 : nI (10 * A + B) / 10 = nI A := by
    rw [show (10 : Int32) = nI 10 from rfl, pk_div (by omega) (by decide) (by decide)]
    congr 1; omega
  have e2 : nI (10 * A + B) - nI (10 * A + B) / 10 * 10 = nI B := by
    rw [show (10 : Int32) = nI 10 from rfl, pk_rem (by omega) (by decide) (by decide)]
    congr 1; omega
  rw [e2, e1]
  by_cases c1 : A = l
  · rw [if_pos (by rw [c1])]; simp [c1]
  · rw [if_neg (fun e => c1 ((nI_eq (by omega) (by omega)).mp e))]
    by_cases c2 : B = l
    · rw [if_pos (by rw [c2])]; simp [c2]
    · rw [if_neg (fun e => c2 ((nI_eq (by omega) (by omega)).mp e))]; simp [c1, c2]
theorem TN.has {z : Nat → Nat} {M : Mem} {k A B n l : Nat} (h : TN M k A B n) (hn : n ≤ 10) (hl : l < 10) (hk : k < 200) : f_X8_has z M (nI k) (nI l) = some (decide (A = l ∨ B = l)) := by
  have h1 := h.1
  have h2 := h.2.1
  unfold f_X8_has
  rw [inb_nI hk (by decide), s_ck, s_ck, nI_clamp (by omega), h.2.2.1, h.2.2.2.1]
  by_cases c1 : A = l
  · rw [if_pos (by rw [c1])]; simp [c1]
  · rw [if_neg (fun e => c1 ((nI_eq (by omega) (by omega)).mp e))]
    by_cases c2 : B = l
    · rw [if_pos (by rw [c2])]; simp [c2]
    · rw [if_neg (fun e => c2 ((nI_eq (by omega) (by omega)).mp e))]; simp [c1, c2]
theorem l_undo {z : Nat → Nat} {M : Mem} {t n l : Nat} (hn : n ≤ 10) (hl : l < 10) (h2 : t ≤ 200) (e0 : M 0 34 = nI t) (e6 : M 67 1 = nI t) (hT : ∀ k, k < t → ∃ A B, TN M k A B n) : ∀ (m k fu : Nat), k + m = t → m < fu → ∃ r, f_X6_undoneFor_2 z M fu (nI l) (nI k) = some r ∧ f_X8_undo_12 z M fu (nI l) (nI k) = some r := by
  intro m
  induction m with
  | zero =>
    intro k fu h1 hf
    obtain ⟨fu, rfl⟩ : ∃ r, fu = r + 1 := ⟨fu - 1, by omega⟩
    have e : k = t := by omega
    subst e
    refine ⟨0, ?_, ?_⟩
    · rw [f_X6_undoneFor_2, e6, if_pos (nI_le (Nat.le_refl _) (by omega))]
    · rw [f_X8_undo_12, e0, if_pos (nI_le (Nat.le_refl _) (by omega))]
  | succ m ih =>
    intro k fu h1 hf
    obtain ⟨fu, rfl⟩ : ∃ r, fu = r + 1 := ⟨fu - 1, by omega⟩
    obtain ⟨A, B, hA⟩ := hT k (by omega)
    rw [f_X6_undoneFor_2, f_X8_undo_12, e6, e0, if_neg (nI_ge (by omega) (by omega)), if_neg (nI_ge (by omega) (by omega)), inb_nI (by omega) (by decide), s_ck, nI_clamp (by omega), hA.of hn hl, hA.has hn hl (by omega), s_bd1, s_bd1]
    cases decide (A = l ∨ B = l)
    · rw [nI_1]
      exact ih (k + 1) fu (by omega) (by omega)
    · exact ⟨_, rfl, rfl⟩
theorem Ir.tn {z : Nat → Nat} {M : Mem} (h : Ir z M) : ∃ t, t ≤ 200 ∧ M 0 34 = nI t ∧ M 67 1 = nI t ∧ ∀ k, k < t → ∃ A B, TN M k A B (z 1) := h
theorem e_undo {z : Nat → Nat} {M : Mem} {l : Nat} (hz : z 1 ≤ 10) (hr : Ir z M) (hl : l < 10) : ∃ r, f_X6_undoneFor z M (nI l) = some r ∧ f_X8_undo_12 z M 1000 (nI l) 0 = some r := by
  obtain ⟨t, h2, e0, e6, hT⟩ := hr.tn
  exact l_undo hz hl h2 e0 e6 hT t 0 1000 (by omega) (by omega)
theorem hi_undo : HI_undo Inv := by
  intro z M p1 inv
  obtain ⟨hc, -, -, -, -, -, -, -, -, hr, -⟩ := id inv
  have hz1 := hc.2.1
  unfold f_X7_undo f_X8_undo
  rcases e_lineAt (k := p1) hc.2.1 hc.2.2.2.2.2.2.1 hc.2.2.2.2.2.1 with ⟨j, hj, rfl, hx, hm⟩ | ⟨hx, hm⟩
  · obtain ⟨r, e1, e2⟩ := e_undo (l := j) hz1 hr (by omega)
    exact ⟨r, by rw [hx, s_bd1, s_mqs, e1]; rfl, by rw [hm z, s_bd1, b_t, e2], inv⟩
  · exact ⟨-1, by rw [hx]; rfl, by rw [hm z]; rfl, inv⟩
theorem l_tang {z : Nat → Nat} {M : Mem} {t n a b : Nat} (hn : n ≤ 10) (ha : a < b) (hb : b < 10) (h2 : t ≤ 200) (e0 : M 0 34 = nI t) (e6 : M 67 1 = nI t) (hT : ∀ k, k < t → ∃ A B, TN M k A B n) {p1 p2 : Int32} (g1 : f_X8_lesser z M p1 p2 = some (nI a)) (g2 : f_X8_greater z M p1 p2 = some (nI b)) : ∀ (m k fu : Nat) (s : Int32), k + m = t → m < fu → ∃ r, f_X6_turnsOf_13 z M fu (nI (10 * a + b)) s (nI k) = some r ∧ f_X8_turnsOf_5 z M fu p1 p2 s (nI k) = some r := by
  intro m
  induction m with
  | zero =>
    intro k fu s h1 hf
    obtain ⟨fu, rfl⟩ : ∃ r, fu = r + 1 := ⟨fu - 1, by omega⟩
    have e : k = t := by omega
    subst e
    refine ⟨s, ?_, ?_⟩
    · rw [f_X6_turnsOf_13, e6, if_pos (nI_le (Nat.le_refl _) (by omega))]
    · rw [f_X8_turnsOf_5, e0, if_pos (nI_le (Nat.le_refl _) (by omega))]
  | succ m ih =>
    intro k fu s h1 hf
    obtain ⟨fu, rfl⟩ : ∃ r, fu = r + 1 := ⟨fu - 1, by omega⟩
    obtain ⟨A, B, hA⟩ := hT k (by omega)
    have q1 := hA.1
    have q2 := hA.2.1
    rw [f_X6_turnsOf_13, f_X8_turnsOf_5, e6, e0, if_neg (nI_ge (by omega) (by omega)), if_neg (nI_ge (by omega) (by omega)), inb_nI (by omega) (by decide), s_ck, s_ck, nI_clamp (by omega), hA.abs hn, g1, g2, s_bd1, s_bd1, hA.2.2.1, hA.2.2.2.1, s_ck, nI_1, Int32.add_zero]
    by_cases c1 : A = a
    · by_cases c2 : B = b
      · rw [if_pos (by rw [c1, c2]), if_pos (by rw [c1]), if_pos (by rw [c2])]
        exact ih (k + 1) fu (s + 1) (by omega) (by omega)
      · rw [if_neg (fun e => c2 (by have := (nI_eq (by omega) (by omega)).mp e; omega)), if_pos (by rw [c1]), if_neg (fun e => c2 ((nI_eq (by omega) (by omega)).mp e))]
        exact ih (k + 1) fu s (by omega) (by omega)
    · rw [if_neg (fun e => c1 (by have := (nI_eq (by omega) (by omega)).mp e; omega)), if_neg (fun e => c1 ((nI_eq (by omega) (by omega)).mp e))]
      exact ih (k + 1) fu s (by omega) (by omega)
theorem e_les {z : Nat → Nat} {M : Mem} {i j : Nat} (hi : i < 10) (hj : j < 10) : f_X8_lesser z M (nI i) (nI j) = some (nI (min i j)) := by
  unfold f_X8_lesser
  by_cases c : j ≤ i
  · rw [if_pos (nI_le c (by omega)), Nat.min_eq_right c]
  · rw [if_neg (nI_ge (by omega) (by omega)), Nat.min_eq_left (by omega)]
theorem e_grt {z : Nat → Nat} {M : Mem} {i j : Nat} (hi : i < 10) (hj : j < 10) : f_X8_greater z M (nI i) (nI j) = some (nI (max i j)) := by
  unfold f_X8_greater
  by_cases c : j ≤ i
  · rw [if_pos (nI_le c (by omega)), Nat.max_eq_left c]
  · rw [if_neg (nI_ge (by omega) (by omega)), Nat.max_eq_right (by omega)]
theorem e_imin {i j : Nat} (hi : i < 10) (hj : j < 10) : imin (nI i) (nI j) = nI (min i j) := by
  unfold imin
  by_cases c : j < i
  · rw [if_pos (nI_lt c (by omega)), Nat.min_eq_right (by omega)]
  · rw [if_neg (nI_nlt (by omega) (by omega)), Nat.min_eq_left (by omega)]
theorem e_imax {i j : Nat} (hi : i < 10) (hj : j < 10) : imax (nI i) (nI j) = nI (max i j) := by
  unfold imax
  by_cases c : i < j
  · rw [if_pos (nI_lt c (by omega)), Nat.max_eq_right (by omega)]
  · rw [if_neg (nI_nlt (by omega) (by omega)), Nat.max_eq_left (by omega)]
theorem e_tang {z : Nat → Nat} {M : Mem} {i j : Nat} (hz : z 1 ≤ 10) (hr : Ir z M) (hi : i < 10) (hj : j < 10) (hij : i ≠ j) : ∃ r, f_X6_turnsOf z M (nI i) (nI j) = some r ∧ f_X8_turnsOf z M (nI i) (nI j) = some r := by
  obtain ⟨t, h2, e0, e6, hT⟩ := hr.tn
  unfold f_X6_turnsOf f_X6_codeOf f_X8_turnsOf
  rw [s_bd1, e_imin hi hj, e_imax hi hj, show (10 : Int32) = nI 10 from rfl, pk_mul, nI_add, Int32.one_mul]
  exact l_tang hz (by omega) (by omega) h2 e0 e6 hT (e_les hi hj) (e_grt hi hj) t 0 1000 0 (by omega) (by omega)
