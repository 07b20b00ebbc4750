/-! tangled, count, unwind -/
theorem hi_tangled : HI_tangled Inv := by
  intro z M p1 p2 inv
  obtain ⟨hc, -, -, -, -, -, -, -, -, hr, -⟩ := id inv
  have hz1 := hc.2.1
  unfold f_X7_tangled f_X8_tangled f_X7_areTwoLines
  rcases e_lineAt (k := p1) hc.2.1 hc.2.2.2.2.2.2.1 hc.2.2.2.2.2.1 with ⟨i, hi, rfl, hx, hm⟩ | ⟨hx, hm⟩
  · rcases e_lineAt (k := p2) hc.2.1 hc.2.2.2.2.2.2.1 hc.2.2.2.2.2.1 with ⟨j, hj, rfl, hx2, hm2⟩ | ⟨hx2, hm2⟩
    · by_cases e : i = j
      · subst e
        exact ⟨-1, by rw [if_pos rfl]; rfl, by rw [hm z, s_bd1, b_t, s_bd1, b_t, if_pos rfl], inv⟩
      · have e' : ¬ nI i = nI j := fun h => e ((nI_eq (by omega) (by omega)).mp h)
        obtain ⟨r, e1, e2⟩ := e_tang (i := i) (j := j) hz1 hr (by omega) (by omega) e
        exact ⟨r, by rw [if_neg e', hx, s_bd1, s_mqs, hx2, s_bd1, s_mqs, s_bd1, b_t, e1]; rfl, by rw [hm z, s_bd1, b_t, hm2 z, s_bd1, b_t, if_neg e', e2]; rfl, inv⟩
    · refine ⟨-1, ?_, by rw [hm z, s_bd1, b_t, hm2 z]; rfl, inv⟩
      by_cases e : nI i = p2
      · rw [if_pos e]; rfl
      · rw [if_neg e, hx, s_bd1, s_mqs, hx2]; rfl
  · refine ⟨-1, ?_, by rw [hm z]; rfl, inv⟩
    by_cases e : p1 = p2
    · rw [if_pos e]; rfl
    · rw [if_neg e, hx]; rfl
theorem l_cF {z : Nat → Nat} {M : Mem} (hc : Ic z M) (hf : If z M) : ∀ (m k fu : Nat) (s : Int32), k + m = z 2 → m < fu → ∃ r, f_X7_countFlying_4 z M fu s (nI k) = some r ∧ f_X8_count_65 z M fu s (nI k) = some r := by
  have hz := hc.2.2.1
  intro m
  induction m with
  | zero =>
    intro k fu s h1 h2
    obtain ⟨fu, rfl⟩ : ∃ r, fu = r + 1 := ⟨fu - 1, by omega⟩
    have e : k = z 2 := by omega
    refine ⟨s, ?_, ?_⟩
    · rw [f_X7_countFlying_4, hc.2.2.2.2.2.2.2.2, if_pos (nI_le (by omega) (by omega))]
    · rw [f_X8_count_65, hc.2.2.2.2.2.2.2.1, if_pos (nI_le (by omega) (by omega))]
  | succ m ih =>
    intro k fu s h1 h2
    obtain ⟨fu, rfl⟩ : ∃ r, fu = r + 1 := ⟨fu - 1, by omega⟩
    rcases e_flyerAt (k := nI k) hz hc.2.2.2.2.2.2.2.2 hc.2.2.2.2.2.2.2.1 with ⟨j, hj, e, hx, hm⟩ | ⟨hx, hm⟩
    · have e : k = j := (nI_eq (by omega) (by omega)).mp e
      subst e
      rw [f_X7_countFlying_4, f_X8_count_65, hc.2.2.2.2.2.2.2.2, hc.2.2.2.2.2.2.2.1, if_neg (nI_ge (by omega) (by omega)), if_neg (nI_ge (by omega) (by omega)), hx, s_bd1, s_mqs, inb_nI (by omega) (by decide), s_ck, nI_clamp (by omega), Nat.one_mul, (hf.1 k hj).2.2.2.1, nI_1, Int32.add_zero]
      by_cases c : M 27 k = 0
      · rw [if_pos c, if_pos c]; exact ih (k + 1) fu s (by omega) (by omega)
      · rw [if_neg c, if_neg c]; exact ih (k + 1) fu (s + 1) (by omega) (by omega)
    · have := hm z
      rw [e_isFlyer, hc.2.2.2.2.2.2.2.1] at this
      rw [wi_t.mpr ⟨by rw [nI_toInt (by omega)]; simp, by rw [nI_toInt (by omega), nI_m1 (by omega)]; omega⟩] at this
      cases this
theorem l_cT {z : Nat → Nat} {M : Mem} (hc : Ic z M) (hk : Ik z M) (hy : Iy z M) : ∀ (m k fu : Nat) (s : Int32), k + m = z 0 → m < fu → ∃ r, f_X7_countTied_4 z M fu s (nI k) = some r ∧ f_X8_count_110 z M fu s (nI k) = some r := by
  have hz := hc.1
  have hz1 := hc.2.1
  intro m
  induction m with
  | zero =>
    intro k fu s h1 h2
    obtain ⟨fu, rfl⟩ : ∃ r, fu = r + 1 := ⟨fu - 1, by omega⟩
    refine ⟨s, ?_, ?_⟩
    · rw [f_X7_countTied_4, hc.2.2.2.2.1, if_pos (nI_le (by omega) (by omega))]
    · rw [f_X8_count_110, hc.2.2.2.1, if_pos (nI_le (by omega) (by omega))]
  | succ m ih =>
    intro k fu s h1 h2
    obtain ⟨fu, rfl⟩ : ∃ r, fu = r + 1 := ⟨fu - 1, by omega⟩
    rcases e_kiteAt (k := nI k) hz hc.2.2.2.2.1 hc.2.2.2.1 with ⟨j, hj, e, hx, hm⟩ | ⟨hx, hm⟩
    · have e : k = j := (nI_eq (by omega) (by omega)).mp e
      subst e
      obtain ⟨p, hV, hb, hkn, hkl⟩ := hk.1 k hj
      rw [f_X7_countTied_4, f_X8_count_110, hc.2.2.2.2.1, hc.2.2.2.1, if_neg (nI_ge (by omega) (by omega)), if_neg (nI_ge (by omega) (by omega)), hx, s_bd1, s_mqs, inb_nI (by omega) (by decide), s_ck, nI_clamp (by omega), hkl, nI_1, Int32.add_zero]
      rcases hy k hj with e7 | ⟨l, s', q1, e7, -⟩
      · rw [e7, if_pos rfl, if_pos (by decide)]; exact ih (k + 1) fu s (by omega) (by omega)
      · rw [e7, if_neg (nI_m1ne (by omega)), if_neg (nI_pos (by omega))]; exact ih (k + 1) fu (s + 1) (by omega) (by omega)
    · have := hm z
      rw [e_isKite, hc.2.2.2.1] at this
      rw [wi_t.mpr ⟨by rw [nI_toInt (by omega)]; simp, by rw [nI_toInt (by omega), nI_m1 (by omega)]; omega⟩] at this
      cases this
theorem l_cN {z : Nat → Nat} {M : Mem} (hc : Ic z M) (hr : Ir z M) : ∀ (m k fu : Nat) (s : Int32), k + m = z 1 → m < fu → ∃ r, f_X7_countFree_4 z M fu s (nI k) = some r ∧ f_X8_count_145 z M fu s (nI k) = some r := by
  have hz := hc.2.1
  intro m
  induction m with
  | zero =>
    intro k fu s h1 h2
    obtain ⟨fu, rfl⟩ : ∃ r, fu = r + 1 := ⟨fu - 1, by omega⟩
    refine ⟨s, ?_, ?_⟩
    · rw [f_X7_countFree_4, hc.2.2.2.2.2.2.1, if_pos (nI_le (by omega) (by omega))]
    · rw [f_X8_count_145, hc.2.2.2.2.2.1, if_pos (nI_le (by omega) (by omega))]
  | succ m ih =>
    intro k fu s h1 h2
    obtain ⟨fu, rfl⟩ : ∃ r, fu = r + 1 := ⟨fu - 1, by omega⟩
    obtain ⟨r, e1, e2⟩ := e_undo (l := k) hz hr (by omega)
    have e3 : f_X8_undo z M (nI k) = some r := by
      unfold f_X8_undo
      rw [e_isLine, hc.2.2.2.2.2.1, wi_t.mpr ⟨by rw [nI_toInt (by omega)]; simp, by rw [nI_toInt (by omega), nI_m1 (by omega)]; omega⟩, s_bd1, b_t, e2]
    rw [f_X7_countFree_4, f_X8_count_145, hc.2.2.2.2.2.2.1, hc.2.2.2.2.2.1, if_neg (nI_ge (by omega) (by omega)), if_neg (nI_ge (by omega) (by omega)), e1, e3, s_bd1, s_bd1, nI_1, Int32.add_zero]
    by_cases c : r = 0
    · rw [if_pos c, if_pos c]; exact ih (k + 1) fu (s + 1) (by omega) (by omega)
    · rw [if_neg c, if_neg c]; exact ih (k + 1) fu s (by omega) (by omega)
theorem hi_count : HI_count Inv := by
  intro z M p1 inv
  obtain ⟨hc, hd, ht, hw, hk, hy, hl, hf, ha, hr, he⟩ := id inv
  have q0 := hc.1
  have q1 := hc.2.1
  have q2 := hc.2.2.1
  unfold f_X7_count f_X8_count f_X7_countFlying f_X7_countTied f_X7_countFree
  obtain ⟨t, -, t1, t2, -⟩ := he
  obtain ⟨u, -, u1, u2, -⟩ := hr.tn
  rw [hc.2.2.2.1, hc.2.2.2.2.1, hc.2.2.2.2.2.1, hc.2.2.2.2.2.2.1, hc.2.2.2.2.2.2.2.1, hc.2.2.2.2.2.2.2.2, t1, t2, u1, u2]
  obtain ⟨r3, a1, a2⟩ := l_cF hc hf (z 2) 0 1000 0 (by omega) (by omega)
  obtain ⟨r6, b1, b2⟩ := l_cT hc hk hy (z 0) 0 1000 0 (by omega) (by omega)
  obtain ⟨r7, d1, d2⟩ := l_cN hc hr (z 1) 0 1000 0 (by omega) (by omega)
  rw [nI_0] at a1 a2 b1 b2 d1 d2
  rw [a1, a2, b1, b2, d1, d2]
  simp only [s_bd1]
  by_cases c0 : p1 = 0
  · subst c0; exact ⟨_, rfl, rfl, inv⟩
  by_cases c1 : p1 = 1
  · subst c1; exact ⟨_, rfl, rfl, inv⟩
  by_cases c2 : p1 = 2
  · subst c2; exact ⟨_, rfl, rfl, inv⟩
  by_cases c3 : p1 = 3
  · subst c3; exact ⟨_, rfl, rfl, inv⟩
  by_cases c4 : p1 = 4
  · subst c4; exact ⟨_, rfl, rfl, inv⟩
  by_cases c5 : p1 = 5
  · subst c5; exact ⟨_, rfl, rfl, inv⟩
  by_cases c6 : p1 = 6
  · subst c6; exact ⟨_, rfl, rfl, inv⟩
  by_cases c7 : p1 = 7
  · subst c7; exact ⟨_, rfl, rfl, inv⟩
  simp only [c0, c1, c2, c3, c4, c5, c6, c7, if_false]
  exact ⟨_, rfl, rfl, inv⟩
