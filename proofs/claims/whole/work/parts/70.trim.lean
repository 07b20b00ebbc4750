/-! trim -/
theorem S_tn_c {M M' : Mem} {i p : Nat} {v kn : Int32} (h3 : M' 3 = M 3) (h4 : M' 4 = M 4) (h5 : M' 5 = M 5) (h9 : M' 9 = M 9) : S_tn M' i p v kn = S_tn M i p v kn := by
  funext q
  unfold S_tn
  rw [h3, h4, h5, h9]
theorem S_st_c {M M' : Mem} {i p : Nat} {v kn : Int32} (h3 : M' 3 = M 3) (h4 : M' 4 = M 4) (h5 : M' 5 = M 5) (h9 : M' 9 = M 9) : S_st M' i p v kn = S_st M i p v kn := by
  unfold S_st
  rw [S_tn_c h3 h4 h5 h9]
theorem S_sd_c {M M' : Mem} {i p q : Nat} {v kn : Int32} (h3 : M' 3 = M 3) (h4 : M' 4 = M 4) (h5 : M' 5 = M 5) (h9 : M' 9 = M 9) : S_sd M' i p v kn q = S_sd M i p v kn q := by
  unfold S_sd
  rw [S_tn_c h3 h4 h5 h9]
theorem t_99 {k : Nat} (h : k < 2 ^ 30) : (nI k - 99).toInt = (k : Int) - 99 := pk_sub_toInt (a := k) (b := 99) h (by decide)
theorem mu_6 {M M' : Mem} {j : Nat} (h : ∀ m, m ≠ 6 → M' m = M m) (h6 : ∀ i, i ≠ j → M' 6 i = M 6 i) : mu M' 6 j (M 6 j) = M := by
  funext m
  by_cases e : m = 6
  · subst e
    rw [mu_eq]
    funext i
    unfold va_up
    by_cases e : i = j
    · rw [if_pos e, e]
    · rw [if_neg e, h6 i e]
  · rw [mu_ne m e, h m e]
theorem e_tr_end {z : Nat → Nat} {M M' : Mem} {j : Nat} {v x3 x4 x6 x7 : Int32} {fu : Nat} (hj : j < 20) (h : ∀ m, m ≠ 6 → M' m = M m) (h6 : ∀ i, i ≠ j → M' 6 i = M 6 i) (hx : 99 < x7 ∨ x6 ≠ -2000000000) : f_X8_trim_55 z (fu + 1) M' (nI j) v x3 x4 (M 6 j) x6 x7 = some (x6, M) := by
  rw [f_X8_trim_55, inb_nI hj (by decide), s_ck, nI_clamp (by omega), mu_6 h h6]
  by_cases c : 99 < x7
  · rw [if_pos c]
  · rcases hx with hx | hx
    · exact absurd hx c
    · rw [if_neg c, if_neg hx]
theorem l_trim {z : Nat → Nat} {M : Mem} {j p : Nat} {v x3 x4 : Int32} (hj : j < 20) (hT : TV M) (hV : KV M j p) (h3 : 0 ≤ x3.toInt) : ∀ (m k fu : Nat) (M' : Mem), (∀ r, r ≠ 6 → M' r = M r) → (∀ i, i ≠ j → M' 6 i = M 6 i) → k + m = 199 → m + 1 < fu → ∃ r, f_X7_trim_47 z (100 + 4 * j) M fu v x3 x4 (nI k - 99) = some r ∧ f_X8_trim_55 z fu M' (nI j) v x3 x4 (M 6 j) (-2000000000) (nI k - 99) = some (r, M) := by
  intro m
  induction m with
  | zero =>
    intro k fu M' a1 a2 h1 h2
    obtain ⟨fu, rfl⟩ : ∃ r, fu = r + 1 := ⟨fu - 1, by omega⟩
    have c : (99 : Int32) < nI k - 99 := by
      rw [Int32.lt_iff_toInt_lt, t_99 (by omega), show (99 : Int32).toInt = 99 from by decide]; omega
    exact ⟨-2000000000, by rw [f_X7_trim_47, if_pos c], e_tr_end hj a1 a2 (Or.inl c)⟩
  | succ m ih =>
    intro k fu M' a1 a2 h1 h2
    obtain ⟨fu, rfl⟩ : ∃ r, fu = r + 1 := ⟨fu - 1, by omega⟩
    have c : ¬ (99 : Int32) < nI k - 99 := by
      rw [Int32.lt_iff_toInt_lt, t_99 (by omega), show (99 : Int32).toInt = 99 from by decide]; omega
    have e1 : nI k - 99 + 1 = nI (k + 1) - 99 := by rw [← nI_1]; grind
    generalize hM2 : mu M' 6 j (nI k - 99) = M2
    have R : ∀ r, r ≠ 6 → M2 r = M r := fun r h => by rw [← hM2, mu_ne r h, a1 r h]
    have K : ∀ i, i ≠ j → M2 6 i = M 6 i := fun i h => by rw [← hM2, mu_k h, a2 i h]
    have K6 : M2 6 j = nI k - 99 := by rw [← hM2, mu_s]
    have hV2 : KV M2 j p := hV.r (fun n _ _ => R n (by omega)) (fun n _ _ => R n (by omega))
    obtain ⟨r, q1, q2⟩ := ih (k + 1) fu M2 R K (by omega) (by omega)
    rw [f_X7_trim_47, f_X8_trim_55, if_neg c, if_neg c, if_pos rfl, inb_nI hj (by decide), s_ck, nI_clamp (by omega), hM2, e_x_st hT hV, e_m_st hj hV2, K6, S_st_c (R 3 (by decide)) (R 4 (by decide)) (R 5 (by decide)) (R 9 (by decide)), s_bd1, s_bd1, e_in, s_bd1, e1]
    rcases S_st_r M j p v (nI k - 99) with e | ⟨a, ha, e⟩
    · rw [e, if_pos rfl, wi_f.mpr (by rw [show (-2 : Int32).toInt = -2 from by decide]; omega), b_f]
      exact ⟨r, q1, q2⟩
    · rw [e, if_neg (m2_ne ha), e_within, s_bd1]
      cases wi (nI a) x3 x4
      · rw [b_f, b_f]; exact ⟨r, q1, q2⟩
      · rw [b_t, b_t, e_x_sd hT hV ha, e_m_sd hj hV2 ha, K6, S_sd_c (R 3 (by decide)) (R 4 (by decide)) (R 5 (by decide)) (R 9 (by decide)), s_bd1, s_bd1]
        cases S_sd M j p v (nI k - 99) a
        · rw [b_f, b_f]; exact ⟨r, q1, q2⟩
        · rw [b_t, b_t]
          obtain ⟨fu, rfl⟩ : ∃ r, fu = r + 1 := ⟨fu - 1, by omega⟩
          refine ⟨_, rfl, e_tr_end hj R K (Or.inr fun e => ?_)⟩
          have := congrArg Int32.toInt e
          rw [t_99 (by omega), show (-2000000000 : Int32).toInt = -2000000000 from by decide] at this
          omega
theorem hi_trim : HI_trim Inv := by
  intro z M p1 p2 p3 p4 inv
  obtain ⟨hc, -, ht, -, hk, -⟩ := id inv
  unfold f_X7_trim f_X8_trim
  rcases e_kiteAt (k := p1) hc.1 hc.2.2.2.2.1 hc.2.2.2.1 with ⟨j, hj, rfl, hx, hm⟩ | ⟨hx, hm⟩
  · obtain ⟨p, hV, -, hkn, -⟩ := hk.1 j hj
    have hj20 : j < 20 := by have := hc.1; omega
    simp only [hx, hm, s_bd1, s_mqs, e_isWind, e_isWindM, e_isAngle, e_isAngleM, b_t]
    cases hw : wi p2 0 99
    · exact ⟨_, M, rfl, rfl, inv⟩
    cases h3 : wi p3 0 17
    · exact ⟨_, M, rfl, rfl, inv⟩
    cases h4 : wi p4 0 17
    · exact ⟨_, M, rfl, rfl, inv⟩
    simp only [b_t]
    by_cases c : p3 ≤ p4
    · rw [if_pos c, if_pos c, inb_nI hj20 (by decide), s_ck, nI_clamp (by omega)]
      obtain ⟨r, q1, q2⟩ := l_trim (z := z) (v := p2) (x4 := p4) hj20 ht.tv hV (wi_t.mp h3).1 199 0 1000 M (fun _ _ => rfl) (fun _ _ => rfl) (by omega) (by omega)
      rw [show nI 0 - 99 = (-99 : Int32) from by decide] at q1 q2
      exact ⟨r, M, q1, q2, inv⟩
    · rw [if_neg c, if_neg c]
      exact ⟨_, M, rfl, rfl, inv⟩
  · simp only [hx, hm, s_bd1, s_mqn, b_f]
    exact ⟨_, M, rfl, rfl, inv⟩
