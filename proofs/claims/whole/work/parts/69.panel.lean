/-! flyer, panel -/
theorem e_kiA {z : Nat → Nat} {M : Mem} {k : Nat} (hz : z 0 ≤ 20) (hc : M 50 2 = nI (z 0)) (h : k < z 0) : f_X7_kiteAt z M (nI k) = some (some (100 + 4 * k)) := by
  unfold f_X7_kiteAt
  rw [e_within, s_bd1, hc, wi_t.mpr ⟨by rw [nI_toInt (by omega)]; simp, by rw [nI_toInt (by omega), nI_m1 (by omega)]; omega⟩, b_t, inb_nI (by omega) (by decide), s_ck, nI_clamp (by omega), if_pos h]
theorem e_liA {z : Nat → Nat} {M : Mem} {k : Nat} (hz : z 1 ≤ 10) (hc : M 50 5 = nI (z 1)) (h : k < z 1) : f_X7_lineAt z M (nI k) = some (some (200 + 2 * k)) := by
  unfold f_X7_lineAt
  rw [e_within, s_bd1, hc, wi_t.mpr ⟨by rw [nI_toInt (by omega)]; simp, by rw [nI_toInt (by omega), nI_m1 (by omega)]; omega⟩, b_t, inb_nI (by omega) (by decide), s_ck, nI_clamp (by omega), if_pos h]
theorem e_flA {z : Nat → Nat} {M : Mem} {k : Nat} (hz : z 2 ≤ 10) (hc : M 50 8 = nI (z 2)) (h : k < z 2) : f_X7_flyerAt z M (nI k) = some (some (300 + k)) := by
  unfold f_X7_flyerAt
  rw [e_within, s_bd1, hc, wi_t.mpr ⟨by rw [nI_toInt (by omega)]; simp, by rw [nI_toInt (by omega), nI_m1 (by omega)]; omega⟩, b_t, inb_nI (by omega) (by decide), s_ck, nI_clamp (by omega), if_pos h, Nat.one_mul]
theorem l_hf {z : Nat → Nat} {M : Mem} {v : Int32} (hz : z 2 ≤ 10) (hc : M 50 8 = nI (z 2)) : ∀ (m k fu : Nat), k + m = z 2 → m < fu → ∃ b, f_X7_hasFlyer_2 z M fu v (nI k) = some b ∧ (b = true ↔ ∃ f, k ≤ f ∧ f < z 2 ∧ M (300 + f) 2 = v) := by
  intro m
  induction m with
  | zero =>
    intro k fu h1 h2
    obtain ⟨fu, rfl⟩ : ∃ r, fu = r + 1 := ⟨fu - 1, by omega⟩
    refine ⟨false, by rw [f_X7_hasFlyer_2, hc, if_pos (nI_le (by omega) (by omega))], fun e => (nomatch e), fun ⟨f, q1, q2, _⟩ => absurd q2 (by omega)⟩
  | succ m ih =>
    intro k fu h1 h2
    obtain ⟨fu, rfl⟩ : ∃ r, fu = r + 1 := ⟨fu - 1, by omega⟩
    obtain ⟨b, e1, e2⟩ := ih (k + 1) fu (by omega) (by omega)
    rw [f_X7_hasFlyer_2, hc, if_neg (nI_ge (by omega) (by omega)), e_flA hz hc (by omega), s_bd1, s_mqs, nI_1]
    by_cases c : M (300 + k) 2 = v
    · rw [if_pos c]; exact ⟨true, rfl, fun _ => ⟨k, by omega, by omega, c⟩, fun _ => rfl⟩
    · rw [if_neg c]
      refine ⟨b, e1, fun e => ?_, fun ⟨f, q1, q2, q3⟩ => e2.mpr ⟨f, ?_, q2, q3⟩⟩
      · obtain ⟨f, q1, q2, q3⟩ := e2.mp e
        exact ⟨f, by omega, q2, q3⟩
      · have : f ≠ k := fun e => c (by rw [← e]; exact q3)
        omega
theorem e_hf {z : Nat → Nat} {M : Mem} {v : Int32} (hz : z 2 ≤ 10) (hc : M 50 8 = nI (z 2)) : ∃ b, f_X7_hasFlyer z M v = some b ∧ (b = true ↔ ∃ f, 0 ≤ f ∧ f < z 2 ∧ M (300 + f) 2 = v) := l_hf hz hc (z 2) 0 1000 (by omega) (by omega)
theorem hi_flyer : HI_flyer Inv := by
  intro z M p1 p2 inv
  obtain ⟨hc, hd, ht, hw, hk, hy, hl, hf, ha, hr, he⟩ := id inv
  obtain ⟨hz0, hz1, hz2, c1, c2, c3, c4, c5, c6⟩ := id hc
  refine ⟨⟨hz0, hz1, hz2⟩, c6, ?_⟩
  unfold f_X7_flyer f_X8_flyer
  simp only [e_isPlace, e_isPlaceM, e_isLine, s_bd1]
  cases h1 : wi p1 0 39999
  · exact ⟨some (-1), rfl, fun e => (nomatch e), fun r e => by cases e; exact ⟨M, rfl, inv⟩, fun e => (nomatch e)⟩
  obtain ⟨q, hq, rfl⟩ := wi_cst (n := 39999) (by decide) h1
  have d1 : nI q / 200 = nI (q / 200) := pk_div (d := 200) (by omega) (by decide) (by decide)
  have d2 : irem (nI q) 200 = nI (q % 200) := pk_rem (d := 200) (by omega) (by decide) (by decide)
  rw [d1, d2]
  rcases e_lineAt (k := p2) hz1 c4 c3 with ⟨l, hl1, rfl, hx, hm⟩ | ⟨hx, hm⟩
  · have hm1 := Option.some.inj ((e_isLine (z := z)).symm.trans (hm z))
    obtain ⟨b, eb, ib⟩ := e_hf (v := nI l) hz2 c6
    have ib2 : b = true ↔ 0 ≤ (M 28 l).toInt := by
      rw [ib, hf.2.2 l hl1]
      refine ⟨fun ⟨f, _, q2, q3⟩ => ⟨f, q2, ?_⟩, fun ⟨f, q2, q3⟩ => ⟨f, Nat.zero_le _, q2, ?_⟩⟩
      · rw [← (hf.1 f q2).2.2.1]; exact q3
      · rw [(hf.1 f q2).2.2.1]; exact q3
    simp only [hx, s_bd1, s_mqs, eb, b_t]
    cases b
    · have n28 : M 28 l < 0 := by
        rw [Int32.lt_iff_toInt_lt]
        have : ¬ 0 ≤ (M 28 l).toInt := fun e => (nomatch (ib2.mpr e))
        simp; omega
      by_cases h : z 2 < 10
      · refine ⟨none, by rw [c6]; exact if_pos (nI_lt h (by omega)), fun _ => h, fun r e => (nomatch e), fun _ => ?_⟩
        generalize hM1 : mu (nf_M (300 + z 2) M (nI (q / 200)) (nI (q % 200)) (nI l)) 50 8 (nI (z 2 + 1)) = M1
        have R1 : ∀ m, ¬ (m = 50 ∨ m = 300 + z 2) → M1 m = M m := fun m g => by
          rw [← hM1, mu_ne m (by omega)]; unfold nf_M; rw [if_neg (by omega)]
        have e01 : M1 0 23 = nI (z 2) := by rw [R1 0 (by omega)]; exact c5
        rw [show M1 0 12 = M 0 12 from by rw [R1 0 (by omega)], hm1, b_t, inb_nI (show l < 10 by omega) (by decide), s_ck, nI_clamp (show l < 2 ^ 31 by omega), R1 28 (by omega), if_pos n28, e01, if_neg (show ¬ nI (z 2) = 10 from nI_ne (b := 10) (by omega) (by omega) (by decide)), inb_nI h (by decide), s_ck, nI_clamp (show z 2 < 2 ^ 31 by omega)]
        have e2 : mu M1 24 (z 2) (nI (q / 200)) 0 23 = nI (z 2) := by rw [mu_ne 0 (by decide)]; exact e01
        rw [e2, inb_nI h (by decide), s_ck, nI_clamp (show z 2 < 2 ^ 31 by omega), s_lt]
        have e3 : mu (mu M1 24 (z 2) (nI (q / 200))) 25 (z 2) (nI (q % 200)) 0 23 = nI (z 2) := by rw [mu_ne 0 (by decide)]; exact e2
        have e4 : mu (mu (mu M1 24 (z 2) (nI (q / 200))) 25 (z 2) (nI (q % 200))) 26 (z 2) (nI l) 0 23 = nI (z 2) := by rw [mu_ne 0 (by decide)]; exact e3
        rw [e3, inb_nI h (by decide), s_ck, nI_clamp (show z 2 < 2 ^ 31 by omega), s_ck, e4, s_lt]
        have e5 : mu (mu (mu (mu M1 24 (z 2) (nI (q / 200))) 25 (z 2) (nI (q % 200))) 26 (z 2) (nI l)) 28 l (nI (z 2)) 0 23 = nI (z 2) := by rw [mu_ne 0 (by decide)]; exact e4
        rw [e5, nI_1]
        generalize hM2 : mu (mu (mu (mu (mu M1 24 (z 2) (nI (q / 200))) 25 (z 2) (nI (q % 200))) 26 (z 2) (nI l)) 28 l (nI (z 2))) 0 23 (nI (z 2 + 1)) = M2
        have R2 : ∀ m, ¬ (m = 0 ∨ m = 24 ∨ m = 25 ∨ m = 26 ∨ m = 28) → M2 m = M1 m := fun m g => by rw [← hM2, mu2_ne m (by omega) (by omega), mu2_ne m (by omega) (by omega), mu_ne m (by omega)]
        have R : ∀ m, ¬ (m = 0 ∨ m = 24 ∨ m = 25 ∨ m = 26 ∨ m = 28 ∨ m = 50 ∨ m = 300 + z 2) → M2 m = M m := fun m g => by rw [R2 m (by omega), R1 m (by omega)]
        have Z0 : ∀ k, M2 0 k = if k = 23 then nI (z 2 + 1) else M 0 k := fun k => by rw [← hM2, mu_eq, mu2_ne 0 (by decide) (by decide), mu2_ne 0 (by decide) (by decide), R1 0 (by omega)]; rfl
        have Z24 : ∀ k, M2 24 k = if k = z 2 then nI (q / 200) else M 24 k := fun k => by rw [← hM2, mu2_ne 24 (by decide) (by decide), mu2_ne 24 (by decide) (by decide), mu_eq, R1 24 (by omega)]; rfl
        have Z25 : ∀ k, M2 25 k = if k = z 2 then nI (q % 200) else M 25 k := fun k => by rw [← hM2, mu2_ne 25 (by decide) (by decide), mu_ne 25 (by decide), mu_eq, mu_ne 25 (by decide), R1 25 (by omega)]; rfl
        have Z26 : ∀ k, M2 26 k = if k = z 2 then nI l else M 26 k := fun k => by rw [← hM2, mu2_ne 26 (by decide) (by decide), mu_eq, mu2_ne 26 (by decide) (by decide), R1 26 (by omega)]; rfl
        have Z28 : ∀ k, M2 28 k = if k = l then nI (z 2) else M 28 k := fun k => by rw [← hM2, mu_ne 28 (by decide), mu_eq, mu_ne 28 (by decide), mu2_ne 28 (by decide) (by decide), R1 28 (by omega)]; rfl
        have Z5 : ∀ k, M2 50 k = if k = 8 then nI (z 2 + 1) else M 50 k := fun k => by
          rw [R2 50 (by omega), ← hM1, mu_eq, show nf_M (300 + z 2) M (nI (q / 200)) (nI (q % 200)) (nI l) 50 = M 50 from by unfold nf_M; rw [if_neg (by omega)]]
          rfl
        have N0 : ∀ k, M2 (300 + z 2) k = if k = 0 then nI (q / 200) else if k = 1 then nI (q % 200) else if k = 2 then nI l else 0 := fun k => by
          rw [R2 _ (by omega), ← hM1, mu_ne _ (by omega)]
          unfold nf_M
          rw [if_pos rfl]
        refine ⟨M2, by rw [Z0, if_pos rfl, nI_p1, if_pos trivial], ?_⟩
        refine ⟨⟨hz0, hz1, (show z 2 + 1 ≤ 10 by omega), by rw [Z0]; exact c1, by rw [Z5]; exact c2, by rw [Z0]; exact c3, by rw [Z5]; exact c4, by rw [Z0]; rfl, by rw [Z5]; rfl⟩, hd.k (by rw [Z0]; rfl) (by rw [Z0]; rfl) (by rw [Z5]; rfl) (by rw [Z5]; rfl), ht.r (R _ (by omega)) (R _ (by omega)) (R _ (by omega)) (R _ (by omega)), hw.r (R _ (by omega)) (R _ (by omega)), hk.r (fun n _ _ => R n (by omega)) (fun n _ _ => R n (by omega)), hy.r (R _ (by omega)) (R _ (by omega)) (R _ (by omega)) (fun i hi => by rw [R _ (by omega)]), hl.r (fun n _ _ => R n (by omega)) (fun n _ _ => R n (by omega)), ⟨fun f hf1 => ?_, fun f g1 g2 => ?_, fun l' hl' => ?_⟩, ha.r (R _ (by omega)) (R _ (by omega)), hr.r (by rw [Z0]; rfl) (R _ (by omega)) (R _ (by omega)) (R _ (by omega)) (R _ (by omega)) (R _ (by omega)), he.r (by rw [Z0]; rfl) (by rw [Z5]; rfl) (R _ (by omega)) (R _ (by omega))⟩
        · have hf1 : f < z 2 + 1 := hf1
          by_cases e : f = z 2
          · subst e
            refine ⟨by rw [N0, Z24, if_pos rfl, if_pos rfl], by rw [N0, Z25, if_neg (by decide), if_pos rfl, if_pos rfl], by rw [N0, Z26, if_neg (by decide), if_neg (by decide), if_pos rfl, if_pos rfl], by rw [N0, R 27 (by omega), hf.2.1 _ (Nat.le_refl _) h]; rfl, ⟨q / 200, by omega, by rw [Z24, if_pos rfl]⟩, ⟨q % 200, by omega, by rw [Z25, if_pos rfl]⟩, l, hl1, by rw [Z26, if_pos rfl]⟩
          · have := hf.1 f (by omega)
            rw [Z24, Z25, Z26, if_neg e, if_neg e, if_neg e, R (300 + f) (by omega), R 27 (by omega)]
            exact this
        · have g1 : z 2 + 1 ≤ f := g1
          rw [R 27 (by omega)]; exact hf.2.1 f (by omega) g2
        · have hl' : l' < z 1 := hl'
          rw [Z28]
          by_cases e : l' = l
          · subst e
            rw [if_pos rfl, nI_toInt (by omega)]
            exact ⟨fun _ => ⟨z 2, (show z 2 < z 2 + 1 by omega), by rw [Z26, if_pos rfl]⟩, fun _ => by omega⟩
          · rw [if_neg e, hf.2.2 l' hl']
            refine ⟨fun ⟨f, q1, q2⟩ => ⟨f, (show f < z 2 + 1 by omega), by rw [Z26, if_neg (by omega)]; exact q2⟩, fun ⟨f, q1, q2⟩ => ?_⟩
            have q1 : f < z 2 + 1 := q1
            rw [Z26] at q2
            by_cases e2 : f = z 2
            · rw [if_pos e2] at q2
              exact absurd q2 (nI_ne (by omega) (by omega) (by omega))
            · rw [if_neg e2] at q2
              exact ⟨f, by omega, q2⟩
      · refine ⟨some (-3), by rw [c6]; exact if_neg (nI_nlt (b := 10) (by omega) (by omega)), fun e => (nomatch e), fun r e => ?_, fun e => (nomatch e)⟩
        cases e
        refine ⟨M, ?_, inv⟩
        rw [hm1, b_t, inb_nI (show l < 10 by omega) (by decide), s_ck, nI_clamp (show l < 2 ^ 31 by omega), if_pos n28, c5]
        exact if_pos (show nI (z 2) = nI 10 by rw [show z 2 = 10 by omega])
    · have n28 : ¬ M 28 l < 0 := by
        rw [Int32.lt_iff_toInt_lt]
        have : 0 ≤ (M 28 l).toInt := ib2.mp rfl
        simp; omega
      refine ⟨some (-2), rfl, fun e => (nomatch e), fun r e => ?_, fun e => (nomatch e)⟩
      cases e
      exact ⟨M, by rw [hm1, b_t, inb_nI (show l < 10 by omega) (by decide), s_ck, nI_clamp (show l < 2 ^ 31 by omega), if_neg n28, if_pos trivial], inv⟩
  · have hm1 := Option.some.inj ((e_isLine (z := z)).symm.trans (hm z))
    refine ⟨some (-1), by rw [hx]; rfl, fun e => (nomatch e), fun r e => ?_, fun e => (nomatch e)⟩
    cases e
    exact ⟨M, by rw [hm1]; rfl, inv⟩
theorem hi_panel : HI_panel Inv := by
  intro z M p1 p2 p3 p4 inv
  obtain ⟨hc, hd, ht, hw, hk, hy, hl, hf, ha, hr, he⟩ := id inv
  obtain ⟨hz0, hz1, hz2, c1, c2, c3, c4, c5, c6⟩ := id hc
  unfold f_X7_panel f_X8_panel
  rcases e_kiteAt (k := p1) hz0 c2 c1 with ⟨j, hj, rfl, hx, hm⟩ | ⟨hx, hm⟩
  · have hm1 := Option.some.inj ((e_isKite (z := z)).symm.trans (hm z))
    simp only [hx, s_bd1, s_mqs, e_isKite, e_within, e_in, e_isArm]
    cases h2 : wi p2 1 99
    · exact ⟨-1, M, M, rfl, by rw [hm1]; rfl, inv⟩
    cases h3 : wi p3 (-99) 99
    · exact ⟨-1, M, M, rfl, by rw [hm1]; rfl, inv⟩
    cases h4 : wi p4 0 99
    · exact ⟨-1, M, M, rfl, by rw [hm1]; rfl, inv⟩
    simp only [eq_self, if_true]
    obtain ⟨p, ⟨v1, v2, v3, v4⟩, hb, hkn, hkl⟩ := hk.1 j hj
    unfold f_X2_addPanel
    by_cases h : p < 6
    · generalize hA : mu (mu (mu M (100 + 4 * j + 1) p p2) (100 + 4 * j + 2) p p3) (100 + 4 * j + 3) p p4 = A
      have RA : ∀ m, ¬ (100 + 4 * j < m ∧ m < 100 + 4 * j + 4) → A m = M m := fun m g => by rw [← hA, mu2_ne m (by omega) (by omega), mu_ne m (by omega)]
      generalize hM1 : mu A (100 + 4 * j) 3 (nI (p + 1)) = M1
      have R1 : ∀ m, ¬ (100 + 4 * j ≤ m ∧ m < 100 + 4 * j + 4) → M1 m = M m := fun m g => by rw [← hM1, mu_ne m (by omega), RA m (by omega)]
      generalize hM2 : mu (mu (mu (mu M1 3 (6 * j + p) p2) 4 (6 * j + p) p3) 5 (6 * j + p) p4) 2 j (nI (p + 1)) = M2
      have R2 : ∀ m, ¬ (2 ≤ m ∧ m ≤ 5) → M2 m = M1 m := fun m g => by rw [← hM2, mu2_ne m (by omega) (by omega), mu2_ne m (by omega) (by omega)]
      have R : ∀ m, ¬ ((2 ≤ m ∧ m ≤ 5) ∨ (100 + 4 * j ≤ m ∧ m < 100 + 4 * j + 4)) → M2 m = M m := fun m g => by rw [R2 m (by omega), R1 m (by omega)]
      have Z2 : ∀ k, M2 2 k = if k = j then nI (p + 1) else M 2 k := fun k => by rw [← hM2, mu_eq, mu_ne 2 (by decide), mu2_ne 2 (by decide) (by decide), R1 2 (by omega)]; rfl
      have Z3 : ∀ k, M2 3 k = if k = 6 * j + p then p2 else M 3 k := fun k => by rw [← hM2, mu_ne 3 (by decide), mu2_ne 3 (by decide) (by decide), mu_eq, R1 3 (by omega)]; rfl
      have Z4 : ∀ k, M2 4 k = if k = 6 * j + p then p3 else M 4 k := fun k => by rw [← hM2, mu2_ne 4 (by decide) (by decide), mu_eq, mu_ne 4 (by decide), R1 4 (by omega)]; rfl
      have Z5 : ∀ k, M2 5 k = if k = 6 * j + p then p4 else M 5 k := fun k => by rw [← hM2, mu_ne 5 (by decide), mu_eq, mu2_ne 5 (by decide) (by decide), R1 5 (by omega)]; rfl
      have N0 : ∀ k, M2 (100 + 4 * j) k = if k = 3 then nI (p + 1) else M (100 + 4 * j) k := fun k => by rw [R2 _ (by omega), ← hM1, mu_eq, RA _ (by omega)]; rfl
      have N1 : ∀ k, M2 (100 + 4 * j + 1) k = if k = p then p2 else M (100 + 4 * j + 1) k := fun k => by rw [R2 _ (by omega), ← hM1, mu_ne _ (by omega), ← hA, mu2_ne _ (by omega) (by omega), mu_eq]; rfl
      have N2 : ∀ k, M2 (100 + 4 * j + 2) k = if k = p then p3 else M (100 + 4 * j + 2) k := fun k => by rw [R2 _ (by omega), ← hM1, mu_ne _ (by omega), ← hA, mu_ne _ (by omega), mu_eq, mu_ne _ (by omega)]; rfl
      have N3 : ∀ k, M2 (100 + 4 * j + 3) k = if k = p then p4 else M (100 + 4 * j + 3) k := fun k => by rw [R2 _ (by omega), ← hM1, mu_ne _ (by omega), ← hA, mu_eq, mu2_ne _ (by omega) (by omega)]; rfl
      refine ⟨nI p, M1, M2, ?_, ?_, ?_⟩
      · rw [v3, if_pos (show nI p < 6 from nI_lt (b := 6) h (by decide)), inb_nI h (by decide), s_ck, nI_clamp (by omega), mu_ne (100 + 4 * j) (by omega), v3, inb_nI h (by decide), s_ck, nI_clamp (by omega), s_lt, mu2_ne (100 + 4 * j) (by omega) (by omega), v3, inb_nI h (by decide), s_ck, nI_clamp (by omega), hA, RA _ (by omega), v3, nI_1, hM1, s_lt, ← hM1, mu_s, nI_p1]
        rfl
      · have e6 : (6 : Int32) * nI j + nI p = nI (6 * j + p) := by rw [m6, nI_add]
        rw [R1 0 (by omega), hm1, b_t, inb_nI (show j < 20 by omega) (by decide), s_ck, nI_clamp (show j < 2 ^ 31 by omega), R1 2 (by omega), v2, if_neg (show ¬ nI p = 6 from nI_ne (b := 6) (by omega) (by omega) (by decide)), s_ck, e6, inb_nI (by omega) (by decide), s_ck, nI_clamp (by omega), s_lt, s_ck, s_lt, s_ck, s_lt, s_ck, s_ck, mu_ne 2 (by decide), mu2_ne 2 (by decide) (by decide), R1 2 (by omega), v2, nI_1, hM2, s_lt, s_ck, Z2, if_pos rfl, nI_p1]
      · refine ⟨hc.r (R 0 (by omega)) (R 50 (by omega)), hd.r (R 0 (by omega)) (R 50 (by omega)), ht.r (R _ (by omega)) (R _ (by omega)) (R _ (by omega)) (R _ (by omega)), hw.r (R _ (by omega)) (R _ (by omega)), ⟨fun i hi => ?_, fun i g1 g2 => ?_⟩, hy.r (R _ (by omega)) (R _ (by omega)) (R _ (by omega)) (fun i hi => ?_), hl.r (fun n _ _ => R n (by omega)) (fun n _ _ => R n (by omega)), hf.r (fun n _ _ => R n (by omega)) (fun n _ _ => R n (by omega)), ha.r (R _ (by omega)) (R _ (by omega)), hr.r (by rw [R 0 (by omega)]) (R _ (by omega)) (R _ (by omega)) (R _ (by omega)) (R _ (by omega)) (R _ (by omega)), he.r (by rw [R 0 (by omega)]) (by rw [R 50 (by omega)]) (R _ (by omega)) (R _ (by omega))⟩
        · by_cases e : i = j
          · subst e
            refine ⟨p + 1, ⟨by omega, by rw [Z2, if_pos rfl], by rw [N0]; rfl, fun k hk => ?_⟩, fun k hk => ?_, by rw [N0, R 6 (by omega)]; exact hkn, by rw [N0, R 7 (by omega)]; exact hkl⟩
            · rw [N1, N2, N3, Z3, Z4, Z5]
              by_cases e : k = p
              · subst e; simp only [if_true]; exact ⟨trivial, trivial, trivial⟩
              · simp only [if_neg e, if_neg (show ¬ 6 * i + k = 6 * i + p by omega)]
                exact v4 k (by omega)
            · rw [Z3, Z5]
              by_cases e : k = p
              · subst e
                rw [if_pos rfl, if_pos rfl]
                have w1 := wi_t.mp h2
                have w2 := wi_t.mp h4
                exact ⟨w1.1, w1.2, w2.1, w2.2⟩
              · simp only [if_neg (show ¬ 6 * i + k = 6 * i + p by omega)]
                exact hb k (by omega)
          · refine KB.e (hk.1 i hi) (by rw [Z2, if_neg e]) (fun k hk => ?_) (fun k hk => ?_) (fun k hk => ?_) (by rw [R 6 (by omega)]) (fun q => by rw [R 7 (by omega), R _ (by omega)]; exact q) (by rw [R _ (by omega)]) (by rw [R _ (by omega)]) (fun n _ _ => R n (by omega))
            · rw [Z3, if_neg (by omega)]
            · rw [Z4, if_neg (by omega)]
            · rw [Z5, if_neg (by omega)]
        · rw [Z2, if_neg (by omega), R 6 (by omega)]; exact hk.2 i g1 g2
        · by_cases e : i = j
          · subst e; rw [N0]; rfl
          · rw [R _ (by omega)]
    · have hp : p = 6 := by omega
      subst hp
      refine ⟨-3, M, M, by rw [v3]; rfl, ?_, inv⟩
      rw [hm1, b_t, inb_nI (show j < 20 by omega) (by decide), s_ck, nI_clamp (show j < 2 ^ 31 by omega), v2]
      rfl
  · exact ⟨-1, M, M, by rw [hx]; rfl, by rw [hm z]; rfl, inv⟩
