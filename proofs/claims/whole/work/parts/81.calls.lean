/-! least, ofLine, step, part -/
theorem Inv.s2 {z : Nat → Nat} {M M' : Mem} (inv : Inv z M) (R : ∀ m, ¬ ((18 ≤ m ∧ m ≤ 22) ∨ m = 72 ∨ m = 73) → M' m = M m) : Inv z M' := by
  obtain ⟨hc, hd, ht, hw, hk, hy, hl, hf, ha, hr, he⟩ := id inv
  have hz := hc.1
  exact ⟨hc.r (R 0 (by omega)) (R 50 (by omega)), hd.r (R 0 (by omega)) (R 50 (by omega)), ht.r (R _ (by omega)) (R _ (by omega)) (R _ (by omega)) (R _ (by omega)), hw.r (R _ (by omega)) (R _ (by omega)), hk.r (fun n _ _ => R n (by omega)) (fun n _ _ => R n (by omega)), hy.r (R _ (by omega)) (R _ (by omega)) (R _ (by omega)) (fun i _ => by rw [R _ (by omega)]), hl.r (fun n _ _ => R n (by omega)) (fun n _ _ => R n (by omega)), hf.r (fun n _ _ => R n (by omega)) (fun n _ _ => R n (by omega)), ha.r (R _ (by omega)) (R _ (by omega)), hr.r (by rw [R 0 (by omega)]) (R _ (by omega)) (R _ (by omega)) (R _ (by omega)) (R _ (by omega)) (R _ (by omega)), he.r (by rw [R 0 (by omega)]) (by rw [R 50 (by omega)]) (R _ (by omega)) (R _ (by omega))⟩
theorem l_least {z : Nat → Nat} {M : Mem} {l S W : Nat} {p2 : Int32} (h : TR z M l S W) : ∀ (m k fu : Nat) (My : Mem), (∀ m, ¬ (18 ≤ m ∧ m ≤ 22) → My m = M m) → k + m = 100 → m < fu → ∃ r My', f_X7_least_25 z (200 + 2 * l) M fu (nI l) p2 (nI k) = some r ∧ f_X8_least_22 z fu My (nI l) p2 (nI k) = some (r, My') ∧ ∀ m, ¬ (18 ≤ m ∧ m ≤ 22) → My' m = M m := by
  have hz := h.1.1.1
  intro m
  induction m with
  | zero =>
    intro k fu My R h1 h2
    obtain ⟨fu, rfl⟩ : ∃ r, fu = r + 1 := ⟨fu - 1, by omega⟩
    have e : k = 100 := by omega
    subst e
    exact ⟨-2, My, by rw [f_X7_least_25, if_pos (show (99 : Int32) < nI 100 from by decide)], by rw [f_X8_least_22, if_pos (show (100 : Int32) ≤ nI 100 from by decide)], R⟩
  | succ m ih =>
    intro k fu My R h1 h2
    obtain ⟨fu, rfl⟩ : ∃ r, fu = r + 1 := ⟨fu - 1, by omega⟩
    have hY : RY z M My := (RY.of hz (My := M) (fun _ _ => rfl)).k hz R
    have hx : nI k = -1 ∨ ∃ v, v ≤ 99 ∧ nI k = nI v := Or.inr ⟨k, by omega, rfl⟩
    obtain ⟨My1, a1, a2⟩ := e_lifts h hx hY
    rw [f_X7_least_25, f_X8_least_22, if_neg (show ¬ (99 : Int32) < nI k from nI_nlt (a := 99) (by omega) (by decide)), if_neg (show ¬ (100 : Int32) ≤ nI k from nI_ge (b := 100) (by omega) (by decide)), e_lf h hx, a1, s_bd1, s_bd2, nI_1]
    have R1 : ∀ m, ¬ (18 ≤ m ∧ m ≤ 22) → My1 m = M m := fun m g => by rw [a2 m g, R m g]
    by_cases c : GE (td M l) (pU M l (nI k)) (z 0) 1 - nI (S * W) < p2
    · rw [if_pos c, if_pos c]
      exact ih (k + 1) fu My1 R1 (by omega) (by omega)
    · rw [if_neg c, if_neg c]
      exact ⟨_, My1, rfl, rfl, R1⟩
theorem hi_least : HI_least Inv := by
  intro z M p1 p2 inv
  have hc := id inv.1
  unfold f_X7_least f_X8_least
  rcases e_lineAt (k := p1) hc.2.1 hc.2.2.2.2.2.2.1 hc.2.2.2.2.2.1 with ⟨j, hj, rfl, hx, hm⟩ | ⟨hx, hm⟩
  · simp only [hx, hm, s_bd1, s_mqs, e_within, e_in]
    cases h2 : wi p2 0 99999
    · exact ⟨-1, M, rfl, rfl, inv⟩
    · obtain ⟨S, W, h⟩ := TR.of inv hj
      obtain ⟨r, My, a1, a2, a3⟩ := l_least (p2 := p2) h 100 0 1000 M (fun _ _ => rfl) (by omega) (by omega)
      exact ⟨r, My, a1, a2, inv.s2 fun m g => a3 m (by omega)⟩
  · simp only [hx, hm, s_bd1, s_mqn]
    exact ⟨-1, M, rfl, rfl, inv⟩
theorem e_str {z : Nat → Nat} {M : Mem} {l : Nat} (hz : z 1 ≤ 10) (hl1 : Il z M) (hl : l < z 1) (s : Int32) : ∃ v, f_X3_strengthAt z (200 + 2 * l) M s = some v ∧ ∀ My : Mem, My 14 = M 14 → My 16 = M 16 → My 17 = M 17 → f_X8_strengthAt z My (nI l) s = some v := by
  obtain ⟨b, b1, b2⟩ := e_hk (s := s) hz hl1 hl
  have q := (hl1.1 l hl).2.1
  unfold f_X3_strengthAt f_X8_strengthAt
  rw [b1, s_bd1, q]
  cases b
  · refine ⟨_, rfl, fun My e1 e2 e3 => ?_⟩
    rw [b2 My e2 e3, s_bd1, b_f, inb_nI (show l < 10 by omega) (by decide), s_ck, nI_clamp (by omega), e1]
  · refine ⟨_, rfl, fun My e1 e2 e3 => ?_⟩
    rw [b2 My e2 e3, s_bd1, b_t, inb_nI (show l < 10 by omega) (by decide), s_ck, nI_clamp (by omega), e1]
theorem l_part {z : Nat → Nat} {M M1 : Mem} {l S W : Nat} (h : TR z M l S W) (R1 : ∀ m, ¬ (m = 72 ∨ m = 73) → M1 m = M m) (H : ∀ j, 1 ≤ j → j ≤ S + 1 → M1 72 j = cA M l (-1) (z 0) j ∧ M1 73 j = cU M l S W (-1) (z 0) j) : ∀ (m k fu b : Nat) (x : Int32), k + m = S → m < fu → b ≤ k → ∃ b', b' ≤ S ∧ f_X7_partingStep_14 z (200 + 2 * l) fu M1 (nI b) x (nI (k + 1)) = some (nI b', M1) ∧ ∀ My : Mem, (∀ m, m < 50 → ¬ (18 ≤ m ∧ m ≤ 22) → My m = M m) → (∀ j, 1 ≤ j → j ≤ S → My 20 j = cT M l S W (-1) (z 0) j) → f_X8_partsAt_14 z fu My (nI l) (if b = 0 then -2 else nI b) x (nI (k + 1)) = some (if b' = 0 then -2 else nI b', My) := by
  obtain ⟨inv, hl, hS, S2, -, -, u1, -⟩ := id h
  have hz1 := inv.1.2.1
  intro m
  induction m with
  | zero =>
    intro k fu b x h1 h2 h3
    obtain ⟨fu, rfl⟩ : ∃ r, fu = r + 1 := ⟨fu - 1, by omega⟩
    refine ⟨b, by omega, by rw [f_X7_partingStep_14, R1 _ (by omega), u1, if_pos (nI_lt (by omega) (by omega))], fun My RY HT => ?_⟩
    rw [f_X8_partsAt_14, inb_nI (show l < 10 by omega) (by decide), s_ck, nI_clamp (by omega), RY 13 (by omega) (by omega), hS, if_pos (nI_lt (by omega) (by omega))]
  | succ m ih =>
    intro k fu b x h1 h2 h3
    obtain ⟨fu, rfl⟩ : ∃ r, fu = r + 1 := ⟨fu - 1, by omega⟩
    obtain ⟨v, v1, v2⟩ := e_str hz1 ((inv.s2 (fun m g => R1 m (by omega))).2.2.2.2.2.2.1) hl (nI (k + 1))
    have E : ∀ My : Mem, (∀ m, m < 50 → ¬ (18 ≤ m ∧ m ≤ 22) → My m = M m) → (∀ j, 1 ≤ j → j ≤ S → My 20 j = cT M l S W (-1) (z 0) j) → ∀ b, f_X8_partsAt_14 z (fu + 1) My (nI l) b x (nI (k + 1)) = if x < cT M l S W (-1) (z 0) (k + 1) - v then f_X8_partsAt_14 z fu My (nI l) (nI (k + 1)) (cT M l S W (-1) (z 0) (k + 1) - v) (nI (k + 1 + 1)) else f_X8_partsAt_14 z fu My (nI l) b x (nI (k + 1 + 1)) := by
      intro My RY HT b
      rw [f_X8_partsAt_14, inb_nI (show l < 10 by omega) (by decide), s_ck, nI_clamp (show l < 2 ^ 31 by omega), RY 13 (by omega) (by omega), hS, if_neg (nI_nlt (by omega) (by omega)), inb_nI (show k + 1 < 201 by omega) (by decide), s_ck, v2 My (by rw [RY 14 (by omega) (by omega), R1 14 (by omega)]) (by rw [RY 16 (by omega) (by omega), R1 16 (by omega)]) (by rw [RY 17 (by omega) (by omega), R1 17 (by omega)]), s_bd1, nI_clamp (by omega), HT (k + 1) (by omega) (by omega), nI_1]
    rw [f_X7_partingStep_14, R1 _ (by omega), u1, if_neg (nI_nlt (by omega) (by omega)), e_ten h H (by omega) (by omega), s_bd1, v1, s_bd1, nI_1]
    by_cases c : cT M l S W (-1) (z 0) (k + 1) - v ≤ x
    · obtain ⟨b', q1, q2, q3⟩ := ih (k + 1) fu b x (by omega) (by omega) (by omega)
      rw [if_pos c]
      exact ⟨b', q1, q2, fun My RY HT => by rw [E My RY HT, if_neg (le_nlt.mp c)]; exact q3 My RY HT⟩
    · obtain ⟨b', q1, q2, q3⟩ := ih (k + 1) fu (k + 1) (cT M l S W (-1) (z 0) (k + 1) - v) (by omega) (by omega) (by omega)
      rw [if_neg c]
      refine ⟨b', q1, q2, fun My RY HT => ?_⟩
      have q := q3 My RY HT
      rw [if_neg (show ¬ k + 1 = 0 by omega)] at q
      rw [E My RY HT, if_pos (Decidable.not_not.mp fun w => c (le_nlt.mpr w))]
      exact q
theorem e_part {z : Nat → Nat} {M : Mem} {l S W : Nat} (h : TR z M l S W) : ∃ b M1, b ≤ S ∧ f_X7_partingStep z (200 + 2 * l) M (nI l) = some (nI b, M1) ∧ (∀ m, ¬ (m = 72 ∨ m = 73) → M1 m = M m) ∧ ∀ My : Mem, RY z M My → ∃ My', f_X8_partsAt z My (nI l) = some (if b = 0 then -2 else nI b, My') ∧ ∀ m, ¬ (18 ≤ m ∧ m ≤ 22) → My' m = My m := by
  have S2 : S ≤ 200 := h.2.2.2.1
  obtain ⟨M1, a1, a2, a3⟩ := e_load h
  obtain ⟨b, q1, q2, q3⟩ := l_part h a2 a3 S 0 1000 0 0 (by omega) (by omega) (by omega)
  refine ⟨b, M1, q1, ?_, a2, fun My hY => ?_⟩
  · unfold f_X7_partingStep
    rw [a1, s_bd1]
    exact q2
  · obtain ⟨My', d1, d2, d3⟩ := e_stand h (Or.inl rfl) hY
    refine ⟨My', ?_, d2⟩
    unfold f_X8_partsAt
    rw [d1, s_bd1]
    exact q3 My' (fun m g1 g2 => by rw [d2 m g2, hY.1 m g1 g2]) (fun j j1 j2 => (d3 j j1 j2).2.2.1)
theorem hi_ofLine : HI_ofLine Inv := by
  intro z M p1 p2 inv
  have hc := id inv.1
  obtain ⟨hz0, hz1, hz2, c1, c2, c3, c4, c5, c6⟩ := id hc
  unfold f_X7_ofLine f_X8_ofLine
  rcases e_lineAt (k := p1) hz1 c4 c3 with ⟨j, hj, rfl, hx, hm⟩ | ⟨hx, hm⟩
  · obtain ⟨hc, hd, ht, hw, hk, hy, hl, hf, ha, hr, he⟩ := id inv
    obtain ⟨S, W, h⟩ := TR.of inv hj
    obtain ⟨q0, -, -, -, -, -, kn, k1, k2, k3, k4⟩ := hl.1 j hj
    have hm1 := Option.some.inj ((e_isLine (z := z)).symm.trans (hm z))
    have hi0 : inb (nI j) 10 = true := inb_nI (by omega) (by decide)
    have hi1 : Int32.toNatClampNeg (nI j) = j := nI_clamp (by omega)
    rw [hx, s_bd1, s_mqs]
    by_cases p0 : p2 = 0
    · exact ⟨M 13 j, M, M, by rw [if_pos p0, q0], by rw [hm z, s_bd1, b_t, if_pos p0, hi0, s_ck, hi1], inv⟩
    rw [if_neg p0]
    by_cases p1 : p2 = 1
    · refine ⟨S_on (M 7) (nI j) (z 0), M, M, ?_, ?_, inv⟩
      · rw [if_pos p1, e_on_x hz0 c2 c1, s_bd1, S_on_c (g' := M 7) (fun i hi => by obtain ⟨_, -, -, -, q⟩ := hk.1 i hi; exact q)]
      · rw [hm z, s_bd1, b_t, if_neg p0, if_pos p1, e_on_m hz0 c1]; rfl
    rw [if_neg p1]
    by_cases p2' : p2 = 2
    · exact ⟨nI kn, M, M, by rw [if_pos p2', k3], by rw [hm z, s_bd1, b_t, if_neg p0, if_neg p1, if_pos p2', hi0, s_ck, hi1, k2], inv⟩
    rw [if_neg p2']
    by_cases p3 : p2 = 3
    · obtain ⟨My, a1, a2⟩ := e_lifts h (Or.inl rfl) (RY.of hz0 (My := M) (fun _ _ => rfl))
      refine ⟨_, M, My, by rw [if_pos p3, e_lf h (Or.inl rfl)]; rfl, by rw [hm z, s_bd1, b_t, if_neg p0, if_neg p1, if_neg p2', if_pos p3, a1]; rfl, inv.s2 fun m g => a2 m (by omega)⟩
    rw [if_neg p3]
    by_cases p4 : p2 = 4
    · obtain ⟨b, M1, b1, b2, b3, b4⟩ := e_part h
      obtain ⟨My, d1, d2⟩ := b4 M1 (RY.of hz0 b3)
      have hI : Inv z My := inv.s2 fun m g => by rw [d2 m (by omega), b3 m (by omega)]
      have S2 : S ≤ 200 := h.2.2.2.1
      rw [if_pos p4, b2, s_bd2]
      by_cases e : b = 0
      · subst e
        exact ⟨0, M1, My, rfl, by rw [e_isLine, b3 0 (by omega), hm1, s_bd1, b_t, if_neg p0, if_neg p1, if_neg p2', if_neg p3, if_pos p4, d1]; rfl, hI⟩
      · exact ⟨1, M1, My, by rw [if_neg (nI_ne0 (by omega) (by omega))], by rw [e_isLine, b3 0 (by omega), hm1, s_bd1, b_t, if_neg p0, if_neg p1, if_neg p2', if_neg p3, if_pos p4, d1, s_bd2, if_neg e, if_pos (nI_pos' (by omega))], hI⟩
    · exact ⟨-2000000000, M, M, by rw [if_neg p4], by rw [hm z, s_bd1, b_t, if_neg p0, if_neg p1, if_neg p2', if_neg p3, if_neg p4], inv⟩
  · exact ⟨-2000000000, M, M, by rw [hx]; rfl, by rw [hm z]; rfl, inv⟩
theorem hi_step : HI_step Inv := by
  intro z M p1 p2 p3 inv
  have hc := id inv.1
  obtain ⟨hz0, hz1, hz2, c1, c2, c3, c4, c5, c6⟩ := id hc
  unfold f_X7_step f_X8_step
  rcases e_lineAt (k := p1) hz1 c4 c3 with ⟨j, hj, rfl, hx, hm⟩ | ⟨hx, hm⟩
  · obtain ⟨hc, hd, ht, hw, hk, hy, hl, hf, ha, hr, he⟩ := id inv
    obtain ⟨S, W, h⟩ := TR.of inv hj
    obtain ⟨-, -, hS, S2, -⟩ := id h
    obtain ⟨q0, -⟩ := hl.1 j hj
    have hm1 := Option.some.inj ((e_isLine (z := z)).symm.trans (hm z))
    simp only [hx, s_bd1, s_mqs, e_isLine, e_isStep (show j < 10 by omega), q0, e_within]
    cases h2 : wi p2 1 (M 13 j)
    · exact ⟨-2000000000, M, M, rfl, by rw [hm1, b_t, h2]; rfl, inv⟩
    · have h2' := h2
      rw [hS] at h2'
      obtain ⟨s, s1, s2, rfl⟩ := wi_1 (by omega) h2'
      rw [b_t]
      have hi0 : inb (nI s) 201 = true := inb_nI (by omega) (by decide)
      have hi1 : Int32.toNatClampNeg (nI s) = s := nI_clamp (by omega)
      by_cases p5 : p3 = 5
      · subst p5
        obtain ⟨My, d1, d2, d3⟩ := e_stand h (Or.inl rfl) (RY.of hz0 (My := M) (fun _ _ => rfl))
        obtain ⟨v, v1, v2⟩ := e_str hz1 hl hj (nI s)
        refine ⟨v, M, My, by rw [show wi 5 0 5 = true from by decide, b_t, if_pos rfl, v1]; rfl, ?_, inv.s2 fun m g => d2 m (by omega)⟩
        rw [hm1, b_t, h2, b_t, d1, s_bd1, if_neg (by decide), if_neg (by decide), if_neg (by decide), if_neg (by decide), if_neg (by decide), if_pos rfl, v2 My (d2 _ (by omega)) (d2 _ (by omega)) (d2 _ (by omega))]
        rfl
      · obtain ⟨M1, a1, a2, a3⟩ := e_load h
        obtain ⟨My, d1, d2, d3⟩ := e_stand h (Or.inl rfl) (RY.of hz0 a2)
        have hI : Inv z My := inv.s2 fun m g => by rw [d2 m (by omega), a2 m (by omega)]
        obtain ⟨r18, r19, r20, r21, r22⟩ := d3 s s1 s2
        obtain ⟨b1, b2⟩ := a3 s s1 (by omega)
        obtain ⟨e1, e2⟩ := e_acr (z := z) (M := M1) s1 (show s ≤ 200 by omega)
        obtain ⟨l1, l2⟩ := l_pa h a3 s2 s 0 1000 (by omega) (by omega)
        have n0 := a2 0 (by omega)
        have n13 := a2 13 (by omega)
        by_cases w0 : p3 = 0
        · subst w0
          refine ⟨_, M1, My, by rw [show wi 0 0 5 = true from by decide, b_t, if_neg p5, a1, s_bd1, if_pos rfl, e1, b1]; rfl, ?_, hI⟩
          rw [n0, hm1, b_t, n13, h2, b_t, d1, s_bd1, if_pos rfl, hi0, s_ck, hi1, r18]
        by_cases w1 : p3 = 1
        · subst w1
          refine ⟨_, M1, My, by rw [show wi 1 0 5 = true from by decide, b_t, if_neg p5, a1, s_bd1, if_neg w0, if_pos rfl, e2, b2]; rfl, ?_, hI⟩
          rw [n0, hm1, b_t, n13, h2, b_t, d1, s_bd1, if_neg w0, if_pos rfl, hi0, s_ck, hi1, r19]
        by_cases w2 : p3 = 2
        · subst w2
          refine ⟨_, M1, My, by rw [show wi 2 0 5 = true from by decide, b_t, if_neg p5, a1, s_bd1, if_neg w0, if_neg w1, if_pos rfl, e_ten h a3 s1 s2]; rfl, ?_, hI⟩
          rw [n0, hm1, b_t, n13, h2, b_t, d1, s_bd1, if_neg w0, if_neg w1, if_pos rfl, hi0, s_ck, hi1, r20]
        by_cases w3 : p3 = 3
        · subst w3
          have l1 : f_X5_placeAcross z M1 (nI s) = some (bx_sum (fA M j S W (-1) (z 0)) s) := l1
          refine ⟨_, M1, My, by rw [show wi 3 0 5 = true from by decide, b_t, if_neg p5, a1, s_bd1, if_neg w0, if_neg w1, if_neg w2, if_pos rfl, l1]; rfl, ?_, hI⟩
          rw [n0, hm1, b_t, n13, h2, b_t, d1, s_bd1, if_neg w0, if_neg w1, if_neg w2, if_pos rfl, hi0, s_ck, hi1, r21]
        by_cases w4 : p3 = 4
        · subst w4
          have l2 : f_X5_placeUp z M1 (nI s) = some (bx_sum (fU M j S W (-1) (z 0)) s) := l2
          refine ⟨_, M1, My, by rw [show wi 4 0 5 = true from by decide, b_t, if_neg p5, a1, s_bd1, if_neg w0, if_neg w1, if_neg w2, if_neg w3, l2]; rfl, ?_, hI⟩
          rw [n0, hm1, b_t, n13, h2, b_t, d1, s_bd1, if_neg w0, if_neg w1, if_neg w2, if_neg w3, if_pos rfl, hi0, s_ck, hi1, r22]
        · have hw5 : wi p3 0 5 = false := by
            refine wi_f.mpr fun q => ?_
            have h0 := sw_ne w0
            have h1 := sw_ne w1
            have h2 := sw_ne w2
            have h3 := sw_ne w3
            have h4 := sw_ne w4
            have h5 := sw_ne p5
            rw [show (0 : Int32).toInt = 0 from by decide] at h0 q
            rw [show (1 : Int32).toInt = 1 from by decide] at h1
            rw [show (2 : Int32).toInt = 2 from by decide] at h2
            rw [show (3 : Int32).toInt = 3 from by decide] at h3
            rw [show (4 : Int32).toInt = 4 from by decide] at h4
            rw [show (5 : Int32).toInt = 5 from by decide] at h5 q
            omega
          obtain ⟨My, d1, d2, d3⟩ := e_stand h (Or.inl rfl) (RY.of hz0 (My := M) (fun _ _ => rfl))
          refine ⟨-2000000000, M, My, by rw [hw5]; rfl, ?_, inv.s2 fun m g => d2 m (by omega)⟩
          rw [hm1, b_t, h2, b_t, d1, s_bd1, if_neg w0, if_neg w1, if_neg w2, if_neg w3, if_neg w4, if_neg p5]
  · exact ⟨-2000000000, M, M, by rw [hx]; rfl, by rw [hm z]; rfl, inv⟩
theorem hi_part : HI_part Inv := by
  intro z M p1 inv
  have hc := id inv.1
  obtain ⟨hz0, hz1, hz2, c1, c2, c3, c4, c5, c6⟩ := id hc
  unfold f_X7_part f_X8_part
  rcases e_lineAt (k := p1) hz1 c4 c3 with ⟨j, hj, rfl, hx, hm⟩ | ⟨hx, hm⟩
  · obtain ⟨hc, hd, ht, hw, hk, hy, hl, hf, ha, hr, he⟩ := id inv
    obtain ⟨S, W, h⟩ := TR.of inv hj
    obtain ⟨-, -, hS, S2, -⟩ := id h
    obtain ⟨q0, -, -, -, -, -, kn, k1, k2, k3, k4⟩ := hl.1 j hj
    have hm1 := Option.some.inj ((e_isLine (z := z)).symm.trans (hm z))
    obtain ⟨b, M4, b1, b2, R4, b4⟩ := e_part h
    rw [hx, s_bd1, s_mqs, b2, s_bd2]
    by_cases e : b = 0
    · subst e
      obtain ⟨My, d1, d2⟩ := b4 M4 (RY.of hz0 R4)
      refine ⟨-2, M4, My, rfl, ?_, inv.s2 fun m g => by rw [d2 m (by omega), R4 m (by omega)]⟩
      rw [e_isLine, R4 0 (by omega), hm1, s_bd1, b_t, d1]
      rfl
    · have hsev : ∀ My : Mem, My 0 1 = nI (z 0) → My 16 j = nI kn → (∀ q, q < kn → My 17 (10 * j + q) = M 17 (10 * j + q)) → ∃ w Mx' My', w ≤ 10 ∧ f_X7_sever z (200 + 2 * j) M4 (nI j) (nI b) = some Mx' ∧ f_X8_end z My (nI j) (nI b) = some My' ∧ VX z M4 Mx' j b w ∧ VY (z 0) My My' j b w ∧ ∀ q, q < w → Mx' (200 + 2 * j + 1) q = My' 17 (10 * j + q) := fun My f1 f2 f3 => e_sev hz0 (by omega) k1 (by omega) (by omega) (by rw [R4 50 (by omega)]; exact c2) f1 (by rw [R4 _ (by omega)]; exact k3) f2 (fun q hq => by rw [R4 _ (by omega), f3 q hq]; exact k4 q hq) (by omega)
      obtain ⟨w0, M5, -, -, v1, -, v2, -, -⟩ := hsev M c1 k2 (fun _ _ => rfl)
      have R5 : ∀ m, ¬ (m = 72 ∨ m = 73 ∨ (100 ≤ m ∧ m < 100 + 4 * z 0) ∨ m = 200 + 2 * j ∨ m = 200 + 2 * j + 1) → M5 m = M m := fun m g => by rw [v2.1 m (by omega), R4 m (by omega)]
      have hY5 : RY z M M5 := by
        refine ⟨fun m g1 g2 => R5 m (by omega), fun i p hi hV => ?_⟩
        obtain ⟨a1, a2, a3, a4⟩ := hV
        refine ⟨a1, by rw [R5 2 (by omega)]; exact a2, by rw [v2.2.2.1 i hi 3 (by decide), R4 _ (by omega)]; exact a3, fun q hq => ?_⟩
        rw [v2.2.1 i hi _ (by omega) (by omega), v2.2.1 i hi (100 + 4 * i + 2) (by omega) (by omega), v2.2.1 i hi (100 + 4 * i + 3) (by omega) (by omega), R4 _ (by omega), R4 (100 + 4 * i + 2) (by omega), R4 (100 + 4 * i + 3) (by omega), R5 3 (by omega), R5 4 (by omega), R5 5 (by omega)]
        exact a4 q hq
      obtain ⟨My1, d1, d2⟩ := b4 M5 hY5
      rw [if_neg e] at d1
      have R6 : ∀ m, ¬ ((18 ≤ m ∧ m ≤ 22) ∨ m = 72 ∨ m = 73 ∨ (100 ≤ m ∧ m < 100 + 4 * z 0) ∨ m = 200 + 2 * j ∨ m = 200 + 2 * j + 1) → My1 m = M m := fun m g => by rw [d2 m (by omega), R5 m (by omega)]
      obtain ⟨w, M5', My2, w1, v1', y1, v2', y2, y3⟩ := hsev My1 (by rw [R6 0 (by omega)]; exact c1) (by rw [R6 16 (by omega)]; exact k2) (fun q hq => by rw [R6 17 (by omega)])
      have em : M5' = M5 := Option.some.inj (v1'.symm.trans v1)
      subst em
      have YR := y2.1
      refine ⟨nI b, M5', My2, ?_, ?_, ?_⟩
      · rw [if_neg (nI_ne0 (by omega) (by omega)), v1]; rfl
      · rw [e_isLine, R5 0 (by omega), hm1, s_bd1, b_t, d1, s_bd2, if_neg (nI_pos (by omega)), y1]; rfl
      · have B6 : ∀ m, ¬ (m = 7 ∨ m = 13 ∨ m = 16 ∨ m = 17 ∨ (18 ≤ m ∧ m ≤ 22)) → My2 m = M5' m := fun m g => by rw [YR m (by omega), d2 m (by omega)]
        refine inv.sev (l := j) (s := b) (S := S) (w := w) hj (by omega) hS b1 S2 w1 (fun k g => ?_) (fun m g => ?_) (fun i hi n n1 n2 => ?_) (fun i hi q hq => ?_) (fun i hi => ?_) (fun i => ?_) (fun i => ?_) (fun i => ?_) (fun q g => ?_) (fun q => ?_) (fun q hq => ?_) ?_
        · rw [B6 0 (by omega), R5 0 (by omega)]
        · rw [B6 m (by omega), R5 m (by omega)]
        · rw [B6 n (by omega), v2'.2.1 i hi n n1 n2, R4 n (by omega)]
        · rw [B6 _ (by omega), v2'.2.2.1 i hi q hq, R4 _ (by omega)]
        · rw [B6 _ (by omega), v2'.2.2.2.1 i hi, R4 _ (by omega)]
        · rw [y2.2.1 i, R6 7 (by omega), R6 8 (by omega)]
        · rw [y2.2.2.1 i, R6 13 (by omega)]
        · rw [y2.2.2.2.1 i, R6 16 (by omega)]
        · rw [y2.2.2.2.2 q g, R6 17 (by omega)]
        · rw [B6 _ (by omega), v2'.2.2.2.2 q, R4 _ (by omega)]
        · rw [B6 _ (by omega)]; exact y3 q hq
        · exact hr.r (by rw [B6 0 (by omega), R5 0 (by omega)]) (by rw [B6 _ (by omega), R5 _ (by omega)]) (by rw [B6 _ (by omega), R5 _ (by omega)]) (by rw [B6 _ (by omega), R5 _ (by omega)]) (by rw [B6 _ (by omega), R5 _ (by omega)]) (by rw [B6 _ (by omega), R5 _ (by omega)])
  · exact ⟨-1, M, M, by rw [hx]; rfl, by rw [hm z]; rfl, inv⟩
