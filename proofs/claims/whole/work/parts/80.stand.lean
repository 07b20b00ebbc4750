/-! the model's stand: sums, tensions, places -/
theorem l_s220 {z : Nat → Nat} {M : Mem} {l S W : Nat} {x : Int32} (h : TR z M l S W) (hx : x = -1 ∨ ∃ v, v ≤ 99 ∧ x = nI v) {My0 : Mem} (hY : RY z M My0) : ∀ (m k fu : Nat) (My : Mem), (∀ m, ¬ (18 ≤ m ∧ m ≤ 22) → My m = My0 m) → (∀ j, 1 ≤ j → j ≤ S → My 18 j = cA M l x (z 0) j ∧ My 19 j = cU M l S W x (z 0) j) → (∀ j, 1 ≤ j → j ≤ k → My 20 j = cT M l S W x (z 0) j) → (∀ j, j ≤ k → My 21 j = bx_sum (fA M l S W x (z 0)) j ∧ My 22 j = bx_sum (fU M l S W x (z 0)) j) → k + m = S → m < fu → ∃ My', f_X8_stand_220 z fu My (nI l) (nI (k + 1)) = some My' ∧ (∀ m, ¬ (18 ≤ m ∧ m ≤ 22) → My' m = My0 m) ∧ (∀ j, 1 ≤ j → j ≤ S → My' 18 j = cA M l x (z 0) j ∧ My' 19 j = cU M l S W x (z 0) j ∧ My' 20 j = cT M l S W x (z 0) j ∧ My' 21 j = bx_sum (fA M l S W x (z 0)) j ∧ My' 22 j = bx_sum (fU M l S W x (z 0)) j) := by
  obtain ⟨inv, hl, hS, S2, -⟩ := id h
  have hz1 := inv.1.2.1
  intro m
  induction m with
  | zero =>
    intro k fu My R H18 H20 H21 h1 h2
    have R0 : ∀ m, m < 50 → ¬ (18 ≤ m ∧ m ≤ 22) → My m = M m := fun m g1 g2 => by rw [R m g2, hY.1 m g1 g2]
    obtain ⟨fu, rfl⟩ : ∃ r, fu = r + 1 := ⟨fu - 1, by omega⟩
    refine ⟨My, by rw [f_X8_stand_220, inb_nI (show l < 10 by omega) (by decide), s_ck, nI_clamp (by omega), R0 13 (by omega) (by omega), hS, if_pos (nI_lt (by omega) (by omega))], R, fun j j1 j2 => ?_⟩
    obtain ⟨a1, a2⟩ := H18 j j1 j2
    obtain ⟨b1, b2⟩ := H21 j (by omega)
    exact ⟨a1, a2, H20 j j1 (by omega), b1, b2⟩
  | succ m ih =>
    intro k fu My R H18 H20 H21 h1 h2
    have R0 : ∀ m, m < 50 → ¬ (18 ≤ m ∧ m ≤ 22) → My m = M m := fun m g1 g2 => by rw [R m g2, hY.1 m g1 g2]
    obtain ⟨fu, rfl⟩ : ∃ r, fu = r + 1 := ⟨fu - 1, by omega⟩
    obtain ⟨a1, a2⟩ := H18 (k + 1) (by omega) (by omega)
    obtain ⟨b1, b2⟩ := H21 k (Nat.le_refl _)
    obtain ⟨k1, k2⟩ := ab_cA (s := k + 1) h hx
    obtain ⟨t1, -⟩ := e_te k1 k2
    have hT : f_X8_root z My ((My 18 (k + 1)).toInt64 * (My 18 (k + 1)).toInt64 + (My 19 (k + 1)).toInt64 * (My 19 (k + 1)).toInt64) = some (cT M l S W x (z 0) (k + 1)) := by rw [a1, a2]; exact t1 z My
    generalize hN : mu (mu (mu My 20 (k + 1) (cT M l S W x (z 0) (k + 1))) 21 (k + 1) (bx_sum (fA M l S W x (z 0)) (k + 1))) 22 (k + 1) (bx_sum (fU M l S W x (z 0)) (k + 1)) = N
    have RN : ∀ m, ¬ (m = 20 ∨ m = 21 ∨ m = 22) → N m = My m := fun m g => by rw [← hN, mu2_ne m (by omega) (by omega), mu_ne m (by omega)]
    have N20 : ∀ j, N 20 j = if j = k + 1 then cT M l S W x (z 0) (k + 1) else My 20 j := fun j => by rw [← hN, mu2_ne 20 (by decide) (by decide), mu_eq]; rfl
    have N21 : ∀ j, N 21 j = if j = k + 1 then bx_sum (fA M l S W x (z 0)) (k + 1) else My 21 j := fun j => by rw [← hN, mu_ne 21 (by decide), mu_eq, mu_ne 21 (by decide)]; rfl
    have N22 : ∀ j, N 22 j = if j = k + 1 then bx_sum (fU M l S W x (z 0)) (k + 1) else My 22 j := fun j => by rw [← hN, mu_eq, mu2_ne 22 (by decide) (by decide)]; rfl
    obtain ⟨My', q1, q2, q3⟩ := ih (k + 1) fu N (fun m g => by rw [RN m (by omega), R m g]) (fun j j1 j2 => by rw [RN 18 (by omega), RN 19 (by omega)]; exact H18 j j1 j2) (fun j j1 j2 => by
      rw [N20]
      by_cases e : j = k + 1
      · rw [if_pos e, e]
      · rw [if_neg e]; exact H20 j j1 (by omega)) (fun j j1 => by
      rw [N21, N22]
      by_cases e : j = k + 1
      · rw [if_pos e, if_pos e, e]; exact ⟨rfl, rfl⟩
      · rw [if_neg e, if_neg e]; exact H21 j (by omega)) (by omega) (by omega)
    refine ⟨My', ?_, q2, q3⟩
    rw [f_X8_stand_220, inb_nI (show l < 10 by omega) (by decide), s_ck, nI_clamp (show l < 2 ^ 31 by omega), R0 13 (by omega) (by omega), hS, if_neg (nI_nlt (by omega) (by omega)), inb_nI (show k + 1 < 201 by omega) (by decide), nI_p1, inb_nI (show k < 201 by omega) (by decide), nI_clamp (show k + 1 < 2 ^ 31 by omega), nI_clamp (show k < 2 ^ 31 by omega), s_ck, s_ck, s_ck, s_ck, hT, s_bd1]
    simp only [s_ck, s_lt, nI_1]
    have eA : bx_sum (fA M l S W x (z 0)) (k + 1) = My 21 k + hu2 (cA M l x (z 0) (k + 1)) (cT M l S W x (z 0) (k + 1)) := by rw [b1]; rfl
    have eU : bx_sum (fU M l S W x (z 0)) (k + 1) = My 22 k + hu2 (cU M l S W x (z 0) (k + 1)) (cT M l S W x (z 0) (k + 1)) := by rw [b2]; rfl
    rw [eA, eU] at hN
    unfold hu2 at hN
    by_cases c : cT M l S W x (z 0) (k + 1) = 0
    · rw [if_pos c, if_pos c] at hN
      rw [if_pos c, if_pos c, mu_ne 21 (by decide), mu2_ne 22 (by decide) (by decide), hN]
      exact q1
    · rw [if_neg c, if_neg c] at hN
      rw [if_neg c, if_neg c, t64_ne c, s_ck, s_ck, mu_ne 21 (by decide), mu_ne 18 (by decide), mu2_ne 22 (by decide) (by decide), mu2_ne 19 (by decide) (by decide), a1, a2, hN]
      exact q1

theorem l_s131 {z : Nat → Nat} {M : Mem} {l S W : Nat} {x : Int32} (h : TR z M l S W) (hx : x = -1 ∨ ∃ v, v ≤ 99 ∧ x = nI v) {My0 : Mem} (hY : RY z M My0) : ∀ (k fu : Nat) (My : Mem), k ≤ S → k < fu → (∀ m, ¬ (18 ≤ m ∧ m ≤ 22) → My m = My0 m) → (∀ j, 1 ≤ j → j ≤ k → My 18 j = HG (td M l) (pB M l x) (z 0) j ∧ My 19 j = HG (td M l) (pU M l x) (z 0) j) → (∀ j, k < j → j ≤ S → My 18 j = cA M l x (z 0) j ∧ My 19 j = cU M l S W x (z 0) j) → ∃ My', f_X8_stand_131 z fu My (nI l) (nI k) = some My' ∧ (∀ m, ¬ (18 ≤ m ∧ m ≤ 22) → My' m = My0 m) ∧ (∀ j, 1 ≤ j → j ≤ S → My' 18 j = cA M l x (z 0) j ∧ My' 19 j = cU M l S W x (z 0) j ∧ My' 20 j = cT M l S W x (z 0) j ∧ My' 21 j = bx_sum (fA M l S W x (z 0)) j ∧ My' 22 j = bx_sum (fU M l S W x (z 0)) j) := by
  obtain ⟨inv, hl, hS, S2, hW, W2, -⟩ := id h
  have hz1 := inv.1.2.1
  intro k
  induction k with
  | zero =>
    intro fu My hk hf R H1 H2
    have R0 : ∀ m, m < 50 → ¬ (18 ≤ m ∧ m ≤ 22) → My m = M m := fun m g1 g2 => by rw [R m g2, hY.1 m g1 g2]
    obtain ⟨fu, rfl⟩ : ∃ r, fu = r + 1 := ⟨fu - 1, by omega⟩
    obtain ⟨My', q1, q2, q3⟩ := l_s220 h hx hY S 0 1000 (mu (mu My 21 0 0) 22 0 0) (fun m g => by rw [mu2_ne m (by omega) (by omega), R m g]) (fun j j1 j2 => by rw [mu2_ne 18 (by decide) (by decide), mu2_ne 19 (by decide) (by decide)]; exact H2 j (by omega) j2) (fun j j1 j2 => absurd j1 (by omega)) (fun j j1 => by
      have e : j = 0 := by omega
      subst e
      rw [mu_s, mu_ne 21 (by decide), mu_s]
      exact ⟨rfl, rfl⟩) (by omega) (by omega)
    refine ⟨My', ?_, q2, q3⟩
    rw [f_X8_stand_131, if_pos (show nI 0 < 1 from by decide), show inb 0 201 = true from by decide, s_ck, s_ck, show Int32.toNatClampNeg 0 = 0 from by decide]
    exact q1
  | succ k ih =>
    intro fu My hk hf R H1 H2
    have R0 : ∀ m, m < 50 → ¬ (18 ≤ m ∧ m ≤ 22) → My m = M m := fun m g1 g2 => by rw [R m g2, hY.1 m g1 g2]
    obtain ⟨fu, rfl⟩ : ∃ r, fu = r + 1 := ⟨fu - 1, by omega⟩
    obtain ⟨a1, a2⟩ := H1 (k + 1) (by omega) (by omega)
    have tt := td_all h
    have g1 : ∀ f, GE (td M l) f (z 0) (S + 1) = 0 := fun f => GE_0 tt
    rw [f_X8_stand_131, if_neg (show ¬ nI (k + 1) < 1 from nI_nlt (b := 1) (by omega) (by omega)), inb_nI (show k + 1 < 201 by omega) (by decide), inb_nI (show l < 10 by omega) (by decide)]
    simp only [s_ck, s_lt, pk_m1]
    rw [nI_clamp (show k + 1 < 2 ^ 31 by omega), nI_clamp (show l < 2 ^ 31 by omega), R0 15 (by omega) (by omega), hW, mu_ne 13 (by decide), R0 13 (by omega) (by omega), hS, a2]
    by_cases c : k + 1 = S
    · rw [if_pos (by rw [c])]
      refine ih fu _ (by omega) (by omega) (fun m g => by rw [mu_ne m (by omega), R m g]) (fun j j1 j2 => ?_) (fun j j1 j2 => ?_)
      · rw [mu_ne 18 (by decide), mu_k (show j ≠ k + 1 by omega)]; exact H1 j j1 (by omega)
      · have e : j = k + 1 := by omega
        subst e
        rw [mu_ne 18 (by decide), mu_s, a1]
        have q1 := GE_s (t := td M l) (f := pB M l x) (n := z 0) (s := k + 1)
        have q2 := cU_s (M := M) (l := l) (S := S) (W := W) (n := z 0) (s := k + 1) (x := x) (by omega)
        rw [c] at q1 q2 ⊢
        rw [g1, Int32.add_zero] at q1
        refine ⟨q1.symm, ?_⟩
        rw [← q2]
        unfold cU
        rw [g1, Nat.sub_self, Nat.zero_mul, nI_0]
        grind
    · obtain ⟨b1, b2⟩ := H2 (k + 1 + 1) (by omega) (by omega)
      have e18 : My 18 (k + 1) + My 18 (k + 1 + 1) = cA M l x (z 0) (k + 1) := by rw [a1, b1]; unfold cA; exact GE_s.symm
      have e19 : HG (td M l) (pU M l x) (z 0) (k + 1) - nI W + My 19 (k + 1 + 1) = cU M l S W x (z 0) (k + 1) := by rw [b2, ← cU_s (s := k + 1) (by omega)]; grind
      rw [if_neg (nI_ne c (by omega) (by omega)), nI_1, inb_nI (show k + 1 + 1 < 201 by omega) (by decide), nI_clamp (show k + 1 + 1 < 2 ^ 31 by omega), s_ck, s_ck, mu_ne 18 (by decide), e18, mu_ne 19 (by decide), mu_s, mu_k (show k + 1 + 1 ≠ k + 1 by omega), e19]
      refine ih fu _ (by omega) (by omega) (fun m g => by rw [mu2_ne m (by omega) (by omega), mu_ne m (by omega), R m g]) (fun j j1 j2 => ?_) (fun j j1 j2 => ?_)
      · rw [mu_ne 18 (by decide), mu_k (show j ≠ k + 1 by omega), mu_ne 18 (by decide), mu_k (show j ≠ k + 1 by omega), mu_ne 19 (by decide), mu_k (show j ≠ k + 1 by omega)]
        exact H1 j j1 (by omega)
      · rw [mu_ne 18 (by decide)]
        by_cases e : j = k + 1
        · subst e; rw [mu_s, mu_s]; exact ⟨rfl, rfl⟩
        · rw [mu_k e, mu_ne 18 (by decide), mu_k e, mu_ne 19 (by decide), mu_k e]
          exact H2 j (by omega) j2
theorem e_stand {z : Nat → Nat} {M : Mem} {l S W : Nat} {x : Int32} (h : TR z M l S W) (hx : x = -1 ∨ ∃ v, v ≤ 99 ∧ x = nI v) {My0 : Mem} (hY : RY z M My0) : ∃ My', f_X8_stand z My0 (nI l) x = some My' ∧ (∀ m, ¬ (18 ≤ m ∧ m ≤ 22) → My' m = My0 m) ∧ (∀ j, 1 ≤ j → j ≤ S → My' 18 j = cA M l x (z 0) j ∧ My' 19 j = cU M l S W x (z 0) j ∧ My' 20 j = cT M l S W x (z 0) j ∧ My' 21 j = bx_sum (fA M l S W x (z 0)) j ∧ My' 22 j = bx_sum (fU M l S W x (z 0)) j) := by
  have hz := h.1.1.1
  have S2 : S ≤ 200 := h.2.2.2.1
  obtain ⟨M1, a1, a2, a3⟩ := l_s2 (z := z) (l := nI l) (x := x) 201 0 1000 My0 (fun _ _ => rfl) (fun j hj => absurd hj (by omega)) (by omega) (by omega)
  obtain ⟨M2, b1, b2, b3⟩ := l_s31 h hx hY (z 0) 0 1000 M1 a2 (fun j j1 j2 => a3 j j2) (by omega) (by omega)
  obtain ⟨M3, d1, d2, d3⟩ := l_s131 h hx hY S 1000 M2 (Nat.le_refl _) (by omega) b2 (fun j j1 j2 => b3 j j1 (by omega)) (fun j j1 j2 => absurd j1 (by omega))
  exact ⟨M3, (a1.trans b1).trans d1, d2, d3⟩
theorem e_lifts {z : Nat → Nat} {M : Mem} {l S W : Nat} {x : Int32} (h : TR z M l S W) (hx : x = -1 ∨ ∃ v, v ≤ 99 ∧ x = nI v) {My0 : Mem} (hY : RY z M My0) : ∃ My', f_X8_lifts z My0 (nI l) x = some (GE (td M l) (pU M l x) (z 0) 1 - nI (S * W), My') ∧ (∀ m, ¬ (18 ≤ m ∧ m ≤ 22) → My' m = My0 m) := by
  obtain ⟨inv, hl, hS, S2, -⟩ := id h
  have hz1 := inv.1.2.1
  unfold f_X8_lifts
  rw [inb_nI (show l < 10 by omega) (by decide), s_ck, nI_clamp (by omega), hY.1 13 (by omega) (by omega), hS]
  by_cases c : S = 0
  · subst c
    refine ⟨My0, ?_, fun _ _ => rfl⟩
    rw [if_pos (show nI 0 = 0 from rfl), GE_0 (td_all h), Nat.zero_mul]
    rfl
  · obtain ⟨My', q1, q2, q3⟩ := e_stand h hx hY
    refine ⟨My', ?_, q2⟩
    rw [if_neg (nI_ne0 (by omega) (by omega)), q1, s_bd1, show inb 1 201 = true from by decide, s_ck, show Int32.toNatClampNeg 1 = 1 from by decide, (q3 1 (by omega) (by omega)).2.1]
    unfold cU
    rw [show S + 1 - 1 = S by omega]
