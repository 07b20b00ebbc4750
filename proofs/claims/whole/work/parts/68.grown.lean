/-! kite, line, flyer: things that grow -/
def KB (M : Mem) (i : Nat) : Prop := ∃ p, KV M i p ∧ (∀ j, j < p → 1 ≤ (M 3 (6 * i + j)).toInt ∧ (M 3 (6 * i + j)).toInt ≤ 99 ∧ 0 ≤ (M 5 (6 * i + j)).toInt ∧ (M 5 (6 * i + j)).toInt ≤ 99) ∧ M (100 + 4 * i) 4 = M 6 i ∧ M (100 + 4 * i) 5 = M 7 i
theorem KB.e {M M' : Mem} {i : Nat} (h : KB M i) (e2 : M' 2 i = M 2 i) (e3 : ∀ j, j < 6 → M' 3 (6 * i + j) = M 3 (6 * i + j)) (e4 : ∀ j, j < 6 → M' 4 (6 * i + j) = M 4 (6 * i + j)) (e5 : ∀ j, j < 6 → M' 5 (6 * i + j) = M 5 (6 * i + j)) (e6 : M' 6 i = M 6 i) (e7 : M (100 + 4 * i) 5 = M 7 i → M' (100 + 4 * i) 5 = M' 7 i) (a3 : M' (100 + 4 * i) 3 = M (100 + 4 * i) 3) (a4 : M' (100 + 4 * i) 4 = M (100 + 4 * i) 4) (b : ∀ n, 100 + 4 * i < n → n < 100 + 4 * i + 4 → M' n = M n) : KB M' i := by
  obtain ⟨p, ⟨v1, v2, v3, v4⟩, h2, h3, h4⟩ := h
  refine ⟨p, ⟨v1, by rw [e2, v2], by rw [a3, v3], fun j hj => ?_⟩, fun j hj => ?_, by rw [a4, h3, e6], e7 h4⟩
  · rw [e3 j (by omega), e4 j (by omega), e5 j (by omega), b _ (by omega) (by omega), b _ (by omega) (by omega), b _ (by omega) (by omega)]
    exact v4 j hj
  · rw [e3 j (by omega), e5 j (by omega)]; exact h2 j hj
theorem KB.r {M M' : Mem} {i : Nat} (h : KB M i) (h1 : ∀ n, 2 ≤ n → n ≤ 7 → M' n = M n) (h2 : ∀ n, 100 + 4 * i ≤ n → n < 100 + 4 * i + 4 → M' n = M n) : KB M' i := h.e (by rw [h1 2 (by omega) (by omega)]) (fun _ _ => by rw [h1 3 (by omega) (by omega)]) (fun _ _ => by rw [h1 4 (by omega) (by omega)]) (fun _ _ => by rw [h1 5 (by omega) (by omega)]) (by rw [h1 6 (by omega) (by omega)]) (fun q => by rw [h1 7 (by omega) (by omega), h2 _ (by omega) (by omega)]; exact q) (by rw [h2 _ (by omega) (by omega)]) (by rw [h2 _ (by omega) (by omega)]) (fun n q1 q2 => h2 n (by omega) q2)
theorem nI_p1 (n : Nat) : nI (n + 1) - 1 = nI n := by
  have := pk_sub (a := n + 1) (b := 1) (by omega)
  rw [show n + 1 - 1 = n from by omega] at this
  exact this
theorem nI_ne {a b : Nat} (h : a ≠ b) (ha : a < 2 ^ 31) (hb : b < 2 ^ 31) : ¬ nI a = nI b := fun e => h ((nI_eq ha hb).mp e)
theorem hi_kite : HI_kite Inv := by
  intro z M inv
  obtain ⟨hc, hd, ht, hw, hk, hy, hl, hf, ha, hr, he⟩ := id inv
  obtain ⟨hz0, hz1, hz2, c1, c2, c3, c4, c5, c6⟩ := id hc
  refine ⟨⟨hz0, hz1, hz2⟩, c2, ?_⟩
  unfold f_X7_kite f_X8_kite
  by_cases h : z 0 < 20
  · refine ⟨none, by rw [c2]; exact if_pos (nI_lt h (by omega)), fun _ => h, fun r e => (nomatch e), fun _ => ?_⟩
    generalize hM1 : mu (nk_M (100 + 4 * z 0) M) 50 2 (nI (z 0 + 1)) = M1
    have R1 : ∀ m, ¬ (m = 50 ∨ (100 + 4 * z 0 ≤ m ∧ m < 100 + 4 * z 0 + 4)) → M1 m = M m := fun m g => by
      rw [← hM1, mu_ne m (by omega)]; unfold nk_M; rw [if_neg (by omega), if_neg (by omega)]
    have e01 : M1 0 1 = nI (z 0) := by rw [R1 0 (by omega)]; exact c1
    have e2 : mu M1 7 (z 0) (-1) 0 1 = nI (z 0) := by rw [mu_ne 0 (by decide)]; exact e01
    rw [e01, if_neg (show ¬ nI (z 0) = 20 from nI_ne (b := 20) (by omega) (by omega) (by decide)), inb_nI h (by decide), s_ck, nI_clamp (by omega), e2, nI_1]
    generalize hM2 : mu (mu M1 7 (z 0) (-1)) 0 1 (nI (z 0 + 1)) = M2
    have R2 : ∀ m, m ≠ 7 → m ≠ 0 → M2 m = M1 m := fun m g g' => by rw [← hM2, mu2_ne m g g']
    have R : ∀ m, ¬ (m = 0 ∨ m = 7 ∨ m = 50 ∨ (100 + 4 * z 0 ≤ m ∧ m < 100 + 4 * z 0 + 4)) → M2 m = M m := fun m g => by rw [R2 m (by omega) (by omega), R1 m (by omega)]
    have Z0 : ∀ k, M2 0 k = if k = 1 then nI (z 0 + 1) else M 0 k := fun k => by rw [← hM2, mu_eq, mu_ne 0 (by decide), R1 0 (by omega)]; rfl
    have Z7 : ∀ k, M2 7 k = if k = z 0 then -1 else M 7 k := fun k => by rw [← hM2, mu_ne 7 (by decide), mu_eq, R1 7 (by omega)]; rfl
    have Z5 : ∀ k, M2 50 k = if k = 2 then nI (z 0 + 1) else M 50 k := fun k => by
      rw [R2 50 (by decide) (by decide), ← hM1, mu_eq, show nk_M (100 + 4 * z 0) M 50 = M 50 from by unfold nk_M; rw [if_neg (by omega), if_neg (by omega)]]
      rfl
    have N0 : ∀ k, M2 (100 + 4 * z 0) k = if k = 5 then -1 else 0 := fun k => by
      rw [R2 _ (by omega) (by omega), ← hM1, mu_ne _ (by omega)]
      unfold nk_M
      rw [if_pos rfl]
    refine ⟨M2, by rw [s_lt, Z0, if_pos rfl, nI_p1], ?_⟩
    refine ⟨⟨(show z 0 + 1 ≤ 20 by omega), hz1, hz2, by rw [Z0]; rfl, by rw [Z5]; rfl, by rw [Z0]; exact c3, by rw [Z5]; exact c4, by rw [Z0]; exact c5, by rw [Z5]; exact c6⟩, hd.k (by rw [Z0]; rfl) (by rw [Z0]; rfl) (by rw [Z5]; rfl) (by rw [Z5]; rfl), ht.r (R _ (by omega)) (R _ (by omega)) (R _ (by omega)) (R _ (by omega)), hw.r (R _ (by omega)) (R _ (by omega)), ⟨fun i hi => ?_, fun i h1 h3 => ?_⟩, fun i hi => ?_, hl.r (fun n _ _ => R n (by omega)) (fun n _ _ => R n (by omega)), hf.r (fun n _ _ => R n (by omega)) (fun n _ _ => R n (by omega)), ha.r (R _ (by omega)) (R _ (by omega)), hr.r (by rw [Z0]; rfl) (R _ (by omega)) (R _ (by omega)) (R _ (by omega)) (R _ (by omega)) (R _ (by omega)), he.r (by rw [Z0]; rfl) (by rw [Z5]; rfl) (R _ (by omega)) (R _ (by omega))⟩
    · have hi : i < z 0 + 1 := hi
      by_cases e : i = z 0
      · subst e
        obtain ⟨q1, q2⟩ := hk.2 (z 0) (Nat.le_refl _) h
        refine ⟨0, ⟨by omega, by rw [R 2 (by omega), q1]; rfl, by rw [N0]; rfl, fun j hj => absurd hj (by omega)⟩, fun j hj => absurd hj (by omega), by rw [N0, R 6 (by omega), q2]; rfl, by rw [N0, Z7, if_pos rfl, if_pos rfl]⟩
      · exact KB.e (hk.1 i (by omega)) (by rw [R 2 (by omega)]) (fun _ _ => by rw [R 3 (by omega)]) (fun _ _ => by rw [R 4 (by omega)]) (fun _ _ => by rw [R 5 (by omega)]) (by rw [R 6 (by omega)]) (fun q => by rw [Z7, if_neg e, R _ (by omega)]; exact q) (by rw [R _ (by omega)]) (by rw [R _ (by omega)]) (fun n q1 q2 => R n (by omega))
    · have h1 : z 0 + 1 ≤ i := h1
      rw [R 2 (by omega), R 6 (by omega)]
      exact hk.2 i (by omega) h3
    · have hi : i < z 0 + 1 := hi
      by_cases e : i = z 0
      · subst e; left; rw [Z7, if_pos rfl]
      · rw [Z7, if_neg e, R 8 (by omega), R 13 (by omega), R (100 + 4 * i) (by omega)]
        exact hy i (by omega)
  · refine ⟨some (-3), by rw [c2]; exact if_neg (nI_nlt (b := 20) (by omega) (by omega)), fun e => (nomatch e), fun r e => ?_, fun e => (nomatch e)⟩
    cases e
    exact ⟨M, by rw [c1]; exact if_pos (show nI (z 0) = nI 20 by rw [show z 0 = 20 by omega]), inv⟩
theorem hi_line : HI_line Inv := by
  intro z M p1 p2 p3 inv
  obtain ⟨hc, hd, ht, hw, hk, hy, hl, hf, ha, hr, he⟩ := id inv
  obtain ⟨hz0, hz1, hz2, c1, c2, c3, c4, c5, c6⟩ := id hc
  refine ⟨⟨hz0, hz1, hz2⟩, c4, ?_⟩
  unfold f_X7_line f_X8_line
  simp only [e_within, e_in, s_bd1]
  cases h1 : wi p1 1 200
  · exact ⟨some (-1), rfl, fun e => (nomatch e), fun r e => by cases e; exact ⟨M, rfl, inv⟩, fun e => (nomatch e)⟩
  cases h2 : wi p2 1 99999
  · exact ⟨some (-1), rfl, fun e => (nomatch e), fun r e => by cases e; exact ⟨M, rfl, inv⟩, fun e => (nomatch e)⟩
  cases h3 : wi p3 0 9
  · exact ⟨some (-1), rfl, fun e => (nomatch e), fun r e => by cases e; exact ⟨M, rfl, inv⟩, fun e => (nomatch e)⟩
  simp only [eq_self, if_true]
  by_cases h : z 1 < 10
  · refine ⟨none, by rw [c4]; exact if_pos (nI_lt h (by omega)), fun _ => h, fun r e => (nomatch e), fun _ => ?_⟩
    generalize hM1 : mu (nl_M (200 + 2 * z 1) M p1 p2 p3) 50 5 (nI (z 1 + 1)) = M1
    have R1 : ∀ m, ¬ (m = 50 ∨ (200 + 2 * z 1 ≤ m ∧ m < 200 + 2 * z 1 + 2)) → M1 m = M m := fun m g => by
      rw [← hM1, mu_ne m (by omega)]; unfold nl_M; rw [if_neg (by omega), if_neg (by omega)]
    have e01 : M1 0 12 = nI (z 1) := by rw [R1 0 (by omega)]; exact c3
    have e2 : mu M1 13 (z 1) p1 0 12 = nI (z 1) := by rw [mu_ne 0 (by decide)]; exact e01
    rw [e01, if_neg (show ¬ nI (z 1) = 10 from nI_ne (b := 10) (by omega) (by omega) (by decide)), inb_nI h (by decide), s_ck, nI_clamp (by omega), e2, inb_nI h (by decide), s_ck, nI_clamp (by omega), s_lt]
    have e3 : mu (mu M1 13 (z 1) p1) 14 (z 1) p2 0 12 = nI (z 1) := by rw [mu_ne 0 (by decide)]; exact e2
    have e4 : mu (mu (mu M1 13 (z 1) p1) 14 (z 1) p2) 15 (z 1) p3 0 12 = nI (z 1) := by rw [mu_ne 0 (by decide)]; exact e3
    rw [e3, inb_nI h (by decide), s_ck, nI_clamp (by omega), e4, inb_nI h (by decide), s_ck, nI_clamp (by omega), s_lt]
    have e5 : mu (mu (mu (mu M1 13 (z 1) p1) 14 (z 1) p2) 15 (z 1) p3) 28 (z 1) (-1) 0 12 = nI (z 1) := by rw [mu_ne 0 (by decide)]; exact e4
    rw [e5, nI_1]
    generalize hM2 : mu (mu (mu (mu (mu M1 13 (z 1) p1) 14 (z 1) p2) 15 (z 1) p3) 28 (z 1) (-1)) 0 12 (nI (z 1 + 1)) = M2
    have R2 : ∀ m, ¬ (m = 0 ∨ m = 13 ∨ m = 14 ∨ m = 15 ∨ m = 28) → M2 m = M1 m := fun m g => by rw [← hM2, mu2_ne m (by omega) (by omega), mu2_ne m (by omega) (by omega), mu_ne m (by omega)]
    have R : ∀ m, ¬ (m = 0 ∨ m = 13 ∨ m = 14 ∨ m = 15 ∨ m = 28 ∨ m = 50 ∨ (200 + 2 * z 1 ≤ m ∧ m < 200 + 2 * z 1 + 2)) → M2 m = M m := fun m g => by rw [R2 m (by omega), R1 m (by omega)]
    have Z0 : ∀ k, M2 0 k = if k = 12 then nI (z 1 + 1) else M 0 k := fun k => by rw [← hM2, mu_eq, mu2_ne 0 (by decide) (by decide), mu2_ne 0 (by decide) (by decide), R1 0 (by omega)]; rfl
    have Z13 : ∀ k, M2 13 k = if k = z 1 then p1 else M 13 k := fun k => by rw [← hM2, mu2_ne 13 (by decide) (by decide), mu2_ne 13 (by decide) (by decide), mu_eq, R1 13 (by omega)]; rfl
    have Z14 : ∀ k, M2 14 k = if k = z 1 then p2 else M 14 k := fun k => by rw [← hM2, mu2_ne 14 (by decide) (by decide), mu_ne 14 (by decide), mu_eq, mu_ne 14 (by decide), R1 14 (by omega)]; rfl
    have Z15 : ∀ k, M2 15 k = if k = z 1 then p3 else M 15 k := fun k => by rw [← hM2, mu2_ne 15 (by decide) (by decide), mu_eq, mu2_ne 15 (by decide) (by decide), R1 15 (by omega)]; rfl
    have Z28 : ∀ k, M2 28 k = if k = z 1 then -1 else M 28 k := fun k => by rw [← hM2, mu_ne 28 (by decide), mu_eq, mu_ne 28 (by decide), mu2_ne 28 (by decide) (by decide), R1 28 (by omega)]; rfl
    have Z5 : ∀ k, M2 50 k = if k = 5 then nI (z 1 + 1) else M 50 k := fun k => by
      rw [R2 50 (by omega), ← hM1, mu_eq, show nl_M (200 + 2 * z 1) M p1 p2 p3 50 = M 50 from by unfold nl_M; rw [if_neg (by omega), if_neg (by omega)]]
      rfl
    have N0 : ∀ k, M2 (200 + 2 * z 1) k = if k = 0 then p1 else if k = 1 then p2 else if k = 2 then p3 else 0 := fun k => by
      rw [R2 _ (by omega), ← hM1, mu_ne _ (by omega)]
      unfold nl_M
      rw [if_pos rfl]
    refine ⟨M2, by rw [Z0, if_pos rfl, nI_p1], ?_⟩
    refine ⟨⟨hz0, (show z 1 + 1 ≤ 10 by omega), hz2, by rw [Z0]; exact c1, by rw [Z5]; exact c2, by rw [Z0]; rfl, by rw [Z5]; rfl, by rw [Z0]; exact c5, by rw [Z5]; exact c6⟩, hd.k (by rw [Z0]; rfl) (by rw [Z0]; rfl) (by rw [Z5]; rfl) (by rw [Z5]; rfl), ht.r (R _ (by omega)) (R _ (by omega)) (R _ (by omega)) (R _ (by omega)), hw.r (R _ (by omega)) (R _ (by omega)), hk.r (fun n _ _ => R n (by omega)) (fun n _ _ => R n (by omega)), fun i hi => ?_, ⟨fun l hl1 => ?_, fun l g1 g2 => ?_⟩, ⟨fun f hf1 => ?_, fun f g1 g2 => ?_, fun l hl1 => ?_⟩, ha.r (R _ (by omega)) (R _ (by omega)), ?_, he.r (by rw [Z0]; rfl) (by rw [Z5]; rfl) (R _ (by omega)) (R _ (by omega))⟩
    · have hi : i < z 0 := hi
      rw [R 7 (by omega), R 8 (by omega), R (100 + 4 * i) (by omega)]
      rcases hy i hi with q | ⟨l, s, q1, q2, q3, q4, q5, q6⟩
      · exact Or.inl q
      · exact Or.inr ⟨l, s, (show l < z 1 + 1 by omega), q2, q3, q4, q5, by rw [Z13, if_neg (by omega)]; exact q6⟩
    · have hl1 : l < z 1 + 1 := hl1
      by_cases e : l = z 1
      · subst e
        obtain ⟨a, a1, a2, rfl⟩ := wi_1 (t := 200) (by decide) h1
        obtain ⟨b, b1, b2, rfl⟩ := wi_1 (t := 99999) (by decide) h2
        obtain ⟨w, w1, rfl⟩ := wi_cst (n := 9) (by decide) h3
        refine ⟨by rw [N0, Z13, if_pos rfl, if_pos rfl], by rw [N0, Z14, if_neg (by decide), if_pos rfl, if_pos rfl], by rw [N0, Z15, if_neg (by decide), if_neg (by decide), if_pos rfl, if_pos rfl], ⟨a, a2, by rw [Z13, if_pos rfl]⟩, ⟨b, b2, by rw [Z14, if_pos rfl]⟩, ⟨w, w1, by rw [Z15, if_pos rfl]⟩, 0, by omega, by rw [R 16 (by omega)]; exact hl.2 _ (Nat.le_refl _) h, by rw [N0]; rfl, fun j hj => absurd hj (by omega)⟩
      · have := hl.1 l (by omega)
        rw [Z13, Z14, Z15, if_neg e, if_neg e, if_neg e, R (200 + 2 * l) (by omega), R (200 + 2 * l + 1) (by omega), R 16 (by omega), R 17 (by omega)]
        exact this
    · have g1 : z 1 + 1 ≤ l := g1
      rw [R 16 (by omega)]; exact hl.2 l (by omega) g2
    · obtain ⟨q1, q2, q3, q4, q5, q6, l, q7, q8⟩ := hf.1 f hf1
      have hf1 : f < z 2 := hf1
      rw [R (300 + f) (by omega), R 24 (by omega), R 25 (by omega), R 26 (by omega), R 27 (by omega)]
      exact ⟨q1, q2, q3, q4, q5, q6, l, (show l < z 1 + 1 by omega), q8⟩
    · rw [R 27 (by omega)]; exact hf.2.1 f g1 g2
    · have hl1 : l < z 1 + 1 := hl1
      rw [Z28, R 26 (by omega)]
      by_cases e : l = z 1
      · subst e
        rw [if_pos rfl]
        refine ⟨fun q => absurd q (by decide), fun ⟨f, q1, q2⟩ => ?_⟩
        obtain ⟨-, -, -, -, -, -, l, q7, q8⟩ := hf.1 f q1
        exact absurd (q8.symm.trans q2) (nI_ne (by omega) (by omega) (by omega))
      · rw [if_neg e]; exact hf.2.2 l (by omega)
    · obtain ⟨t, q1, q2, q3, q4⟩ := hr
      refine ⟨t, q1, by rw [Z0]; exact q2, by rw [R 67 (by omega)]; exact q3, fun k hk => ?_⟩
      obtain ⟨A, B, w1, w2, w3⟩ := q4 k hk
      rw [R 35 (by omega), R 36 (by omega), R 37 (by omega), R 74 (by omega)]
      exact ⟨A, B, w1, (show B < z 1 + 1 by omega), w3⟩
  · refine ⟨some (-3), by rw [c4]; exact if_neg (nI_nlt (b := 10) (by omega) (by omega)), fun e => (nomatch e), fun r e => ?_, fun e => (nomatch e)⟩
    cases e
    exact ⟨M, by rw [c3]; exact if_pos (show nI (z 1) = nI 10 by rw [show z 1 = 10 by omega]), inv⟩
