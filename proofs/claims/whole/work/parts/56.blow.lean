/-! blow, knot, untie -/
theorem e_isKite {z : Nat → Nat} {M : Mem} {k : Int32} : f_X8_isKite z M k = some (wi k 0 (M 0 1 - 1)) := by unfold f_X8_isKite; rw [e_in]; rfl
theorem e_isLine {z : Nat → Nat} {M : Mem} {k : Int32} : f_X8_isLine z M k = some (wi k 0 (M 0 12 - 1)) := by unfold f_X8_isLine; rw [e_in]; rfl
theorem e_isFlyer {z : Nat → Nat} {M : Mem} {k : Int32} : f_X8_isFlyer z M k = some (wi k 0 (M 0 23 - 1)) := by unfold f_X8_isFlyer; rw [e_in]; rfl
theorem mu_k {M : Mem} {n k k' : Nat} {v : Int32} (h : k' ≠ k) : mu M n k v n k' = M n k' := by rw [mu_eq]; unfold va_up; rw [if_neg h]
theorem hi_blow : HI_blow Inv := by
  intro z M p1 p2 inv
  obtain ⟨hc, hd, ht, hw, hk, hy, hl, hf, ha, hr, he⟩ := id inv
  unfold f_X7_blow f_X8_blow
  simp only [e_within, e_in, s_bd1]
  cases h1 : wi p1 0 3
  · exact ⟨_, M, M, rfl, rfl, inv⟩
  · cases h2 : wi p2 0 200
    · exact ⟨_, M, M, rfl, rfl, inv⟩
    · obtain ⟨d, hd3, rfl⟩ := wi_cst (n := 3) (by decide) h1
      obtain ⟨s, hs, rfl⟩ := wi_cst (n := 200) (by decide) h2
      simp only [b_t]
      have e0 : ∀ k, mu (mu M 50 12 (nI d)) 50 13 (nI s) 0 k = M 0 k := fun k => by rw [mu2_ne 0 (by decide) (by decide)]
      refine ⟨10 * M 0 31 + M 0 30, mu (mu M 50 12 (nI d)) 50 13 (nI s), mu (mu (mu (mu M 50 12 (nI d)) 50 13 (nI s)) 0 30 (nI d)) 0 31 (nI s), by rw [hd.1, hd.2.1]; rfl, by rw [e0, e0]; rfl, ?_⟩
      have R : ∀ m, m ≠ 0 → m ≠ 50 → mu (mu (mu (mu M 50 12 (nI d)) 50 13 (nI s)) 0 30 (nI d)) 0 31 (nI s) m = M m := fun m h h' => by rw [mu2_ne m h h, mu2_ne m h' h']
      have z0 : ∀ k, k ≠ 30 → k ≠ 31 → mu (mu (mu (mu M 50 12 (nI d)) 50 13 (nI s)) 0 30 (nI d)) 0 31 (nI s) 0 k = M 0 k := fun k h h' => by rw [mu_k h', mu_k h, e0]
      have z5 : ∀ k, k ≠ 12 → k ≠ 13 → mu (mu (mu (mu M 50 12 (nI d)) 50 13 (nI s)) 0 30 (nI d)) 0 31 (nI s) 50 k = M 50 k := fun k h h' => by rw [mu2_ne 50 (by decide) (by decide), mu_k h', mu_k h]
      refine ⟨?_, ?_, ht.r (R _ (by decide) (by decide)) (R _ (by decide) (by decide)) (R _ (by decide) (by decide)) (R _ (by decide) (by decide)), hw.r (R _ (by decide) (by decide)) (R _ (by decide) (by decide)), hk.r (fun n _ _ => R n (by omega) (by omega)) (fun n _ _ => R n (by omega) (by omega)), hy.r (R _ (by decide) (by decide)) (R _ (by decide) (by decide)) (R _ (by decide) (by decide)) (fun i _ => by rw [R _ (by omega) (by omega)]), hl.r (fun n _ _ => R n (by omega) (by omega)) (fun n _ _ => R n (by omega) (by omega)), hf.r (fun n _ _ => R n (by omega) (by omega)) (fun n _ _ => R n (by omega) (by omega)), ha.r (R _ (by decide) (by decide)) (R _ (by decide) (by decide)), hr.r (z0 34 (by decide) (by decide)) (R _ (by decide) (by decide)) (R _ (by decide) (by decide)) (R _ (by decide) (by decide)) (R _ (by decide) (by decide)) (R _ (by decide) (by decide)), he.r (z0 32 (by decide) (by decide)) (z5 11 (by decide) (by decide)) (R _ (by decide) (by decide)) (R _ (by decide) (by decide))⟩
      · unfold Ic at hc ⊢
        rw [z0 1 (by decide) (by decide), z0 12 (by decide) (by decide), z0 23 (by decide) (by decide), z5 2 (by decide) (by decide), z5 5 (by decide) (by decide), z5 8 (by decide) (by decide)]
        exact hc
      · have a1 : mu (mu (mu (mu M 50 12 (nI d)) 50 13 (nI s)) 0 30 (nI d)) 0 31 (nI s) 0 30 = nI d := by rw [mu_k (by decide), mu_s]
        have a2 : mu (mu (mu (mu M 50 12 (nI d)) 50 13 (nI s)) 0 30 (nI d)) 0 31 (nI s) 0 31 = nI s := by rw [mu_s]
        have a3 : mu (mu (mu (mu M 50 12 (nI d)) 50 13 (nI s)) 0 30 (nI d)) 0 31 (nI s) 50 12 = nI d := by rw [mu2_ne 50 (by decide) (by decide), mu_k (by decide), mu_s]
        have a4 : mu (mu (mu (mu M 50 12 (nI d)) 50 13 (nI s)) 0 30 (nI d)) 0 31 (nI s) 50 13 = nI s := by rw [mu2_ne 50 (by decide) (by decide), mu_s]
        unfold Id
        rw [a1, a2, a3, a4]
        exact ⟨rfl, rfl, ⟨d, hd3, rfl⟩, s, hs, rfl⟩
theorem hi_knot : HI_knot Inv := by
  intro z M p1 p2 inv
  obtain ⟨hc, hd, ht, hw, hk, hy, hl, hf, ha, hr, he⟩ := id inv
  unfold f_X7_knot f_X8_knot
  rcases e_kiteAt (k := p1) hc.1 hc.2.2.2.2.1 hc.2.2.2.1 with ⟨j, hj, rfl, hx, hm⟩ | ⟨hx, hm⟩
  · have hj20 : j < 20 := by have := hc.1; omega
    have hm1 := hm z
    rw [e_isKite] at hm1
    have hm1 := Option.some.inj hm1
    simp only [hx, s_bd1, s_mqs, e_isArm, e_in, e_isKite]
    cases h2 : wi p2 (-99) 99
    · exact ⟨-2000000000, M, M, rfl, by rw [hm1]; rfl, inv⟩
    · simp only [b_t]
      obtain ⟨p, hV, hb, hkn, hkl⟩ := hk.1 j hj
      have r0 : mu M (100 + 4 * j) 4 p2 0 = M 0 := mu_ne 0 (by omega)
      have r6 : mu M (100 + 4 * j) 4 p2 6 = M 6 := mu_ne 6 (by omega)
      refine ⟨M 6 j, mu M (100 + 4 * j) 4 p2, mu (mu M (100 + 4 * j) 4 p2) 6 j p2, by rw [hkn]; rfl, ?_, ?_⟩
      · rw [r0, hm1, inb_nI hj20 (by decide), nI_clamp (by omega), r6]; rfl
      · have R : ∀ m, m ≠ 100 + 4 * j → m ≠ 6 → mu (mu M (100 + 4 * j) 4 p2) 6 j p2 m = M m := fun m h h' => mu2_ne m h h'
        have K6 : ∀ i, mu (mu M (100 + 4 * j) 4 p2) 6 j p2 6 i = if i = j then p2 else M 6 i := fun i => by rw [mu_eq]; unfold va_up; rw [r6]
        have KK : ∀ k, mu (mu M (100 + 4 * j) 4 p2) 6 j p2 (100 + 4 * j) k = if k = 4 then p2 else M (100 + 4 * j) k := fun k => by rw [mu_ne _ (by omega), mu_eq]; rfl
        refine ⟨hc.r (R 0 (by omega) (by decide)) (R 50 (by omega) (by decide)), hd.r (R 0 (by omega) (by decide)) (R 50 (by omega) (by decide)), ht.r (R _ (by omega) (by decide)) (R _ (by omega) (by decide)) (R _ (by omega) (by decide)) (R _ (by omega) (by decide)), hw.r (R _ (by omega) (by decide)) (R _ (by omega) (by decide)), ⟨fun i hi => ?_, fun i h1 h3 => ?_⟩, hy.r (R _ (by omega) (by decide)) (R _ (by omega) (by decide)) (R _ (by omega) (by decide)) (fun i _ => ?_), hl.r (fun n _ _ => R n (by omega) (by omega)) (fun n _ _ => R n (by omega) (by omega)), hf.r (fun n _ _ => R n (by omega) (by omega)) (fun n _ _ => R n (by omega) (by omega)), ha.r (R _ (by omega) (by decide)) (R _ (by omega) (by decide)), hr.r (by rw [R 0 (by omega) (by decide)]) (R _ (by omega) (by decide)) (R _ (by omega) (by decide)) (R _ (by omega) (by decide)) (R _ (by omega) (by decide)) (R _ (by omega) (by decide)), he.r (by rw [R 0 (by omega) (by decide)]) (by rw [R 50 (by omega) (by decide)]) (R _ (by omega) (by decide)) (R _ (by omega) (by decide))⟩
        · by_cases e : i = j
          · subst e
            refine ⟨p, ?_, ?_, ?_, ?_⟩
            · unfold KV at hV ⊢
              rw [KK 3, if_neg (by decide), R 2 (by omega) (by decide), R 3 (by omega) (by decide), R 4 (by omega) (by decide), R 5 (by omega) (by decide), R (100 + 4 * i + 1) (by omega) (by omega), R (100 + 4 * i + 2) (by omega) (by omega), R (100 + 4 * i + 3) (by omega) (by omega)]
              exact hV
            · rw [R 3 (by omega) (by decide), R 5 (by omega) (by decide)]; exact hb
            · rw [KK 4, K6, if_pos rfl, if_pos rfl]
            · rw [KK 5, if_neg (by decide), R 7 (by omega) (by decide)]; exact hkl
          · obtain ⟨p', hV', hb', hkn', hkl'⟩ := hk.1 i hi
            refine ⟨p', hV'.r (fun n _ _ => R n (by omega) (by omega)) (fun n _ _ => R n (by omega) (by omega)), ?_, ?_, ?_⟩
            · rw [R 3 (by omega) (by decide), R 5 (by omega) (by decide)]; exact hb'
            · rw [R (100 + 4 * i) (by omega) (by omega), K6, if_neg e]; exact hkn'
            · rw [R (100 + 4 * i) (by omega) (by omega), R 7 (by omega) (by decide)]; exact hkl'
        · rw [R 2 (by omega) (by decide), K6, if_neg (by omega)]; exact hk.2 i h1 h3
        · by_cases e : i = j
          · subst e; rw [KK 6, if_neg (by decide)]
          · rw [R _ (by omega) (by omega)]
  · simp only [hx, s_bd1, s_mqn]
    exact ⟨-2000000000, M, M, rfl, by rw [hm z]; rfl, inv⟩
theorem ng_1 : ¬ (0 : Int32) ≤ -1 := by decide
theorem nI_m1ne {l : Nat} (h : l < 2 ^ 30) : ¬ nI l = (-1 : Int32) := fun e => by
  have := congrArg Int32.toInt e
  rw [nI_toInt (by omega), show (-1 : Int32).toInt = -1 from by decide] at this
  omega
theorem hi_untie : HI_untie Inv := by
  intro z M p1 inv
  obtain ⟨hc, hd, ht, hw, hk, hy, hl, hf, ha, hr, he⟩ := id inv
  have hz1 := hc.2.1
  unfold f_X7_untie f_X8_untie
  rcases e_kiteAt (k := p1) hc.1 hc.2.2.2.2.1 hc.2.2.2.1 with ⟨j, hj, rfl, hx, hm⟩ | ⟨hx, hm⟩
  · have hj20 : j < 20 := by have := hc.1; omega
    have hm1 := hm z
    rw [e_isKite] at hm1
    have hm1 := Option.some.inj hm1
    obtain ⟨p, hV, hb, hkn, hkl⟩ := hk.1 j hj
    simp only [hx, s_bd1, s_mqs, e_isKite]
    rcases hy j hj with e7 | ⟨l, s, h1, e7, e8, e9, h2, h3⟩
    · refine ⟨-2, M, M, by rw [hkl, e7, if_pos rfl], ?_, inv⟩
      rw [hm1, inb_nI hj20 (by decide), nI_clamp (by omega), e7, s_ck, if_neg ng_1]; rfl
    · have r0 : mu M (100 + 4 * j) 5 (-1) 0 = M 0 := mu_ne 0 (by omega)
      have r7 : mu M (100 + 4 * j) 5 (-1) 7 = M 7 := mu_ne 7 (by omega)
      refine ⟨nI l, mu M (100 + 4 * j) 5 (-1), mu (mu M (100 + 4 * j) 5 (-1)) 7 j (-1), by rw [hkl, e7, if_neg (nI_m1ne (by omega))], ?_, ?_⟩
      · rw [r0, hm1, inb_nI hj20 (by decide), nI_clamp (by omega), r7, e7, s_ck, s_ck, s_ck, if_pos (nI_pos' (by omega))]; rfl
      · have R : ∀ m, m ≠ 100 + 4 * j → m ≠ 7 → mu (mu M (100 + 4 * j) 5 (-1)) 7 j (-1) m = M m := fun m h h' => mu2_ne m h h'
        have K7 : ∀ i, mu (mu M (100 + 4 * j) 5 (-1)) 7 j (-1) 7 i = if i = j then -1 else M 7 i := fun i => by rw [mu_eq]; unfold va_up; rw [r7]
        have KK : ∀ k, mu (mu M (100 + 4 * j) 5 (-1)) 7 j (-1) (100 + 4 * j) k = if k = 5 then -1 else M (100 + 4 * j) k := fun k => by rw [mu_ne _ (by omega), mu_eq]; rfl
        refine ⟨hc.r (R 0 (by omega) (by decide)) (R 50 (by omega) (by decide)), hd.r (R 0 (by omega) (by decide)) (R 50 (by omega) (by decide)), ht.r (R _ (by omega) (by decide)) (R _ (by omega) (by decide)) (R _ (by omega) (by decide)) (R _ (by omega) (by decide)), hw.r (R _ (by omega) (by decide)) (R _ (by omega) (by decide)), ⟨fun i hi => ?_, fun i h1 h3 => ?_⟩, fun i hi => ?_, hl.r (fun n _ _ => R n (by omega) (by omega)) (fun n _ _ => R n (by omega) (by omega)), hf.r (fun n _ _ => R n (by omega) (by omega)) (fun n _ _ => R n (by omega) (by omega)), ha.r (R _ (by omega) (by decide)) (R _ (by omega) (by decide)), hr.r (by rw [R 0 (by omega) (by decide)]) (R _ (by omega) (by decide)) (R _ (by omega) (by decide)) (R _ (by omega) (by decide)) (R _ (by omega) (by decide)) (R _ (by omega) (by decide)), he.r (by rw [R 0 (by omega) (by decide)]) (by rw [R 50 (by omega) (by decide)]) (R _ (by omega) (by decide)) (R _ (by omega) (by decide))⟩
        · by_cases e : i = j
          · subst e
            refine ⟨p, ?_, ?_, ?_, ?_⟩
            · unfold KV at hV ⊢
              rw [KK 3, if_neg (by decide), R 2 (by omega) (by decide), R 3 (by omega) (by decide), R 4 (by omega) (by decide), R 5 (by omega) (by decide), R (100 + 4 * i + 1) (by omega) (by omega), R (100 + 4 * i + 2) (by omega) (by omega), R (100 + 4 * i + 3) (by omega) (by omega)]
              exact hV
            · rw [R 3 (by omega) (by decide), R 5 (by omega) (by decide)]; exact hb
            · rw [KK 4, if_neg (by decide), R 6 (by omega) (by decide)]; exact hkn
            · rw [KK 5, K7, if_pos rfl, if_pos rfl]
          · obtain ⟨p', hV', hb', hkn', hkl'⟩ := hk.1 i hi
            refine ⟨p', hV'.r (fun n _ _ => R n (by omega) (by omega)) (fun n _ _ => R n (by omega) (by omega)), ?_, ?_, ?_⟩
            · rw [R 3 (by omega) (by decide), R 5 (by omega) (by decide)]; exact hb'
            · rw [R (100 + 4 * i) (by omega) (by omega), R 6 (by omega) (by decide)]; exact hkn'
            · rw [R (100 + 4 * i) (by omega) (by omega), K7, if_neg e]; exact hkl'
        · rw [R 2 (by omega) (by decide), R 6 (by omega) (by decide)]; exact hk.2 i h1 h3
        · by_cases e : i = j
          · subst e; rw [K7, if_pos rfl]; exact Or.inl rfl
          · rw [K7, if_neg e, R (100 + 4 * i) (by omega) (by omega), R 8 (by omega) (by decide), R 13 (by omega) (by decide)]
            exact hy i hi
  · simp only [hx, s_bd1, s_mqn]
    exact ⟨-1, M, M, rfl, by rw [hm z]; rfl, inv⟩
