/-! tie -/
theorem S_on_c {g g' : Nat → Int32} {l : Int32} {n : Nat} (h : ∀ i, i < n → g i = g' i) : S_on g l n = S_on g' l n := bx_cong fun i hi => by rw [h i hi]
theorem hi_tie : HI_tie Inv := by
  intro z M p1 p2 p3 inv
  obtain ⟨hc, hd, ht, hw, hk, hy, hl, hf, ha, hr, he⟩ := id inv
  have hz0 := hc.1
  have hz1 := hc.2.1
  unfold f_X7_tie f_X8_tie
  rcases e_kiteAt (k := p1) hc.1 hc.2.2.2.2.1 hc.2.2.2.1 with ⟨j, hj, rfl, hx, hm⟩ | ⟨hx, hm⟩
  · have hm1 := Option.some.inj ((e_isKite (z := z)).symm.trans (hm z))
    rcases e_lineAt (k := p2) hc.2.1 hc.2.2.2.2.2.2.1 hc.2.2.2.2.2.1 with ⟨l, hl1, rfl, hx2, hm2⟩ | ⟨hx2, hm2⟩
    · have hm3 := Option.some.inj ((e_isLine (z := z)).symm.trans (hm2 z))
      obtain ⟨q0, -, -, ⟨s0, hs0, es0⟩, -⟩ := hl.1 l hl1
      obtain ⟨p, hV, hb, hkn, hkl⟩ := hk.1 j hj
      simp only [hx, hx2, s_bd1, s_mqs, e_within, e_isKite, e_isLine, e_isStep (show l < 10 by omega), q0]
      cases h1 : wi p3 1 (M 13 l)
      · exact ⟨-1, M, M, rfl, by rw [hm1, b_t, hm3, b_t, h1]; rfl, inv⟩
      · rw [b_t, hkl]
        rcases hy j hj with e7 | ⟨l0, s, g1, e7, -⟩
        · have h1' := h1
          rw [es0] at h1'
          obtain ⟨s, s1, s2, rfl⟩ := wi_1 (by omega) h1'
          generalize hM1 : mu (mu M (100 + 4 * j) 5 (nI l)) (100 + 4 * j) 6 (nI s) = M1
          have R1 : ∀ m, m ≠ 100 + 4 * j → M1 m = M m := fun m h => by rw [← hM1, mu2_ne m h h]
          have K1 : ∀ k, M1 (100 + 4 * j) k = if k = 6 then nI s else if k = 5 then nI l else M (100 + 4 * j) k := fun k => by rw [← hM1, mu_eq, mu_eq]; rfl
          generalize hM2 : mu (mu M1 7 j (nI l)) 8 j (nI s) = M2
          have R : ∀ m, m ≠ 100 + 4 * j → m ≠ 7 → m ≠ 8 → M2 m = M m := fun m a1 a2 a3 => by rw [← hM2, mu2_ne m a2 a3, R1 m a1]
          have K2 : ∀ k, M2 (100 + 4 * j) k = if k = 6 then nI s else if k = 5 then nI l else M (100 + 4 * j) k := fun k => by rw [← hM2, mu2_ne _ (by omega) (by omega), K1]
          have N7 : ∀ k, M2 7 k = if k = j then nI l else M 7 k := fun k => by rw [← hM2, mu_ne 7 (by decide), mu_eq, R1 7 (by omega)]; rfl
          have N8 : ∀ k, M2 8 k = if k = j then nI s else M 8 k := fun k => by rw [← hM2, mu_eq, mu_ne 8 (by decide), R1 8 (by omega)]; rfl
          have eq5 : ∀ i, i < z 0 → M1 (100 + 4 * i) 5 = M2 7 i := by
            intro i hi
            rw [N7]
            by_cases e : i = j
            · subst e; rw [K1, if_neg (by decide), if_pos rfl, if_pos rfl]
            · rw [R1 _ (by omega), if_neg e]
              obtain ⟨_, -, -, -, h⟩ := hk.1 i hi
              exact h
          refine ⟨S_on (M2 7) (nI l) (z 0), M1, M2, ?_, ?_, ?_⟩
          · rw [e7, if_pos rfl, e_on_x hz0 (by rw [R1 50 (by omega)]; exact hc.2.2.2.2.1) (by rw [R1 0 (by omega)]; exact hc.2.2.2.1), s_bd1, S_on_c eq5]
          · rw [R1 0 (by omega), R1 13 (by omega), hm1, b_t, hm3, b_t, h1, b_t, inb_nI (by omega) (by decide), s_ck, s_ck, s_ck, nI_clamp (by omega), R1 7 (by omega), e7, if_pos (by decide), s_lt, hM2, e_on_m hz0 (by rw [R 0 (by omega) (by omega) (by omega)]; exact hc.2.2.2.1), s_bd1]
          · refine ⟨hc.r (R 0 (by omega) (by omega) (by omega)) (R 50 (by omega) (by omega) (by omega)), hd.r (R 0 (by omega) (by omega) (by omega)) (R 50 (by omega) (by omega) (by omega)), ht.r (R _ (by omega) (by omega) (by omega)) (R _ (by omega) (by omega) (by omega)) (R _ (by omega) (by omega) (by omega)) (R _ (by omega) (by omega) (by omega)), hw.r (R _ (by omega) (by omega) (by omega)) (R _ (by omega) (by omega) (by omega)), ⟨fun i hi => ?_, fun i g1 g2 => ?_⟩, fun i hi => ?_, hl.r (fun n _ _ => R n (by omega) (by omega) (by omega)) (fun n _ _ => R n (by omega) (by omega) (by omega)), hf.r (fun n _ _ => R n (by omega) (by omega) (by omega)) (fun n _ _ => R n (by omega) (by omega) (by omega)), ha.r (R _ (by omega) (by omega) (by omega)) (R _ (by omega) (by omega) (by omega)), hr.r (by rw [R 0 (by omega) (by omega) (by omega)]) (R _ (by omega) (by omega) (by omega)) (R _ (by omega) (by omega) (by omega)) (R _ (by omega) (by omega) (by omega)) (R _ (by omega) (by omega) (by omega)) (R _ (by omega) (by omega) (by omega)), he.r (by rw [R 0 (by omega) (by omega) (by omega)]) (by rw [R 50 (by omega) (by omega) (by omega)]) (R _ (by omega) (by omega) (by omega)) (R _ (by omega) (by omega) (by omega))⟩
            · by_cases e : i = j
              · subst e
                refine ⟨p, ?_, ?_, ?_, ?_⟩
                · unfold KV at hV ⊢
                  rw [K2 3, if_neg (by decide), if_neg (by decide), R 2 (by omega) (by omega) (by omega), R 3 (by omega) (by omega) (by omega), R 4 (by omega) (by omega) (by omega), R 5 (by omega) (by omega) (by omega), R (100 + 4 * i + 1) (by omega) (by omega) (by omega), R (100 + 4 * i + 2) (by omega) (by omega) (by omega), R (100 + 4 * i + 3) (by omega) (by omega) (by omega)]
                  exact hV
                · rw [R 3 (by omega) (by omega) (by omega), R 5 (by omega) (by omega) (by omega)]; exact hb
                · rw [K2 4, if_neg (by decide), if_neg (by decide), R 6 (by omega) (by omega) (by omega)]; exact hkn
                · rw [K2 5, if_neg (by decide), if_pos rfl, N7, if_pos rfl]
              · obtain ⟨p', hV', hb', hkn', hkl'⟩ := hk.1 i hi
                refine ⟨p', hV'.r (fun n _ _ => R n (by omega) (by omega) (by omega)) (fun n _ _ => R n (by omega) (by omega) (by omega)), ?_, ?_, ?_⟩
                · rw [R 3 (by omega) (by omega) (by omega), R 5 (by omega) (by omega) (by omega)]; exact hb'
                · rw [R (100 + 4 * i) (by omega) (by omega) (by omega), R 6 (by omega) (by omega) (by omega)]; exact hkn'
                · rw [R (100 + 4 * i) (by omega) (by omega) (by omega), N7, if_neg e]; exact hkl'
            · rw [R 2 (by omega) (by omega) (by omega), R 6 (by omega) (by omega) (by omega)]; exact hk.2 i g1 g2
            · by_cases e : i = j
              · subst e
                right
                refine ⟨l, s, hl1, by rw [N7, if_pos rfl], by rw [N8, if_pos rfl], by rw [K2, if_pos rfl], s1, ?_⟩
                rw [R 13 (by omega) (by omega) (by omega), es0, nI_toInt (by omega)]
                omega
              · rw [N7, if_neg e, N8, if_neg e, R (100 + 4 * i) (by omega) (by omega) (by omega), R 13 (by omega) (by omega) (by omega)]
                exact hy i hi
        · refine ⟨-2, M, M, by rw [e7, if_neg (nI_m1ne (by omega))], ?_, inv⟩
          rw [hm1, b_t, hm3, b_t, h1, b_t, inb_nI (by omega) (by decide), s_ck, nI_clamp (by omega), e7, if_neg (nI_pos (by omega))]
    · exact ⟨-1, M, M, by rw [hx, s_bd1, s_mqs, hx2]; rfl, by rw [hm z, s_bd1, b_t, hm2 z]; rfl, inv⟩
  · refine ⟨-1, M, M, ?_, by rw [hm z]; rfl, inv⟩
    rcases e_lineAt (k := p2) hc.2.1 hc.2.2.2.2.2.2.1 hc.2.2.2.2.2.1 with ⟨l, hl1, rfl, hx2, hm2⟩ | ⟨hx2, hm2⟩
    · rw [hx, s_bd1, s_mqn, hx2]; rfl
    · rw [hx, s_bd1, s_mqn, hx2]; rfl
