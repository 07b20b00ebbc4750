/-! weaken -/
theorem hi_weaken : HI_weaken Inv := by
  intro z M p1 p2 inv
  obtain ⟨hc, hd, ht, hw, hk, hy, hl, hf, ha, hr, he⟩ := id inv
  have hz1 := hc.2.1
  unfold f_X7_weaken f_X8_weaken
  rcases e_lineAt (k := p1) hc.2.1 hc.2.2.2.2.2.2.1 hc.2.2.2.2.2.1 with ⟨l, hl1, rfl, hx, hm⟩ | ⟨hx, hm⟩
  · have hm1 := Option.some.inj ((e_isLine (z := z)).symm.trans (hm z))
    obtain ⟨q0, q1, q2, q3, q4, q5, kn, k2, e1, e2, hT⟩ := hl.1 l hl1
    obtain ⟨b, b1, b2⟩ := e_hk (s := p2) hz1 hl hl1
    simp only [hx, s_bd1, s_mqs, e_within, e_isLine, e_isStep (show l < 10 by omega), q0]
    cases h1 : wi p2 1 (M 13 l)
    · exact ⟨-1, M, M, rfl, by rw [hm1, b_t, h1]; rfl, inv⟩
    · rw [b1, s_bd1, b_t]
      cases b
      · unfold f_X3_addKnot
        rw [e2, b_f]
        by_cases c : kn = 10
        · refine ⟨-3, M, M, by rw [if_neg (show ¬ nI kn < 10 by rw [c]; decide)]; rfl, ?_, inv⟩
          rw [hm1, b_t, h1, b_t, b2 M rfl rfl, s_bd1, b_f, inb_nI (by omega) (by decide), s_ck, nI_clamp (by omega), e1, if_pos (show nI kn = 10 by rw [c]; rfl)]
        · have rn : mu M (200 + 2 * l + 1) kn p2 (200 + 2 * l) = M (200 + 2 * l) := mu_ne _ (by omega)
          rw [if_pos (show nI kn < 10 from nI_lt (a := kn) (b := 10) (by omega) (by decide)), inb_nI (by omega) (by decide), s_ck, s_lt, nI_clamp (by omega), rn, e2, nI_1, mu_s, s_bd2]
          have R1 : ∀ m, m ≠ 200 + 2 * l + 1 → m ≠ 200 + 2 * l → mu (mu M (200 + 2 * l + 1) kn p2) (200 + 2 * l) 4 (nI (kn + 1)) m = M m := fun m h h' => mu2_ne m h h'
          refine ⟨nI (kn + 1), mu (mu M (200 + 2 * l + 1) kn p2) (200 + 2 * l) 4 (nI (kn + 1)), mu (mu (mu (mu M (200 + 2 * l + 1) kn p2) (200 + 2 * l) 4 (nI (kn + 1))) 17 (10 * l + kn) p2) 16 l (nI (kn + 1)), rfl, ?_, ?_⟩
          · rw [R1 0 (by omega) (by omega), R1 13 (by omega) (by omega), hm1, b_t, h1, b_t, b2 _ (R1 16 (by omega) (by omega)) (R1 17 (by omega) (by omega)), s_bd1, b_f, inb_nI (by omega) (by decide), s_ck, s_ck, nI_clamp (by omega), R1 16 (by omega) (by omega), e1, if_neg (show ¬ nI kn = 10 from fun e => c ((nI_eq (a := kn) (b := 10) (by omega) (by decide)).mp e)), show (10 : Int32) = nI 10 from rfl, pk_mul, nI_add, inb_nI (by omega) (by decide), s_ck, s_lt, s_ck, s_ck, s_lt, s_ck, nI_clamp (by omega), mu_s, show mu (mu (mu M (200 + 2 * l + 1) kn p2) (200 + 2 * l) 4 (nI (kn + 1))) 17 (10 * l + kn) p2 16 = M 16 from by rw [mu_ne 16 (by decide), R1 16 (by omega) (by omega)], e1, nI_1]
          · generalize hM2 : mu (mu (mu (mu M (200 + 2 * l + 1) kn p2) (200 + 2 * l) 4 (nI (kn + 1))) 17 (10 * l + kn) p2) 16 l (nI (kn + 1)) = M2
            have R : ∀ m, m ≠ 200 + 2 * l + 1 → m ≠ 200 + 2 * l → m ≠ 17 → m ≠ 16 → M2 m = M m := fun m a1 a2 a3 a4 => by rw [← hM2, mu2_ne m a3 a4, R1 m a1 a2]
            have N0 : ∀ k, M2 (200 + 2 * l) k = if k = 4 then nI (kn + 1) else M (200 + 2 * l) k := fun k => by rw [← hM2, mu2_ne _ (by omega) (by omega), mu_eq, rn]; rfl
            have N1 : ∀ k, M2 (200 + 2 * l + 1) k = if k = kn then p2 else M (200 + 2 * l + 1) k := fun k => by rw [← hM2, mu2_ne _ (by omega) (by omega), mu_ne _ (by omega), mu_eq]; rfl
            have N6 : ∀ k, M2 16 k = if k = l then nI (kn + 1) else M 16 k := fun k => by rw [← hM2, mu_eq, mu_ne 16 (by decide), R1 16 (by omega) (by omega)]; rfl
            have N7 : ∀ k, M2 17 k = if k = 10 * l + kn then p2 else M 17 k := fun k => by rw [← hM2, mu_ne 17 (by decide), mu_eq, R1 17 (by omega) (by omega)]; rfl
            refine ⟨hc.r (R 0 (by omega) (by omega) (by omega) (by omega)) (R 50 (by omega) (by omega) (by omega) (by omega)), hd.r (R 0 (by omega) (by omega) (by omega) (by omega)) (R 50 (by omega) (by omega) (by omega) (by omega)), ht.r (R _ (by omega) (by omega) (by omega) (by omega)) (R _ (by omega) (by omega) (by omega) (by omega)) (R _ (by omega) (by omega) (by omega) (by omega)) (R _ (by omega) (by omega) (by omega) (by omega)), hw.r (R _ (by omega) (by omega) (by omega) (by omega)) (R _ (by omega) (by omega) (by omega) (by omega)), hk.r (fun n _ _ => R n (by omega) (by omega) (by omega) (by omega)) (fun n _ _ => R n (by have := hc.1; omega) (by have := hc.1; omega) (by omega) (by omega)), hy.r (R _ (by omega) (by omega) (by omega) (by omega)) (R _ (by omega) (by omega) (by omega) (by omega)) (R _ (by omega) (by omega) (by omega) (by omega)) (fun i hi => by rw [R _ (by have := hc.1; omega) (by have := hc.1; omega) (by omega) (by omega)]), ⟨fun l' hl' => ?_, fun l' g1 g2 => ?_⟩, hf.r (fun n _ _ => R n (by omega) (by omega) (by omega) (by omega)) (fun n _ _ => R n (by omega) (by omega) (by omega) (by omega)), ha.r (R _ (by omega) (by omega) (by omega) (by omega)) (R _ (by omega) (by omega) (by omega) (by omega)), hr.r (by rw [R 0 (by omega) (by omega) (by omega) (by omega)]) (R _ (by omega) (by omega) (by omega) (by omega)) (R _ (by omega) (by omega) (by omega) (by omega)) (R _ (by omega) (by omega) (by omega) (by omega)) (R _ (by omega) (by omega) (by omega) (by omega)) (R _ (by omega) (by omega) (by omega) (by omega)), he.r (by rw [R 0 (by omega) (by omega) (by omega) (by omega)]) (by rw [R 50 (by omega) (by omega) (by omega) (by omega)]) (R _ (by omega) (by omega) (by omega) (by omega)) (R _ (by omega) (by omega) (by omega) (by omega))⟩
            · rw [R 13 (by omega) (by omega) (by omega) (by omega), R 14 (by omega) (by omega) (by omega) (by omega), R 15 (by omega) (by omega) (by omega) (by omega)]
              by_cases e : l' = l
              · subst e
                rw [N0 0, N0 1, N0 2, N0 4, if_neg (by decide), if_neg (by decide), if_neg (by decide), if_pos rfl, N6, if_pos rfl]
                refine ⟨q0, q1, q2, q3, q4, q5, kn + 1, by omega, rfl, rfl, fun j hj => ?_⟩
                rw [N1, N7]
                by_cases ej : j = kn
                · rw [if_pos ej, if_pos (by omega)]
                · rw [if_neg ej, if_neg (by omega)]; exact hT j (by omega)
              · rw [R (200 + 2 * l') (by omega) (by omega) (by omega) (by omega), R (200 + 2 * l' + 1) (by omega) (by omega) (by omega) (by omega), N6, if_neg e]
                obtain ⟨d0, d1, d2, d3, d4, d5, kn', d6, d7, d8, d9⟩ := hl.1 l' hl'
                refine ⟨d0, d1, d2, d3, d4, d5, kn', d6, d7, d8, fun j hj => ?_⟩
                rw [N7, if_neg (by omega)]; exact d9 j hj
            · rw [N6, if_neg (by omega)]; exact hl.2 l' g1 g2
      · exact ⟨-1, M, M, rfl, by rw [hm1, b_t, h1, b_t, b2 M rfl rfl]; rfl, inv⟩
  · exact ⟨-1, M, M, by rw [hx]; rfl, by rw [hm z]; rfl, inv⟩
