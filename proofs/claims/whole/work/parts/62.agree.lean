/-! agree -/
theorem ag_inv {z : Nat → Nat} {M : Mem} {a b : Nat} {v : Int32} (inv : Inv z M) : Inv z (mu (mu (mu (mu M 60 a v) 60 b v) 29 a v) 29 b v) := by
  obtain ⟨hc, hd, ht, hw, hk, hy, hl, hf, ha, hr, he⟩ := inv
  have R : ∀ m, m ≠ 60 → m ≠ 29 → mu (mu (mu (mu M 60 a v) 60 b v) 29 a v) 29 b v m = M m := fun m h h' => by rw [mu2_ne m h' h', mu2_ne m h h]
  refine ⟨hc.r (R 0 (by decide) (by decide)) (R 50 (by decide) (by decide)), hd.r (R 0 (by decide) (by decide)) (R 50 (by decide) (by decide)), ht.r (R _ (by decide) (by decide)) (R _ (by decide) (by decide)) (R _ (by decide) (by decide)) (R _ (by decide) (by decide)), hw.r (R _ (by decide) (by decide)) (R _ (by decide) (by decide)), hk.r (fun n _ _ => R n (by omega) (by omega)) (fun n _ _ => R n (by omega) (by omega)), hy.r (R _ (by decide) (by decide)) (R _ (by decide) (by decide)) (R _ (by decide) (by decide)) (fun i _ => by rw [R _ (by omega) (by omega)]), hl.r (fun n _ _ => R n (by omega) (by omega)) (fun n _ _ => R n (by omega) (by omega)), hf.r (fun n _ _ => R n (by omega) (by omega)) (fun n _ _ => R n (by omega) (by omega)), fun i hi => ?_, hr.r (by rw [R 0 (by decide) (by decide)]) (R _ (by decide) (by decide)) (R _ (by decide) (by decide)) (R _ (by decide) (by decide)) (R _ (by decide) (by decide)) (R _ (by decide) (by decide)), he.r (by rw [R 0 (by decide) (by decide)]) (by rw [R 50 (by decide) (by decide)]) (R _ (by decide) (by decide)) (R _ (by decide) (by decide))⟩
  rw [mu2_ne 60 (by decide) (by decide), mu_eq, mu_eq, mu_eq, mu_eq, mu2_ne 29 (by decide) (by decide)]
  unfold va_up
  by_cases e : i = b
  · rw [if_pos e, if_pos e]
  · rw [if_neg e, if_neg e]
    by_cases e2 : i = a
    · rw [if_pos e2, if_pos e2]
    · rw [if_neg e2, if_neg e2]; exact ha i hi
theorem hi_agree : HI_agree Inv := by
  intro z M p1 p2 p3 inv
  obtain ⟨hc, hd, ht, hw, hk, hy, hl, hf, ha, hr, he⟩ := id inv
  have hz2 := hc.2.2.1
  unfold f_X7_agree f_X8_agree
  rcases e_flyerAt (k := p1) hc.2.2.1 hc.2.2.2.2.2.2.2.2 hc.2.2.2.2.2.2.2.1 with ⟨i, hi, rfl, hx, hm⟩ | ⟨hx, hm⟩
  · have hm1 := Option.some.inj ((e_isFlyer (z := z)).symm.trans (hm z))
    rcases e_flyerAt (k := p2) hc.2.2.1 hc.2.2.2.2.2.2.2.2 hc.2.2.2.2.2.2.2.1 with ⟨j, hj, rfl, hx2, hm2⟩ | ⟨hx2, hm2⟩
    · have hm3 := Option.some.inj ((e_isFlyer (z := z)).symm.trans (hm2 z))
      simp only [hx, hx2, s_bd1, s_mqs, e_within, e_in, e_isFlyer]
      by_cases e : nI i = nI j
      · refine ⟨-1, M, M, by rw [if_pos e], by rw [hm1, b_t, hm3, b_t, if_pos e], inv⟩
      · cases h3 : wi p3 0 1
        · refine ⟨-1, M, M, by rw [if_neg e]; rfl, by rw [hm1, b_t, hm3, b_t, if_neg e]; rfl, inv⟩
        · obtain ⟨v, hv, rfl⟩ := wi_cst (n := 1) (by decide) h3
          have a1 : nI i * 10 + nI j = nI (10 * i + j) := by
            rw [show (10 : Int32) = nI 10 from rfl, pk_mul, nI_add]; congr 1; omega
          have a2 : nI j * 10 + nI i = nI (10 * j + i) := by
            rw [show (10 : Int32) = nI 10 from rfl, pk_mul, nI_add]; congr 1; omega
          have a3 : 10 * nI i + nI j = nI (10 * i + j) := by
            rw [show (10 : Int32) = nI 10 from rfl, pk_mul, nI_add]
          have a4 : 10 * nI j + nI i = nI (10 * j + i) := by
            rw [show (10 : Int32) = nI 10 from rfl, pk_mul, nI_add]
          have i1 := inb_nI (j := 10 * i + j) (n := 100) (by omega) (by decide)
          have i2 := inb_nI (j := 10 * j + i) (n := 100) (by omega) (by decide)
          simp only [e, if_false, a1, a2, a3, a4, i1, i2, s_ck, b_t, if_true, s_lt, nI_clamp (show 10 * i + j < 2 ^ 31 by omega), nI_clamp (show 10 * j + i < 2 ^ 31 by omega), ha (10 * i + j) (by omega)]
          rcases (show v = 0 ∨ v = 1 by omega) with rfl | rfl
          · have n1 : ¬ nI 0 = 1 := by decide
            simp only [n1, if_false]
            by_cases c : M 29 (10 * i + j) = 0
            · refine ⟨0, mu (mu M 60 (10 * i + j) 0) 60 (10 * j + i) 0, mu (mu (mu (mu M 60 (10 * i + j) 0) 60 (10 * j + i) 0) 29 (10 * i + j) 0) 29 (10 * j + i) 0, by rw [if_pos c], ?_, ag_inv inv⟩
              rw [mu2_ne 0 (by decide) (by decide), hm1, hm3, b_t, b_t, mu2_ne 29 (by decide) (by decide), if_pos c]
            · refine ⟨1, mu (mu M 60 (10 * i + j) 0) 60 (10 * j + i) 0, mu (mu (mu (mu M 60 (10 * i + j) 0) 60 (10 * j + i) 0) 29 (10 * i + j) 0) 29 (10 * j + i) 0, by rw [if_neg c], ?_, ag_inv inv⟩
              rw [mu2_ne 0 (by decide) (by decide), hm1, hm3, b_t, b_t, mu2_ne 29 (by decide) (by decide), if_neg c]
          · have n1 : nI 1 = 1 := rfl
            simp only [n1, if_true]
            by_cases c : M 29 (10 * i + j) = 0
            · refine ⟨0, mu (mu M 60 (10 * i + j) 1) 60 (10 * j + i) 1, mu (mu (mu (mu M 60 (10 * i + j) 1) 60 (10 * j + i) 1) 29 (10 * i + j) 1) 29 (10 * j + i) 1, by rw [if_pos c], ?_, ag_inv inv⟩
              rw [mu2_ne 0 (by decide) (by decide), hm1, hm3, b_t, b_t, mu2_ne 29 (by decide) (by decide), if_pos c]
            · refine ⟨1, mu (mu M 60 (10 * i + j) 1) 60 (10 * j + i) 1, mu (mu (mu (mu M 60 (10 * i + j) 1) 60 (10 * j + i) 1) 29 (10 * i + j) 1) 29 (10 * j + i) 1, by rw [if_neg c], ?_, ag_inv inv⟩
              rw [mu2_ne 0 (by decide) (by decide), hm1, hm3, b_t, b_t, mu2_ne 29 (by decide) (by decide), if_neg c]
    · exact ⟨-1, M, M, by rw [hx, s_bd1, s_mqs, hx2]; rfl, by rw [hm z, s_bd1, b_t, hm2 z]; rfl, inv⟩
  · exact ⟨-1, M, M, by rw [hx]; rfl, by rw [hm z]; rfl, inv⟩
