/-! unwind, turn, agree -/
theorem wi_1 {v : Int32} {t : Nat} (ht : t < 2 ^ 30) (h : wi v 1 (nI t) = true) : ∃ n, 1 ≤ n ∧ n ≤ t ∧ v = nI n := by
  obtain ⟨h1, h2⟩ := wi_t.mp h
  rw [nI_toInt (by omega)] at h2
  have e1 : (1 : Int32).toInt = 1 := by decide
  obtain ⟨j, e, ej, -⟩ := nI_ofI (x := v) (by omega)
  exact ⟨j, by omega, by omega, e⟩
theorem Ic.k {z : Nat → Nat} {M M' : Mem} (h : Ic z M) (e1 : M' 0 1 = M 0 1) (e2 : M' 0 12 = M 0 12) (e3 : M' 0 23 = M 0 23) (e4 : M' 50 2 = M 50 2) (e5 : M' 50 5 = M 50 5) (e6 : M' 50 8 = M 50 8) : Ic z M' := by
  unfold Ic at *; rw [e1, e2, e3, e4, e5, e6]; exact h
theorem Id.k {M M' : Mem} (h : Id M) (e1 : M' 0 30 = M 0 30) (e2 : M' 0 31 = M 0 31) (e3 : M' 50 12 = M 50 12) (e4 : M' 50 13 = M 50 13) : Id M' := by
  unfold Id at *; rw [e1, e2, e3, e4]; exact h
theorem hi_unwind : HI_unwind Inv := by
  intro z M p1 inv
  obtain ⟨hc, hd, ht, hw, hk, hy, hl, hf, ha, hr, he⟩ := id inv
  obtain ⟨t, h2, e0, e6, hT⟩ := hr.tn
  unfold f_X7_unwind f_X8_unwind
  simp only [e_within, e_in, s_bd1, e6, e0]
  cases h1 : wi p1 1 (nI t)
  · exact ⟨-1, M, M, rfl, by rw [e0, h1]; rfl, inv⟩
  · obtain ⟨n, n1, n2, rfl⟩ := wi_1 (by omega) h1
    simp only [b_t, pk_sub n2, mu_s]
    have r0 : mu M 67 1 (nI (t - n)) 0 = M 0 := mu_ne 0 (by decide)
    refine ⟨nI (t - n), mu M 67 1 (nI (t - n)), mu (mu M 67 1 (nI (t - n))) 0 34 (nI (t - n)), rfl, by rw [r0, e0, h1, b_t, pk_sub n2], ?_⟩
    have R : ∀ m, m ≠ 67 → m ≠ 0 → mu (mu M 67 1 (nI (t - n))) 0 34 (nI (t - n)) m = M m := fun m h h' => mu2_ne m h h'
    have z0 : ∀ k, k ≠ 34 → mu (mu M 67 1 (nI (t - n))) 0 34 (nI (t - n)) 0 k = M 0 k := fun k h => by rw [mu_k h, r0]
    have z5 := R 50 (by decide) (by decide)
    refine ⟨hc.k (z0 _ (by decide)) (z0 _ (by decide)) (z0 _ (by decide)) (by rw [z5]) (by rw [z5]) (by rw [z5]), hd.k (z0 _ (by decide)) (z0 _ (by decide)) (by rw [z5]) (by rw [z5]), ht.r (R _ (by decide) (by decide)) (R _ (by decide) (by decide)) (R _ (by decide) (by decide)) (R _ (by decide) (by decide)), hw.r (R _ (by decide) (by decide)) (R _ (by decide) (by decide)), hk.r (fun n _ _ => R n (by omega) (by omega)) (fun n _ _ => R n (by omega) (by omega)), hy.r (R _ (by decide) (by decide)) (R _ (by decide) (by decide)) (R _ (by decide) (by decide)) (fun i _ => by rw [R _ (by omega) (by omega)]), hl.r (fun n _ _ => R n (by omega) (by omega)) (fun n _ _ => R n (by omega) (by omega)), hf.r (fun n _ _ => R n (by omega) (by omega)) (fun n _ _ => R n (by omega) (by omega)), ha.r (R _ (by decide) (by decide)) (R _ (by decide) (by decide)), ⟨t - n, by omega, by rw [mu_s], by rw [mu_ne 67 (by decide), mu_s], fun k hk => ?_⟩, he.r (z0 _ (by decide)) (by rw [z5]) (R _ (by decide) (by decide)) (R _ (by decide) (by decide))⟩
    rw [R 35 (by decide) (by decide), R 36 (by decide) (by decide), R 37 (by decide) (by decide), R 74 (by decide) (by decide)]
    exact hT k (by omega)
