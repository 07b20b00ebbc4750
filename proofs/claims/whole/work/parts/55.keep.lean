/-! what keeps the invariant's parts -/
theorem Ic.r {z : Nat → Nat} {M M' : Mem} (h : Ic z M) (h0 : M' 0 = M 0) (h5 : M' 50 = M 50) : Ic z M' := by
  unfold Ic at *; rw [h0, h5]; exact h
theorem Id.r {M M' : Mem} (h : Id M) (h0 : M' 0 = M 0) (h5 : M' 50 = M 50) : Id M' := by
  unfold Id at *; rw [h0, h5]; exact h
theorem It.r {M M' : Mem} (h : It M) (h1 : M' 9 = M 9) (h2 : M' 10 = M 10) (h3 : M' 70 = M 70) (h4 : M' 71 = M 71) : It M' := by
  unfold It at *; rw [h1, h2, h3, h4]; exact h
theorem Iw.r {M M' : Mem} (h : Iw M) (h1 : M' 11 = M 11) (h2 : M' 54 = M 54) : Iw M' := by
  unfold Iw at *; rw [h1, h2]; exact h
theorem KV.r {M M' : Mem} {i p : Nat} (h : KV M i p) (h1 : ∀ n, 2 ≤ n → n ≤ 5 → M' n = M n) (h2 : ∀ n, 100 + 4 * i ≤ n → n < 100 + 4 * i + 4 → M' n = M n) : KV M' i p := by
  unfold KV at *
  rw [h1 2 (by omega) (by omega), h1 3 (by omega) (by omega), h1 4 (by omega) (by omega), h1 5 (by omega) (by omega), h2 (100 + 4 * i) (by omega) (by omega), h2 (100 + 4 * i + 1) (by omega) (by omega), h2 (100 + 4 * i + 2) (by omega) (by omega), h2 (100 + 4 * i + 3) (by omega) (by omega)]
  exact h
theorem Ik.r {z : Nat → Nat} {M M' : Mem} (h : Ik z M) (h1 : ∀ n, 2 ≤ n → n ≤ 7 → M' n = M n) (h2 : ∀ n, 100 ≤ n → n < 100 + 4 * z 0 → M' n = M n) : Ik z M' := by
  obtain ⟨a, b⟩ := h
  refine ⟨fun i hi => ?_, ?_⟩
  · obtain ⟨p, hV, hb, e1, e2⟩ := a i hi
    refine ⟨p, hV.r (fun n q1 q2 => h1 n q1 (by omega)) (fun n q1 q2 => h2 n (by omega) (by omega)), ?_, ?_, ?_⟩
    · rw [h1 3 (by omega) (by omega), h1 5 (by omega) (by omega)]; exact hb
    · rw [h2 (100 + 4 * i) (by omega) (by omega), h1 6 (by omega) (by omega)]; exact e1
    · rw [h2 (100 + 4 * i) (by omega) (by omega), h1 7 (by omega) (by omega)]; exact e2
  · rw [h1 2 (by omega) (by omega), h1 6 (by omega) (by omega)]; exact b
theorem Iy.r {z : Nat → Nat} {M M' : Mem} (h : Iy z M) (h7 : M' 7 = M 7) (h8 : M' 8 = M 8) (h13 : M' 13 = M 13) (h2 : ∀ i, i < z 0 → M' (100 + 4 * i) 6 = M (100 + 4 * i) 6) : Iy z M' := by
  intro i hi
  rw [h7, h8, h13, h2 i hi]
  exact h i hi
theorem Il.r {z : Nat → Nat} {M M' : Mem} (h : Il z M) (h1 : ∀ n, 13 ≤ n → n ≤ 17 → M' n = M n) (h2 : ∀ n, 200 ≤ n → n < 200 + 2 * z 1 → M' n = M n) : Il z M' := by
  obtain ⟨a, b⟩ := h
  refine ⟨fun l hl => ?_, ?_⟩
  · rw [h1 13 (by omega) (by omega), h1 14 (by omega) (by omega), h1 15 (by omega) (by omega), h1 16 (by omega) (by omega), h1 17 (by omega) (by omega), h2 (200 + 2 * l) (by omega) (by omega), h2 (200 + 2 * l + 1) (by omega) (by omega)]
    exact a l hl
  · rw [h1 16 (by omega) (by omega)]; exact b
theorem If.r {z : Nat → Nat} {M M' : Mem} (h : If z M) (h1 : ∀ n, 24 ≤ n → n ≤ 28 → M' n = M n) (h2 : ∀ n, 300 ≤ n → n < 300 + z 2 → M' n = M n) : If z M' := by
  obtain ⟨a, b, c⟩ := h
  refine ⟨fun f hf => ?_, ?_, ?_⟩
  · rw [h1 24 (by omega) (by omega), h1 25 (by omega) (by omega), h1 26 (by omega) (by omega), h1 27 (by omega) (by omega), h2 (300 + f) (by omega) (by omega)]
    exact a f hf
  · rw [h1 27 (by omega) (by omega)]; exact b
  · rw [h1 28 (by omega) (by omega), h1 26 (by omega) (by omega)]; exact c
theorem Ia.r {M M' : Mem} (h : Ia M) (h1 : M' 29 = M 29) (h2 : M' 60 = M 60) : Ia M' := by
  unfold Ia at *; rw [h1, h2]; exact h
theorem Ir.r {z : Nat → Nat} {M M' : Mem} (h : Ir z M) (h0 : M' 0 34 = M 0 34) (h1 : M' 67 = M 67) (h2 : M' 35 = M 35) (h3 : M' 36 = M 36) (h4 : M' 37 = M 37) (h5 : M' 74 = M 74) : Ir z M' := by
  unfold Ir at *; rw [h0, h1, h2, h3, h4, h5]; exact h
theorem Ie.r {M M' : Mem} (h : Ie M) (h0 : M' 0 32 = M 0 32) (h1 : M' 50 11 = M 50 11) (h2 : M' 33 = M 33) (h3 : M' 61 = M 61) : Ie M' := by
  unfold Ie at *; rw [h0, h1, h2, h3]; exact h
theorem mu2_ne {M : Mem} {n k n' k' : Nat} {v v' : Int32} (m : Nat) (h : m ≠ n) (h' : m ≠ n') : mu (mu M n k v) n' k' v' m = M m := by rw [mu_ne m h', mu_ne m h]
theorem wi_cst {v hi : Int32} {n : Nat} (hn : hi.toInt = n) (h : wi v 0 hi = true) : ∃ q, q ≤ n ∧ v = nI q := by
  obtain ⟨h1, h2⟩ := wi_t.mp h
  obtain ⟨j, e, ej, -⟩ := nI_ofI (x := v) h1
  exact ⟨j, by omega, e⟩
theorem hi_wind : HI_wind Inv := by
  intro z M p1 p2 inv
  obtain ⟨hc, hd, ht, hw, hk, hy, hl, hf, ha, hr, he⟩ := id inv
  unfold f_X7_wind f_X8_wind
  simp only [e_within, e_in, e_isWind, e_isWindM, s_bd1]
  cases h1 : wi p1 0 19
  · exact ⟨_, M, M, rfl, rfl, inv⟩
  · cases h2 : wi p2 0 99
    · exact ⟨_, M, M, rfl, rfl, inv⟩
    · obtain ⟨b, hb, rfl⟩ := wi_cst (n := 19) (by decide) h1
      obtain ⟨w, hw9, rfl⟩ := wi_cst (n := 99) (by decide) h2
      have hin := inb_nI (j := b) (n := 20) (by omega) (by decide)
      simp only [hin, s_ck, b_t, nI_clamp (show b < 2 ^ 31 by omega)]
      refine ⟨M 11 b, mu M 54 b (nI w), mu (mu M 54 b (nI w)) 11 b (nI w), by rw [(hw b (by omega)).1]; rfl, by rw [mu_ne 11 (by decide)]; rfl, ?_⟩
      have R : ∀ m, m ≠ 54 → m ≠ 11 → mu (mu M 54 b (nI w)) 11 b (nI w) m = M m := fun m h h' => mu2_ne m h h'
      refine ⟨hc.r (R 0 (by decide) (by decide)) (R 50 (by decide) (by decide)), hd.r (R 0 (by decide) (by decide)) (R 50 (by decide) (by decide)), ht.r (R _ (by decide) (by decide)) (R _ (by decide) (by decide)) (R _ (by decide) (by decide)) (R _ (by decide) (by decide)), ?_, hk.r (fun n _ _ => R n (by omega) (by omega)) (fun n _ _ => R n (by omega) (by omega)), hy.r (R _ (by decide) (by decide)) (R _ (by decide) (by decide)) (R _ (by decide) (by decide)) (fun i _ => by rw [R _ (by omega) (by omega)]), hl.r (fun n _ _ => R n (by omega) (by omega)) (fun n _ _ => R n (by omega) (by omega)), hf.r (fun n _ _ => R n (by omega) (by omega)) (fun n _ _ => R n (by omega) (by omega)), ha.r (R _ (by decide) (by decide)) (R _ (by decide) (by decide)), hr.r (by rw [R 0 (by decide) (by decide)]) (R _ (by decide) (by decide)) (R _ (by decide) (by decide)) (R _ (by decide) (by decide)) (R _ (by decide) (by decide)) (R _ (by decide) (by decide)), he.r (by rw [R 0 (by decide) (by decide)]) (by rw [R 50 (by decide) (by decide)]) (R _ (by decide) (by decide)) (R _ (by decide) (by decide))⟩
      intro c hcc
      rw [mu_ne 54 (by decide), mu_eq, mu_eq, mu_ne 11 (by decide)]
      unfold va_up
      by_cases e : c = b
      · rw [if_pos e, if_pos e]; exact ⟨rfl, w, hw9, rfl⟩
      · rw [if_neg e, if_neg e]; exact hw c hcc
