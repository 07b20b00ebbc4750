/-! a line that ends: sever and end -/
theorem l_sx {z : Nat → Nat} {u l s : Nat} (hz : z 0 ≤ 20) : ∀ (m k fu : Nat) (Mx : Mem), Mx 50 2 = nI (z 0) → k + m = z 0 → m < fu → ∃ Mx', f_X7_sever_3 z u fu Mx (nI l) (nI s) (nI k) = bd1 (f_X3_shortenTo z u Mx' (nI s - 1)) (fun M1 => some M1) ∧ (∀ m, ¬ (100 ≤ m ∧ m < 100 + 4 * z 0) → Mx' m = Mx m) ∧ (∀ i, i < z 0 → ∀ n, 100 + 4 * i < n → n < 100 + 4 * i + 4 → Mx' n = Mx n) ∧ (∀ i, i < z 0 → ∀ q, q ≠ 5 → Mx' (100 + 4 * i) q = Mx (100 + 4 * i) q) ∧ ∀ i, i < z 0 → Mx' (100 + 4 * i) 5 = if k ≤ i ∧ Mx (100 + 4 * i) 5 = nI l ∧ ¬ Mx (100 + 4 * i) 6 < nI s then -1 else Mx (100 + 4 * i) 5 := by
  intro m
  induction m with
  | zero =>
    intro k fu Mx hc h1 h2
    obtain ⟨fu, rfl⟩ : ∃ r, fu = r + 1 := ⟨fu - 1, by omega⟩
    refine ⟨Mx, ?_, fun _ _ => rfl, fun _ _ _ _ _ => rfl, fun _ _ _ _ => rfl, fun i hi => by rw [if_neg (fun q => absurd q.1 (by omega))]⟩
    rw [f_X7_sever_3, hc, if_pos (nI_le (by omega) (by omega))]
  | succ m ih =>
    intro k fu Mx hc h1 h2
    obtain ⟨fu, rfl⟩ : ∃ r, fu = r + 1 := ⟨fu - 1, by omega⟩
    rw [f_X7_sever_3, hc, if_neg (nI_ge (by omega) (by omega)), e_kiA hz hc (by omega), s_bd1, s_mqs, nI_1]
    by_cases c : Mx (100 + 4 * k) 5 = nI l ∧ ¬ Mx (100 + 4 * k) 6 < nI s
    · rw [if_pos c.1, if_neg c.2]
      have R : ∀ m, m ≠ 100 + 4 * k → mu Mx (100 + 4 * k) 5 (-1) m = Mx m := fun m g => mu_ne m g
      obtain ⟨Mx', g1, g2, g3, g4, g5⟩ := ih (k + 1) fu (mu Mx (100 + 4 * k) 5 (-1)) (by rw [R 50 (by omega)]; exact hc) (by omega) (by omega)
      refine ⟨Mx', g1, fun m h => by rw [g2 m h, R m (by omega)], fun i hi n n1 n2 => by rw [g3 i hi n n1 n2, R n (by omega)], fun i hi q hq => ?_, fun i hi => ?_⟩
      · rw [g4 i hi q hq]
        by_cases e : i = k
        · subst e; rw [mu_k hq]
        · rw [R _ (by omega)]
      · rw [g5 i hi]
        by_cases e : i = k
        · subst e
          rw [if_neg (fun q => absurd q.1 (by omega)), mu_s, if_pos ⟨by omega, c⟩]
        · rw [R _ (by omega)]
          by_cases q : k + 1 ≤ i ∧ Mx (100 + 4 * i) 5 = nI l ∧ ¬ Mx (100 + 4 * i) 6 < nI s
          · rw [if_pos q, if_pos ⟨by omega, q.2⟩]
          · rw [if_neg q, if_neg (fun w => q ⟨by omega, w.2⟩)]
    · have e : (if Mx (100 + 4 * k) 5 = nI l then if Mx (100 + 4 * k) 6 < nI s then f_X7_sever_3 z u fu Mx (nI l) (nI s) (nI (k + 1)) else f_X7_sever_3 z u fu (mu Mx (100 + 4 * k) 5 (-1)) (nI l) (nI s) (nI (k + 1)) else f_X7_sever_3 z u fu Mx (nI l) (nI s) (nI (k + 1))) = f_X7_sever_3 z u fu Mx (nI l) (nI s) (nI (k + 1)) := by
        by_cases c1 : Mx (100 + 4 * k) 5 = nI l
        · rw [if_pos c1, if_pos (Decidable.not_not.mp fun q => c ⟨c1, q⟩)]
        · rw [if_neg c1]
      rw [e]
      obtain ⟨Mx', g1, g2, g3, g4, g5⟩ := ih (k + 1) fu Mx hc (by omega) (by omega)
      refine ⟨Mx', g1, g2, g3, g4, fun i hi => ?_⟩
      rw [g5 i hi]
      by_cases e : i = k
      · subst e
        rw [if_neg (fun q => absurd q.1 (by omega)), if_neg (fun w => c w.2)]
      · by_cases q : k + 1 ≤ i ∧ Mx (100 + 4 * i) 5 = nI l ∧ ¬ Mx (100 + 4 * i) 6 < nI s
        · rw [if_pos q, if_pos ⟨by omega, q.2⟩]
        · rw [if_neg q, if_neg (fun w => q ⟨by omega, w.2⟩)]
theorem l_sy {z : Nat → Nat} {l s n : Nat} (hn : n ≤ 20) : ∀ (m k fu : Nat) (My : Mem), My 0 1 = nI n → k + m = n → m < fu → ∃ My', f_X8_end_11 z fu My (nI l) (nI s) (nI k) = f_X8_end_57 z 1000 My' (nI l) (nI s) 0 0 ∧ (∀ m, m ≠ 7 → My' m = My m) ∧ ∀ i, My' 7 i = if k ≤ i ∧ i < n ∧ My 7 i = nI l ∧ ¬ My 8 i < nI s then -1 else My 7 i := by
  intro m
  induction m with
  | zero =>
    intro k fu My hc h1 h2
    obtain ⟨fu, rfl⟩ : ∃ r, fu = r + 1 := ⟨fu - 1, by omega⟩
    refine ⟨My, ?_, fun _ _ => rfl, fun i => by rw [if_neg (fun q => absurd q.2.1 (by omega))]⟩
    rw [f_X8_end_11, hc, if_pos (nI_le (by omega) (by omega))]
  | succ m ih =>
    intro k fu My hc h1 h2
    obtain ⟨fu, rfl⟩ : ∃ r, fu = r + 1 := ⟨fu - 1, by omega⟩
    rw [f_X8_end_11, hc, if_neg (nI_ge (by omega) (by omega)), inb_nI (show k < 20 by omega) (by decide), s_ck, s_ck, s_ck, nI_clamp (by omega), nI_1]
    by_cases c : My 7 k = nI l ∧ ¬ My 8 k < nI s
    · rw [if_pos c.1, if_neg c.2]
      have R : ∀ m, m ≠ 7 → mu My 7 k (-1) m = My m := fun m g => mu_ne m g
      obtain ⟨My', g1, g2, g5⟩ := ih (k + 1) fu (mu My 7 k (-1)) (by rw [R 0 (by omega)]; exact hc) (by omega) (by omega)
      refine ⟨My', g1, fun m h => by rw [g2 m h, R m h], fun i => ?_⟩
      rw [g5 i, R 8 (by omega)]
      by_cases e : i = k
      · subst e
        rw [if_neg (fun q => absurd q.1 (by omega)), mu_s, if_pos ⟨by omega, by omega, c⟩]
      · rw [mu_k e]
        by_cases q : k + 1 ≤ i ∧ i < n ∧ My 7 i = nI l ∧ ¬ My 8 i < nI s
        · rw [if_pos q, if_pos ⟨by omega, q.2⟩]
        · rw [if_neg q, if_neg (fun w => q ⟨by omega, w.2⟩)]
    · have e : (if My 7 k = nI l then if My 8 k < nI s then f_X8_end_11 z fu My (nI l) (nI s) (nI (k + 1)) else f_X8_end_11 z fu (mu My 7 k (-1)) (nI l) (nI s) (nI (k + 1)) else f_X8_end_11 z fu My (nI l) (nI s) (nI (k + 1))) = f_X8_end_11 z fu My (nI l) (nI s) (nI (k + 1)) := by
        by_cases c1 : My 7 k = nI l
        · rw [if_pos c1, if_pos (Decidable.not_not.mp fun q => c ⟨c1, q⟩)]
        · rw [if_neg c1]
      rw [e]
      obtain ⟨My', g1, g2, g5⟩ := ih (k + 1) fu My hc (by omega) (by omega)
      refine ⟨My', g1, g2, fun i => ?_⟩
      rw [g5 i]
      by_cases e : i = k
      · subst e
        rw [if_neg (fun q => absurd q.1 (by omega)), if_neg (fun w => c w.2.2)]
      · by_cases q : k + 1 ≤ i ∧ i < n ∧ My 7 i = nI l ∧ ¬ My 8 i < nI s
        · rw [if_pos q, if_pos ⟨by omega, q.2⟩]
        · rw [if_neg q, if_neg (fun w => q ⟨by omega, w.2⟩)]
theorem lt_sv {v : Int32} {s : Nat} (h1 : 1 ≤ s) (h2 : s ≤ 200) : nI (s - 1) < v ↔ ¬ v < nI s := by
  rw [Int32.lt_iff_toInt_lt, Int32.lt_iff_toInt_lt, nI_toInt (by omega), nI_toInt (by omega)]; omega
theorem l_sh {z : Nat → Nat} {l s kn : Nat} (hl : l < 10) (hk : kn ≤ 10) (s1 : 1 ≤ s) (s2 : s ≤ 200) : ∀ (m k w fu : Nat) (Mx My : Mem), k + m = kn → w ≤ k → m < fu → Mx (200 + 2 * l) 4 = nI kn → My 16 l = nI kn → (∀ j, j < w → Mx (200 + 2 * l + 1) j = My 17 (10 * l + j)) → (∀ j, k ≤ j → j < kn → Mx (200 + 2 * l + 1) j = My 17 (10 * l + j)) → ∃ w' Mx' My', w' ≤ 10 ∧ f_X3_shortenTo_9 z (200 + 2 * l) fu Mx (nI (s - 1)) (nI w) (nI k) = some Mx' ∧ f_X8_end_57 z fu My (nI l) (nI s) (nI w) (nI k) = some My' ∧ (∀ m, ¬ (m = 200 + 2 * l ∨ m = 200 + 2 * l + 1) → Mx' m = Mx m) ∧ (∀ q, q ≠ 4 → Mx' (200 + 2 * l) q = Mx (200 + 2 * l) q) ∧ Mx' (200 + 2 * l) 4 = nI w' ∧ (∀ m, ¬ (m = 16 ∨ m = 17) → My' m = My m) ∧ (∀ i, My' 16 i = if i = l then nI w' else My 16 i) ∧ (∀ q, ¬ (10 * l ≤ q ∧ q < 10 * l + 10) → My' 17 q = My 17 q) ∧ ∀ j, j < w' → Mx' (200 + 2 * l + 1) j = My' 17 (10 * l + j) := by
  intro m
  induction m with
  | zero =>
    intro k w fu Mx My h1 hw h2 hx hy r1 r2
    obtain ⟨fu, rfl⟩ : ∃ r, fu = r + 1 := ⟨fu - 1, by omega⟩
    refine ⟨w, mu Mx (200 + 2 * l) 4 (nI w), mu My 16 l (nI w), by omega, ?_, ?_, fun m g => mu_ne m (by omega), fun q g => mu_k g, mu_s, fun m g => mu_ne m (by omega), fun i => by rw [mu_eq]; rfl, fun q _ => by rw [mu_ne 17 (by decide)], fun j hj => ?_⟩
    · rw [f_X3_shortenTo_9, hx, if_pos (nI_le (by omega) (by omega))]
    · rw [f_X8_end_57, inb_nI hl (by decide), s_ck, s_ck, nI_clamp (by omega), hy, if_pos (nI_le (by omega) (by omega))]
    · rw [mu_ne _ (by omega), mu_ne 17 (by decide)]; exact r1 j hj
  | succ m ih =>
    intro k w fu Mx My h1 hw h2 hx hy r1 r2
    obtain ⟨fu, rfl⟩ : ∃ r, fu = r + 1 := ⟨fu - 1, by omega⟩
    have x1 : ∀ a, 10 * nI l + nI a = nI (10 * l + a) := fun a => by rw [show (10 : Int32) = nI 10 from rfl, pk_mul, nI_add]
    rw [f_X3_shortenTo_9, f_X8_end_57, inb_nI hl (by decide), s_ck, s_ck, nI_clamp (show l < 2 ^ 31 by omega), hx, hy, if_neg (nI_ge (by omega) (by omega)), if_neg (nI_ge (by omega) (by omega)), x1, x1, inb_nI (show k < 10 by omega) (by decide), s_ck, s_ck, inb_nI (show 10 * l + k < 100 by omega) (by decide), s_ck, s_ck, inb_nI (show w < 10 by omega) (by decide), inb_nI (show 10 * l + w < 100 by omega) (by decide), s_ck, s_ck, nI_clamp (show k < 2 ^ 31 by omega), nI_clamp (show w < 2 ^ 31 by omega), nI_clamp (show 10 * l + k < 2 ^ 31 by omega), nI_clamp (show 10 * l + w < 2 ^ 31 by omega), s_lt, s_lt, nI_1, nI_1, r2 k (by omega) (by omega)]
    by_cases c : My 17 (10 * l + k) < nI s
    · rw [if_pos c, if_neg (fun q => (lt_sv s1 s2).mp q c)]
      have P1 : ∀ j, j < w + 1 → mu Mx (200 + 2 * l + 1) w (My 17 (10 * l + k)) (200 + 2 * l + 1) j = mu My 17 (10 * l + w) (My 17 (10 * l + k)) 17 (10 * l + j) := fun j hj => by
        by_cases e : j = w
        · subst e; rw [mu_s, mu_s]
        · rw [mu_k e, mu_k (show 10 * l + j ≠ 10 * l + w by omega)]; exact r1 j (by omega)
      have P2 : ∀ j, k + 1 ≤ j → j < kn → mu Mx (200 + 2 * l + 1) w (My 17 (10 * l + k)) (200 + 2 * l + 1) j = mu My 17 (10 * l + w) (My 17 (10 * l + k)) 17 (10 * l + j) := fun j j1 j2 => by
        rw [mu_k (show j ≠ w by omega), mu_k (show 10 * l + j ≠ 10 * l + w by omega)]; exact r2 j (by omega) j2
      obtain ⟨w', Mx', My', g1, g2, g3, g4, g5, g6, g7, g8, g9, g10⟩ := ih (k + 1) (w + 1) fu (mu Mx (200 + 2 * l + 1) w (My 17 (10 * l + k))) (mu My 17 (10 * l + w) (My 17 (10 * l + k))) (by omega) (by omega) (by omega) (by rw [mu_ne _ (by omega)]; exact hx) (by rw [mu_ne 16 (by decide)]; exact hy) P1 P2
      exact ⟨w', Mx', My', g1, g2, g3, fun m h => by rw [g4 m h, mu_ne m (by omega)], fun q h => by rw [g5 q h, mu_ne _ (by omega)], g6, fun m h => by rw [g7 m h, mu_ne m (by omega)], fun i => by rw [g8 i, mu_ne 16 (by decide)], fun q h => by rw [g9 q h, mu_k (by omega)], g10⟩
    · rw [if_neg c, if_pos ((lt_sv s1 s2).mpr c)]
      exact ih (k + 1) w fu Mx My (by omega) (by omega) (by omega) hx hy r1 (fun j j1 j2 => r2 j (by omega) j2)
/-- what sever leaves in the book -/
def VX (z : Nat → Nat) (Mx Mx' : Mem) (l s w : Nat) : Prop := (∀ m, ¬ ((100 ≤ m ∧ m < 100 + 4 * z 0) ∨ m = 200 + 2 * l ∨ m = 200 + 2 * l + 1) → Mx' m = Mx m) ∧ (∀ i, i < z 0 → ∀ n, 100 + 4 * i < n → n < 100 + 4 * i + 4 → Mx' n = Mx n) ∧ (∀ i, i < z 0 → ∀ q, q ≠ 5 → Mx' (100 + 4 * i) q = Mx (100 + 4 * i) q) ∧ (∀ i, i < z 0 → Mx' (100 + 4 * i) 5 = if Mx (100 + 4 * i) 5 = nI l ∧ ¬ Mx (100 + 4 * i) 6 < nI s then -1 else Mx (100 + 4 * i) 5) ∧ ∀ q, Mx' (200 + 2 * l) q = if q = 0 then nI (s - 1) else if q = 4 then nI w else Mx (200 + 2 * l) q
/-- what end leaves in the model -/
def VY (n : Nat) (My My' : Mem) (l s w : Nat) : Prop := (∀ m, ¬ (m = 7 ∨ m = 13 ∨ m = 16 ∨ m = 17) → My' m = My m) ∧ (∀ i, My' 7 i = if i < n ∧ My 7 i = nI l ∧ ¬ My 8 i < nI s then -1 else My 7 i) ∧ (∀ i, My' 13 i = if i = l then nI (s - 1) else My 13 i) ∧ (∀ i, My' 16 i = if i = l then nI w else My 16 i) ∧ ∀ q, ¬ (10 * l ≤ q ∧ q < 10 * l + 10) → My' 17 q = My 17 q
theorem e_sev {z : Nat → Nat} {Mx My : Mem} {l s kn : Nat} (hz : z 0 ≤ 20) (hl : l < 10) (hk : kn ≤ 10) (s1 : 1 ≤ s) (s2 : s ≤ 200) (c1 : Mx 50 2 = nI (z 0)) (c2 : My 0 1 = nI (z 0)) (hx : Mx (200 + 2 * l) 4 = nI kn) (hy : My 16 l = nI kn) (hr : ∀ j, j < kn → Mx (200 + 2 * l + 1) j = My 17 (10 * l + j)) (hlz : 100 + 4 * z 0 ≤ 200 + 2 * l) : ∃ w Mx' My', w ≤ 10 ∧ f_X7_sever z (200 + 2 * l) Mx (nI l) (nI s) = some Mx' ∧ f_X8_end z My (nI l) (nI s) = some My' ∧ VX z Mx Mx' l s w ∧ VY (z 0) My My' l s w ∧ ∀ j, j < w → Mx' (200 + 2 * l + 1) j = My' 17 (10 * l + j) := by
  have es : nI s - 1 = nI (s - 1) := pk_sub s1
  obtain ⟨Mx1, a1, a2, a3, a4, a5⟩ := l_sx (z := z) (u := 200 + 2 * l) (l := l) (s := s) hz (z 0) 0 1000 Mx c1 (by omega) (by omega)
  obtain ⟨My1, b1, b2, b5⟩ := l_sy (z := z) (l := l) (s := s) hz (z 0) 0 1000 (mu My 13 l (nI (s - 1))) (by rw [mu_ne 0 (by decide)]; exact c2) (by omega) (by omega)
  have RX : ∀ m, m ≠ 200 + 2 * l → mu Mx1 (200 + 2 * l) 0 (nI (s - 1)) m = Mx1 m := fun m g => mu_ne m g
  obtain ⟨w, Mx', My', g1, g2, g3, g4, g5, g6, g7, g8, g9, g10⟩ := l_sh (z := z) hl hk s1 s2 kn 0 0 1000 (mu Mx1 (200 + 2 * l) 0 (nI (s - 1))) My1 (by omega) (by omega) (by omega) (by rw [mu_k (by decide), a2 _ (by omega)]; exact hx) (by rw [b2 16 (by decide), mu_ne 16 (by decide)]; exact hy) (fun j hj => absurd hj (by omega)) (fun j _ hj => by rw [RX _ (by omega), a2 _ (by omega), b2 17 (by decide), mu_ne 17 (by decide)]; exact hr j hj)
  refine ⟨w, Mx', My', g1, ?_, ?_, ⟨fun m h => ?_, fun i hi n n1 n2 => ?_, fun i hi q hq => ?_, fun i hi => ?_, fun q => ?_⟩, ⟨fun m h => ?_, fun i => ?_, fun i => ?_, fun i => ?_, fun q h => ?_⟩, g10⟩
  · unfold f_X7_sever
    rw [show (0 : Int32) = nI 0 from rfl, a1, es]
    unfold f_X3_shortenTo
    rw [show (0 : Int32) = nI 0 from rfl, g2]
    rfl
  · unfold f_X8_end
    rw [inb_nI hl (by decide), s_ck, nI_clamp (by omega), es]
    exact b1.trans g3
  · rw [g4 m (by omega), RX m (by omega), a2 m (by omega)]
  · rw [g4 n (by omega), RX n (by omega), a3 i hi n n1 n2]
  · rw [g4 _ (by omega), RX _ (by omega), a4 i hi q hq]
  · rw [g4 _ (by omega), RX _ (by omega), a5 i hi]
    by_cases q : Mx (100 + 4 * i) 5 = nI l ∧ ¬ Mx (100 + 4 * i) 6 < nI s
    · rw [if_pos q, if_pos ⟨by omega, q⟩]
    · rw [if_neg q, if_neg (fun w => q w.2)]
  · by_cases e4 : q = 4
    · subst e4; rw [g6, if_neg (by decide), if_pos rfl]
    · rw [g5 q e4, if_neg e4]
      by_cases e0 : q = 0
      · subst e0; rw [mu_s, if_pos rfl]
      · rw [mu_k e0, if_neg e0, a2 _ (by omega)]
  · rw [g7 m (by omega), b2 m (by omega), mu_ne m (by omega)]
  · rw [g7 7 (by omega), b5 i, mu_ne 7 (by decide), mu_ne 8 (by decide)]
    by_cases q : i < z 0 ∧ My 7 i = nI l ∧ ¬ My 8 i < nI s
    · rw [if_pos q, if_pos ⟨by omega, q⟩]
    · rw [if_neg q, if_neg (fun w => q w.2)]
  · rw [g7 13 (by omega), b2 13 (by omega), mu_eq]; rfl
  · rw [g8 i, b2 16 (by omega), mu_ne 16 (by decide)]
  · rw [g9 q h, b2 17 (by omega), mu_ne 17 (by decide)]
theorem Inv.sev {z : Nat → Nat} {M M2 : Mem} {l s S w : Nat} (inv : Inv z M) (hl : l < z 1) (s1 : 1 ≤ s) (hS : M 13 l = nI S) (s2 : s ≤ S) (S2 : S ≤ 200) (hw : w ≤ 10) (E0 : ∀ k, k ≠ 34 → M2 0 k = M 0 k) (RS : ∀ m, ¬ (m = 0 ∨ m = 7 ∨ m = 13 ∨ m = 16 ∨ (17 ≤ m ∧ m ≤ 22) ∨ (35 ≤ m ∧ m ≤ 37) ∨ (65 ≤ m ∧ m ≤ 67) ∨ (72 ≤ m ∧ m ≤ 74) ∨ (100 ≤ m ∧ m < 100 + 4 * z 0) ∨ m = 200 + 2 * l ∨ m = 200 + 2 * l + 1) → M2 m = M m) (K1 : ∀ i, i < z 0 → ∀ n, 100 + 4 * i < n → n < 100 + 4 * i + 4 → M2 n = M n) (K2 : ∀ i, i < z 0 → ∀ q, q ≠ 5 → M2 (100 + 4 * i) q = M (100 + 4 * i) q) (K3 : ∀ i, i < z 0 → M2 (100 + 4 * i) 5 = if M (100 + 4 * i) 5 = nI l ∧ ¬ M (100 + 4 * i) 6 < nI s then -1 else M (100 + 4 * i) 5) (Y7 : ∀ i, M2 7 i = if i < z 0 ∧ M 7 i = nI l ∧ ¬ M 8 i < nI s then -1 else M 7 i) (Y13 : ∀ i, M2 13 i = if i = l then nI (s - 1) else M 13 i) (Y16 : ∀ i, M2 16 i = if i = l then nI w else M 16 i) (Y17 : ∀ q, ¬ (10 * l ≤ q ∧ q < 10 * l + 10) → M2 17 q = M 17 q) (L : ∀ q, M2 (200 + 2 * l) q = if q = 0 then nI (s - 1) else if q = 4 then nI w else M (200 + 2 * l) q) (LK : ∀ j, j < w → M2 (200 + 2 * l + 1) j = M2 17 (10 * l + j)) (hr2 : Ir z M2) : Inv z M2 := by
  obtain ⟨hc, hd, ht, hw1, hk, hy, hl1, hf, ha, hr, he⟩ := id inv
  obtain ⟨hz0, hz1, hz2, -⟩ := id hc
  have z5 := RS 50 (by omega)
  have T : ∀ i, i < z 0 → (M (100 + 4 * i) 5 = nI l ∧ ¬ M (100 + 4 * i) 6 < nI s ↔ i < z 0 ∧ M 7 i = nI l ∧ ¬ M 8 i < nI s) := by
    intro i hi
    obtain ⟨p, -, -, -, e5⟩ := hk.1 i hi
    rw [e5]
    rcases hy i hi with e7 | ⟨l', s', q1, q2, q3, q4, -⟩
    · rw [e7]
      exact ⟨fun w => absurd w.1.symm (nI_m1ne (by omega)), fun w => absurd w.2.1.symm (nI_m1ne (by omega))⟩
    · rw [q3, q4]
      exact ⟨fun w => ⟨hi, w⟩, fun w => w.2⟩
  refine ⟨hc.k (E0 _ (by decide)) (E0 _ (by decide)) (E0 _ (by decide)) (by rw [z5]) (by rw [z5]) (by rw [z5]), hd.k (E0 _ (by decide)) (E0 _ (by decide)) (by rw [z5]) (by rw [z5]), ht.r (RS _ (by omega)) (RS _ (by omega)) (RS _ (by omega)) (RS _ (by omega)), hw1.r (RS _ (by omega)) (RS _ (by omega)), ⟨fun i hi => ?_, fun i g1 g2 => ?_⟩, fun i hi => ?_, ⟨fun l' hl' => ?_, fun l' g1 g2 => ?_⟩, hf.r (fun n _ _ => RS n (by omega)) (fun n _ _ => RS n (by omega)), ha.r (RS _ (by omega)) (RS _ (by omega)), hr2, he.r (E0 _ (by decide)) (by rw [z5]) (RS _ (by omega)) (RS _ (by omega))⟩
  · refine KB.e (hk.1 i hi) (by rw [RS 2 (by omega)]) (fun _ _ => by rw [RS 3 (by omega)]) (fun _ _ => by rw [RS 4 (by omega)]) (fun _ _ => by rw [RS 5 (by omega)]) (by rw [RS 6 (by omega)]) (fun q => ?_) (K2 i hi 3 (by decide)) (K2 i hi 4 (by decide)) (K1 i hi)
    rw [K3 i hi, Y7 i]
    by_cases c : M (100 + 4 * i) 5 = nI l ∧ ¬ M (100 + 4 * i) 6 < nI s
    · rw [if_pos c, if_pos ((T i hi).mp c)]
    · rw [if_neg c, if_neg (fun w => c ((T i hi).mpr w)), q]
  · rw [RS 2 (by omega), RS 6 (by omega)]; exact hk.2 i g1 g2
  · rw [Y7 i]
    by_cases c : i < z 0 ∧ M 7 i = nI l ∧ ¬ M 8 i < nI s
    · rw [if_pos c]; exact Or.inl rfl
    · rw [if_neg c]
      rcases hy i hi with e7 | ⟨l', s', q1, q2, q3, q4, q5, q6⟩
      · exact Or.inl e7
      · refine Or.inr ⟨l', s', q1, q2, by rw [RS 8 (by omega)]; exact q3, by rw [K2 i hi 6 (by decide)]; exact q4, q5, ?_⟩
        rw [Y13]
        by_cases e : l' = l
        · subst e
          rw [if_pos rfl, nI_toInt (by omega)]
          have h8 : M 8 i < nI s := Decidable.not_not.mp fun w => c ⟨hi, q2, w⟩
          rw [q3, Int32.lt_iff_toInt_lt, nI_toInt (by rw [hS, nI_toInt (by omega)] at q6; omega), nI_toInt (by omega)] at h8
          omega
        · rw [if_neg e]; exact q6
  · obtain ⟨q1, q2, q3, q4, q5, q6, kn, k1, k2, k3, k4⟩ := hl1.1 l' hl'
    rw [Y13, Y16, RS 14 (by omega), RS 15 (by omega)]
    by_cases e : l' = l
    · subst e
      rw [if_pos rfl, if_pos rfl]
      exact ⟨by rw [L]; rfl, by rw [L]; exact q2, by rw [L]; exact q3, ⟨s - 1, by omega, rfl⟩, q5, q6, w, hw, rfl, by rw [L]; rfl, LK⟩
    · rw [if_neg e, if_neg e, RS (200 + 2 * l') (by omega), RS (200 + 2 * l' + 1) (by omega)]
      exact ⟨q1, q2, q3, q4, q5, q6, kn, k1, k2, k3, fun j hj => by rw [Y17 _ (by omega)]; exact k4 j hj⟩
  · rw [Y16, if_neg (by omega)]; exact hl1.2 l' g1 g2
