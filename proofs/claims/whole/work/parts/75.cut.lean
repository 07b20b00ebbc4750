/-! cut -/
theorem T2.of {z : Nat → Nat} {Mx My : Mem} {k n l : Nat} (h : T2 Mx My k n) (hn : n ≤ 10) (hl : l < 10) (hk : k < 200) : ∃ A B b, A < B ∧ B < n ∧ My 35 k = nI A ∧ My 36 k = nI B ∧ CW (Mx 74 k) (My 37 k) A B ∧ (∀ M', f_X6_isOfLine z M' (Mx 74 k) (nI l) = some b) ∧ f_X8_has z My (nI k) (nI l) = some b := by
  obtain ⟨A, B, g1, g2, g3, g4, g5⟩ := h
  have hT : TN (fun m => if m = 74 then Mx 74 else My m) k A B n := ⟨g1, g2, g3, g4, g5⟩
  exact ⟨A, B, _, g1, g2, g3, g4, g5, fun M' => hT.of hn hl (z := z), hT.has hn hl hk (z := z)⟩
theorem l_dr {z : Nat → Nat} {n l t : Nat} (hn : n ≤ 10) (hl : l < 10) (ht : t ≤ 200) : ∀ (m k fu t1 : Nat) (Mx My : Mem), k + m = t → m < fu → t1 ≤ k → Mx 67 1 = nI t1 → My 0 34 = nI t1 → (∀ j, j < t1 → T2 Mx My j n) → (∀ j, k ≤ j → j < t → T2 Mx My j n) → ∃ t2 Mx' My', t2 ≤ 200 ∧ f_X6_dropLine_12 z fu Mx (nI l) (nI t) (nI k) = some Mx' ∧ f_X8_cut_64 z fu My (nI l) (nI t) (nI k) = some (nI t2, My') ∧ Mx' 67 1 = nI t2 ∧ (∀ m, ¬ (m = 67 ∨ m = 74) → Mx' m = Mx m) ∧ (∀ m, ¬ (m = 0 ∨ m = 35 ∨ m = 36 ∨ m = 37) → My' m = My m) ∧ (∀ k, k ≠ 34 → My' 0 k = My 0 k) ∧ My' 0 34 = nI t2 ∧ ∀ j, j < t2 → T2 Mx' My' j n := by
  intro m
  induction m with
  | zero =>
    intro k fu t1 Mx My h1 h2 h3 e6 e0 r1 r2
    obtain ⟨fu, rfl⟩ : ∃ r, fu = r + 1 := ⟨fu - 1, by omega⟩
    refine ⟨t1, Mx, My, by omega, ?_, ?_, e6, fun _ _ => rfl, fun _ _ => rfl, fun _ _ => rfl, e0, r1⟩
    · rw [f_X6_dropLine_12, if_pos (nI_le (by omega) (by omega))]
    · rw [f_X8_cut_64, if_pos (nI_le (by omega) (by omega)), e0]
  | succ m ih =>
    intro k fu t1 Mx My h1 h2 h3 e6 e0 r1 r2
    obtain ⟨fu, rfl⟩ : ∃ r, fu = r + 1 := ⟨fu - 1, by omega⟩
    obtain ⟨A, B, b, g1, g2, g3, g4, g5, g6, g7⟩ := (r2 k (by omega) (by omega)).of (z := z) hn hl (by omega)
    rw [f_X6_dropLine_12, f_X8_cut_64, if_neg (nI_ge (by omega) (by omega)), if_neg (nI_ge (by omega) (by omega)), inb_nI (show k < 200 by omega) (by decide), s_ck, s_ck, s_ck, s_ck, nI_clamp (show k < 2 ^ 31 by omega), g6, g7, s_bd1, s_bd1, nI_1]
    cases b
    · obtain ⟨t', Mx', My', a1, a2, a3, a4, a5, a6, a7⟩ := p_wind (z := z) (t := t1) hn g1 g2 g5 (by omega) e6 e0 r1 (Or.inl (by omega))
      rw [b_f, b_f, a3, s_bd2, g3, g4, a4, s_bd1]
      have P2 : ∀ j, k + 1 ≤ j → j < t → T2 Mx' My' j n := fun j j1 j2 => by
        obtain ⟨A', B', w⟩ := r2 j (by omega) j2
        obtain ⟨k1, k2, k3⟩ := a6.2.2.2 j (by omega)
        exact ⟨A', B', by rw [a5.2.2 j (by omega), k1, k2, k3]; exact w⟩
      obtain ⟨t2, Mx2, My2, b1, b2, b3, b4, b5, b6, b7, b8, b9⟩ := ih (k + 1) fu t' Mx' My' (by omega) (by omega) (by omega) a5.2.1 a6.2.2.1 a7 P2
      exact ⟨t2, Mx2, My2, b1, b2, b3, b4, fun m g => by rw [b5 m g, a5.1 m g], fun m g => by rw [b6 m g, a6.1 m g], fun k g => by rw [b7 k g, a6.2.1 k g], b8, b9⟩
    · rw [b_t, b_t]
      exact ih (k + 1) fu t1 Mx My (by omega) (by omega) (by omega) e6 e0 r1 (fun j j1 j2 => r2 j (by omega) j2)
theorem l_toc {z : Nat → Nat} {M M' : Mem} {a b : Int32} (h0 : M' 0 = M 0) (h5 : M' 35 = M 35) (h6 : M' 36 = M 36) : ∀ (fu : Nat) (x y : Int32), f_X8_turnsOf_5 z M' fu a b x y = f_X8_turnsOf_5 z M fu a b x y := by
  intro fu
  induction fu with
  | zero => intro x y; rfl
  | succ fu ih =>
    intro x y
    rw [f_X8_turnsOf_5, f_X8_turnsOf_5, h0, h5, h6, ih, ih]
    rfl
theorem e_toc {z : Nat → Nat} {M M' : Mem} {a b : Int32} (h0 : M' 0 = M 0) (h5 : M' 35 = M 35) (h6 : M' 36 = M 36) : f_X8_turnsOf z M' a b = f_X8_turnsOf z M a b := l_toc h0 h5 h6 1000 0 0
theorem hi_cut : HI_cut Inv := by
  intro z M p1 p2 p3 inv
  obtain ⟨hc, hd, ht, hw, hk, hy, hl, hf, ha, hr, he⟩ := id inv
  obtain ⟨hz0, hz1, hz2, c1, c2, c3, c4, c5, c6⟩ := id hc
  unfold f_X7_cut f_X8_cut f_X7_areTwoLines
  rcases e_lineAt (k := p2) hz1 c4 c3 with ⟨j, hj, rfl, hx2, hm2⟩ | ⟨hx2, hm2⟩
  · rcases e_lineAt (k := p1) hz1 c4 c3 with ⟨i, hi, rfl, hx, hm⟩ | ⟨hx, hm⟩
    · by_cases e : i = j
      · subst e
        exact ⟨-1, M, M, by rw [hx, s_bd1, s_mqs, if_pos rfl]; rfl, by rw [hm z, s_bd1, b_t, s_bd1, b_t, if_pos rfl], inv⟩
      · have e' : ¬ nI i = nI j := fun h => e ((nI_eq (by omega) (by omega)).mp h)
        have hm1 := Option.some.inj ((e_isLine (z := z)).symm.trans (hm z))
        have hm3 := Option.some.inj ((e_isLine (z := z)).symm.trans (hm2 z))
        obtain ⟨q0, -, -, ⟨S, S2, hS⟩, -, -, kn, k1, k2, k3, k4⟩ := hl.1 j hj
        rw [hx, hx2, s_bd1, s_mqs, if_neg e', s_bd1, s_mqs, s_bd1, s_mqs, s_bd1, b_t, q0, e_within, s_bd1]
        simp only [e_isLine, e_isStep (show j < 10 by omega), s_bd1]
        cases h3 : wi p3 1 (M 13 j)
        · exact ⟨-1, M, M, rfl, by rw [hm1, hm3, b_t, b_t, if_neg e', h3]; rfl, inv⟩
        · rw [b_t]
          have h3' := h3
          rw [hS] at h3'
          obtain ⟨s, s1, s2, rfl⟩ := wi_1 (by omega) h3'
          obtain ⟨r, e1, e2⟩ := e_tang (i := i) (j := j) hz1 hr (by omega) (by omega) e
          rw [e1, s_bd1]
          by_cases r0 : r = 0
          · rw [if_pos r0]
            exact ⟨-2, M, M, rfl, by rw [hm1, hm3, b_t, b_t, if_neg e', h3, b_t, e2, s_bd1, if_pos r0], inv⟩
          · obtain ⟨t, h2, e0, e6, hT⟩ := hr
            have hT : ∀ k, k < t → T2 M M k (z 1) := hT
            obtain ⟨w0, M6, -, -, v1, -, v2, -, -⟩ := e_sev (z := z) (Mx := M) (My := M) (l := j) (s := s) hz0 (by omega) k1 s1 (by omega) c2 c1 k3 k2 k4 (by omega)
            have X67 : M6 67 = M 67 := v2.1 67 (by omega)
            have X74 : M6 74 = M 74 := v2.1 74 (by omega)
            have rx : ∀ m, m ≠ 67 → mu M6 67 1 0 m = M6 m := fun m g => mu_ne m g
            have hD : ∀ My : Mem, My 0 34 = nI 0 → My 35 = M 35 → My 36 = M 36 → My 37 = M 37 → ∃ t2 Mx' My', t2 ≤ 200 ∧ f_X6_dropLine_12 z 1000 (mu M6 67 1 0) (nI j) (nI t) 0 = some Mx' ∧ f_X8_cut_64 z 1000 My (nI j) (nI t) 0 = some (nI t2, My') ∧ Mx' 67 1 = nI t2 ∧ (∀ m, ¬ (m = 67 ∨ m = 74) → Mx' m = mu M6 67 1 0 m) ∧ (∀ m, ¬ (m = 0 ∨ m = 35 ∨ m = 36 ∨ m = 37) → My' m = My m) ∧ (∀ k, k ≠ 34 → My' 0 k = My 0 k) ∧ My' 0 34 = nI t2 ∧ ∀ j, j < t2 → T2 Mx' My' j (z 1) := by
              intro My f0 f5 f6 f7
              refine l_dr (z := z) (l := j) hz1 (by omega) h2 t 0 1000 0 (mu M6 67 1 0) My (by omega) (by omega) (by omega) mu_s f0 (fun q hq => absurd hq (by omega)) (fun q _ hq => ?_)
              obtain ⟨A, B, g⟩ := hT q hq
              exact ⟨A, B, by rw [rx 74 (by decide), X74, f5, f6, f7]; exact g⟩
            obtain ⟨ta, M7, -, -, d1, -, d2, d3, -⟩ := hD (mu M 0 34 0) mu_s (mu_ne 35 (by decide)) (mu_ne 36 (by decide)) (mu_ne 37 (by decide))
            have R7 : ∀ m, ¬ (m = 67 ∨ m = 74) → M7 m = M6 m := fun m g => by rw [d3 m g, rx m (by omega)]
            have R7m : ∀ m, ¬ (m = 67 ∨ m = 74 ∨ (100 ≤ m ∧ m < 100 + 4 * z 0) ∨ m = 200 + 2 * j ∨ m = 200 + 2 * j + 1) → M7 m = M m := fun m g => by rw [R7 m (by omega), v2.1 m (by omega)]
            obtain ⟨w, M6', My1, w1, v1', y1, v2', y2, y3⟩ := e_sev (z := z) (Mx := M) (My := M7) (l := j) (s := s) hz0 (by omega) k1 s1 (by omega) c2 (by rw [R7m 0 (by omega)]; exact c1) k3 (by rw [R7m 16 (by omega)]; exact k2) (fun q hq => by rw [R7m 17 (by omega)]; exact k4 q hq) (by omega)
            have em : M6' = M6 := Option.some.inj (v1'.symm.trans v1)
            subst em
            have YR := y2.1
            obtain ⟨t2, M7', My2, t3, d1', o1, d2', d3', o2, o3, o4, o5⟩ := hD (mu My1 0 34 0) mu_s (by rw [mu_ne 35 (by decide), YR 35 (by omega), R7m 35 (by omega)]) (by rw [mu_ne 36 (by decide), YR 36 (by omega), R7m 36 (by omega)]) (by rw [mu_ne 37 (by decide), YR 37 (by omega), R7m 37 (by omega)])
            have em : M7' = M7 := Option.some.inj (d1'.symm.trans d1)
            subst em
            have N0 := R7m 0 (by omega)
            refine ⟨nI t2, M7', My2, ?_, ?_, ?_⟩
            · rw [if_neg r0, v1, s_bd1]
              unfold f_X6_dropLine
              rw [X67, e6, d1', s_bd1, d2']
            · rw [N0, hm1, hm3, b_t, b_t, if_neg e', R7m 13 (by omega), h3, b_t, e_toc N0 (R7m 35 (by omega)) (R7m 36 (by omega)), e2, s_bd1, if_neg r0, y1, s_bd1, YR 0 (by omega), N0, e0]
              exact o1
            · have B : ∀ m, ¬ (m = 0 ∨ m = 7 ∨ m = 13 ∨ m = 16 ∨ m = 17 ∨ m = 35 ∨ m = 36 ∨ m = 37) → My2 m = M7' m := fun m g => by rw [o2 m (by omega), mu_ne m (by omega), YR m (by omega)]
              have B6 : ∀ m, ¬ (m = 0 ∨ m = 7 ∨ m = 13 ∨ m = 16 ∨ m = 17 ∨ m = 35 ∨ m = 36 ∨ m = 37 ∨ m = 67 ∨ m = 74) → My2 m = M6' m := fun m g => by rw [B m (by omega), R7 m (by omega)]
              have C : ∀ m, m = 7 ∨ m = 13 ∨ m = 16 ∨ m = 17 → My2 m = My1 m := fun m g => by rw [o2 m (by omega), mu_ne m (by omega)]
              have E74 : My2 74 = M7' 74 := B 74 (by omega)
              refine inv.sev (l := j) (s := s) (S := S) (w := w) hj s1 hS s2 S2 w1 (fun k g => ?_) (fun m g => ?_) (fun i hi n n1 n2 => ?_) (fun i hi q hq => ?_) (fun i hi => ?_) (fun i => ?_) (fun i => ?_) (fun i => ?_) (fun q g => ?_) (fun q => ?_) (fun q hq => ?_) ⟨t2, t3, o4, by rw [B 67 (by omega)]; exact d2', fun k hk => by have := o5 k hk; unfold T2 at this; rw [← E74] at this; exact this⟩
              · rw [o3 k g, mu_k g, YR 0 (by omega), N0]
              · rw [B6 m (by omega), v2'.1 m (by omega)]
              · rw [B6 n (by omega), v2'.2.1 i hi n n1 n2]
              · rw [B6 _ (by omega), v2'.2.2.1 i hi q hq]
              · rw [B6 _ (by omega), v2'.2.2.2.1 i hi]
              · rw [C 7 (by omega), y2.2.1 i, R7m 7 (by omega), R7m 8 (by omega)]
              · rw [C 13 (by omega), y2.2.2.1 i, R7m 13 (by omega)]
              · rw [C 16 (by omega), y2.2.2.2.1 i, R7m 16 (by omega)]
              · rw [C 17 (by omega), y2.2.2.2.2 q g, R7m 17 (by omega)]
              · rw [B6 _ (by omega), v2'.2.2.2.2 q]
              · rw [B6 _ (by omega), C 17 (by omega)]; exact y3 q hq
    · refine ⟨-1, M, M, ?_, by rw [hm z]; rfl, inv⟩
      rw [hx2, s_bd1, s_mqs]
      by_cases e : p1 = nI j
      · rw [if_pos e]; rfl
      · rw [if_neg e, hx]; rfl
  · refine ⟨-1, M, M, by rw [hx2]; rfl, ?_, inv⟩
    rcases e_lineAt (k := p1) hz1 c4 c3 with ⟨i, hi, rfl, hx, hm⟩ | ⟨hx, hm⟩
    · rw [hm z, s_bd1, b_t, hm2 z]; rfl
    · rw [hm z]; rfl
