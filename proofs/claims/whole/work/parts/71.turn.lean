/-! turns: written -/
theorem n_neg {c : Nat} (h : c < 2 ^ 30) : (-(nI c)).toInt = -(c : Int) := by
  have := pk_sub_toInt (a := 0) (b := c) (by decide) h
  rw [show nI 0 - nI c = -(nI c) from by rw [nI_0]; grind] at this
  omega
theorem nI_nn {x y : Nat} (h0 : 0 < x) (hx : x < 2 ^ 30) (hy : y < 2 ^ 30) : ¬ nI x = -(nI y) := fun e => by
  have := congrArg Int32.toInt e
  rw [nI_toInt (by omega), n_neg hy] at this
  omega
/-- a turn's way and its number -/
def CW (c W : Int32) (A B : Nat) : Prop := (W = 1 ∧ c = nI (10 * A + B)) ∨ (W = -1 ∧ c = -(nI (10 * A + B)))
/-- a turn of the row: number in Mx, lines and way in My -/
def T2 (Mx My : Mem) (k n : Nat) : Prop := ∃ A B, A < B ∧ B < n ∧ My 35 k = nI A ∧ My 36 k = nI B ∧ CW (Mx 74 k) (My 37 k) A B
theorem neg_neg32 (x : Int32) : -(-x) = x := by grind
theorem T2.iv {Mx My : Mem} {k n A B : Nat} {c W : Int32} (h : T2 Mx My k n) (hn : n ≤ 10) (hA : A < B) (hB : B < 10) (hc : CW c W A B) : Mx 74 k = -c ↔ (My 35 k = nI A ∧ My 36 k = nI B ∧ My 37 k = -W) := by
  obtain ⟨A', B', g1, g2, g3, g4, g5⟩ := h
  rw [g3, g4]
  have E : nI (10 * A' + B') = nI (10 * A + B) ↔ (nI A' = nI A ∧ nI B' = nI B) := by
    rw [nI_eq (by omega) (by omega), nI_eq (by omega) (by omega), nI_eq (by omega) (by omega)]
    omega
  rcases hc with ⟨rfl, rfl⟩ | ⟨rfl, rfl⟩ <;> rcases g5 with ⟨w, q⟩ | ⟨w, q⟩ <;> rw [w, q]
  · exact ⟨fun e => absurd e (nI_nn (by omega) (by omega) (by omega)), fun e => absurd e.2.2 (by decide)⟩
  · exact ⟨fun e => ⟨(E.mp (by rw [← neg_neg32 (nI (10 * A' + B')), e, neg_neg32])).1, (E.mp (by rw [← neg_neg32 (nI (10 * A' + B')), e, neg_neg32])).2, rfl⟩, fun e => by rw [E.mpr ⟨e.1, e.2.1⟩]⟩
  · rw [neg_neg32, neg_neg32]
    exact ⟨fun e => ⟨(E.mp e).1, (E.mp e).2, rfl⟩, fun e => E.mpr ⟨e.1, e.2.1⟩⟩
  · rw [neg_neg32, neg_neg32]
    exact ⟨fun e => absurd e.symm (nI_nn (by omega) (by omega) (by omega)), fun e => absurd e.2.2 (by decide)⟩
/-- what a push leaves -/
def PX (Mx Mx' : Mem) (t t' : Nat) : Prop := (∀ m, ¬ (m = 67 ∨ m = 74) → Mx' m = Mx m) ∧ Mx' 67 1 = nI t' ∧ ∀ k, k ≠ t → Mx' 74 k = Mx 74 k
def PY (My My' : Mem) (t t' : Nat) : Prop := (∀ m, ¬ (m = 0 ∨ m = 35 ∨ m = 36 ∨ m = 37) → My' m = My m) ∧ (∀ k, k ≠ 34 → My' 0 k = My 0 k) ∧ My' 0 34 = nI t' ∧ ∀ k, k ≠ t → My' 35 k = My 35 k ∧ My' 36 k = My 36 k ∧ My' 37 k = My 37 k
theorem p_pop {z : Nat → Nat} {Mx : Mem} {t : Nat} {c : Int32} (ht : t < 200) (e6 : Mx 67 1 = nI (t + 1)) (h : Mx 74 t = -c) : ∃ Mx', f_X6_push z Mx c = some (true, Mx') ∧ PX Mx Mx' (t + 1) t := by
  refine ⟨mu Mx 67 1 (nI t), ?_, fun m g => mu_ne m (by omega), mu_s, fun k _ => by rw [mu_ne 74 (by decide)]⟩
  unfold f_X6_push
  rw [e6, if_neg (nI_nle (by omega) (by omega)), nI_p1, inb_nI (by omega) (by decide), s_ck, nI_clamp (by omega), if_pos h]
theorem p_put {z : Nat → Nat} {Mx : Mem} {t : Nat} {c : Int32} (ht : t < 200) (e6 : Mx 67 1 = nI t) (h : t = 0 ∨ ¬ Mx 74 (t - 1) = -c) : ∃ Mx', f_X6_push z Mx c = some (true, Mx') ∧ PX Mx Mx' t (t + 1) ∧ Mx' 74 t = c := by
  generalize hM : mu (mu Mx 74 t c) 67 1 (nI (t + 1)) = Mx'
  have R : ∀ m, ¬ (m = 67 ∨ m = 74) → Mx' m = Mx m := fun m g => by rw [← hM, mu2_ne m (by omega) (by omega)]
  have e : f_X6_push_35 z Mx c = some (true, Mx') := by
    unfold f_X6_push_35
    rw [e6, if_pos (show nI t < 200 from nI_lt (b := 200) ht (by decide)), inb_nI ht (by decide), s_ck, nI_clamp (by omega), mu_ne 67 (by decide), e6, nI_1, hM]
    rfl
  refine ⟨Mx', ?_, ⟨R, by rw [← hM, mu_s], fun k g => by rw [← hM, mu_ne 74 (by decide), mu_k g]⟩, by rw [← hM, mu_ne 74 (by decide), mu_s]⟩
  unfold f_X6_push
  rw [e6, e]
  by_cases t0 : t = 0
  · subst t0; rfl
  · obtain ⟨u, rfl⟩ : ∃ u, t = u + 1 := ⟨t - 1, by omega⟩
    rcases h with h | h
    · exact absurd h (by omega)
    · rw [if_neg (nI_nle (by omega) (by omega)), nI_p1, inb_nI (by omega) (by decide), s_ck, nI_clamp (by omega)]
      exact if_neg h
theorem m_pop {z : Nat → Nat} {My : Mem} {t : Nat} {a b W : Int32} (ht : t < 200) (e0 : My 0 34 = nI (t + 1)) (h : My 35 t = a ∧ My 36 t = b ∧ My 37 t = -W) : ∃ My', f_X8_wind0 z My a b W = some My' ∧ PY My My' (t + 1) t := by
  refine ⟨mu My 0 34 (nI t), ?_, fun m g => mu_ne m (by omega), fun k g => mu_k g, mu_s, fun k _ => ⟨by rw [mu_ne 35 (by decide)], by rw [mu_ne 36 (by decide)], by rw [mu_ne 37 (by decide)]⟩⟩
  unfold f_X8_wind0
  rw [e0, nI_p1, if_neg (nI_pos (by omega)), inb_nI (by omega) (by decide), s_ck, nI_clamp (by omega), if_pos h.1, s_ck, if_pos h.2.1, s_ck, if_pos h.2.2]
theorem m_put {z : Nat → Nat} {My : Mem} {t : Nat} {a b W : Int32} (ht : t < 200) (e0 : My 0 34 = nI t) (h : t = 0 ∨ ¬ (My 35 (t - 1) = a ∧ My 36 (t - 1) = b ∧ My 37 (t - 1) = -W)) : ∃ My', f_X8_wind0 z My a b W = some My' ∧ PY My My' t (t + 1) ∧ My' 35 t = a ∧ My' 36 t = b ∧ My' 37 t = W := by
  generalize hM : mu (mu (mu (mu My 35 t a) 36 t b) 37 t W) 0 34 (nI (t + 1)) = My'
  have R : ∀ m, ¬ (m = 0 ∨ m = 35 ∨ m = 36 ∨ m = 37) → My' m = My m := fun m g => by rw [← hM, mu2_ne m (by omega) (by omega), mu2_ne m (by omega) (by omega)]
  have Z0 : ∀ k, My' 0 k = if k = 34 then nI (t + 1) else My 0 k := fun k => by rw [← hM, mu_eq, mu_ne 0 (by decide), mu2_ne 0 (by decide) (by decide)]; rfl
  have Z35 : ∀ k, My' 35 k = if k = t then a else My 35 k := fun k => by rw [← hM, mu2_ne 35 (by decide) (by decide), mu_ne 35 (by decide), mu_eq]; rfl
  have Z36 : ∀ k, My' 36 k = if k = t then b else My 36 k := fun k => by rw [← hM, mu2_ne 36 (by decide) (by decide), mu_eq, mu_ne 36 (by decide)]; rfl
  have Z37 : ∀ k, My' 37 k = if k = t then W else My 37 k := fun k => by rw [← hM, mu_ne 37 (by decide), mu_eq, mu2_ne 37 (by decide) (by decide)]; rfl
  have e : f_X8_wind0_58 z My a b W = some My' := by
    unfold f_X8_wind0_58
    rw [e0, inb_nI ht (by decide), s_ck, nI_clamp (by omega), mu_ne 0 (by decide), e0, inb_nI ht (by decide), s_ck, nI_clamp (by omega), s_lt, mu2_ne 0 (by decide) (by decide), e0, inb_nI ht (by decide), s_ck, nI_clamp (by omega), mu_ne 0 (by decide), mu2_ne 0 (by decide) (by decide), e0, nI_1, hM]
    rfl
  refine ⟨My', ?_, ⟨R, fun k g => by rw [Z0, if_neg g], by rw [Z0]; rfl, fun k g => ⟨by rw [Z35, if_neg g], by rw [Z36, if_neg g], by rw [Z37, if_neg g]⟩⟩, by rw [Z35, if_pos rfl], by rw [Z36, if_pos rfl], by rw [Z37, if_pos rfl]⟩
  unfold f_X8_wind0
  rw [e0, e]
  by_cases t0 : t = 0
  · subst t0; rfl
  · obtain ⟨u, rfl⟩ : ∃ u, t = u + 1 := ⟨t - 1, by omega⟩
    rcases h with h | h
    · exact absurd h (by omega)
    · rw [Nat.add_sub_cancel] at h
      rw [nI_p1, if_neg (nI_pos (by omega)), inb_nI (by omega) (by decide), s_ck, s_ck, s_ck, nI_clamp (by omega)]
      by_cases q1 : My 35 u = a
      · rw [if_pos q1]
        by_cases q2 : My 36 u = b
        · rw [if_pos q2]
          by_cases q3 : My 37 u = -W
          · exact absurd ⟨q1, q2, q3⟩ h
          · rw [if_neg q3]
        · rw [if_neg q2]
      · rw [if_neg q1]
/-- both sides push alike -/
theorem p_wind {z : Nat → Nat} {Mx My : Mem} {t n A B : Nat} {c W : Int32} (hn : n ≤ 10) (hA : A < B) (hB : B < n) (hc : CW c W A B) (ht : t ≤ 200) (e6 : Mx 67 1 = nI t) (e0 : My 0 34 = nI t) (hT : ∀ k, k < t → T2 Mx My k n) (hf : t < 200 ∨ Mx 74 (t - 1) = -c) : ∃ t' Mx' My', t' ≤ t + 1 ∧ t' ≤ 200 ∧ f_X6_push z Mx c = some (true, Mx') ∧ f_X8_wind0 z My (nI A) (nI B) W = some My' ∧ PX Mx Mx' t t' ∧ PY My My' t t' ∧ ∀ k, k < t' → T2 Mx' My' k n := by
  by_cases h : 0 < t ∧ Mx 74 (t - 1) = -c
  · obtain ⟨h0, h⟩ := h
    obtain ⟨u, rfl⟩ : ∃ u, t = u + 1 := ⟨t - 1, by omega⟩
    rw [Nat.add_sub_cancel] at h
    obtain ⟨Mx', x1, x2⟩ := p_pop (z := z) (by omega) e6 h
    obtain ⟨My', y1, y2⟩ := m_pop (z := z) (by omega) e0 (((hT u (by omega)).iv hn hA (by omega) hc).mp h)
    refine ⟨u, Mx', My', by omega, by omega, x1, y1, x2, y2, fun k hk => ?_⟩
    obtain ⟨A', B', g⟩ := hT k (by omega)
    refine ⟨A', B', ?_⟩
    obtain ⟨k1, k2, k3⟩ := y2.2.2.2 k (by omega)
    rw [x2.2.2 k (by omega), k1, k2, k3]
    exact g
  · have ht : t < 200 := by
      rcases hf with q | q
      · exact q
      · by_cases t0 : t = 0
        · omega
        · exact absurd ⟨by omega, q⟩ h
    have h' : t = 0 ∨ ¬ Mx 74 (t - 1) = -c := by
      by_cases t0 : t = 0
      · exact Or.inl t0
      · exact Or.inr fun q => h ⟨by omega, q⟩
    obtain ⟨Mx', x1, x2, x3⟩ := p_put (z := z) ht e6 h'
    obtain ⟨My', y1, y2, y3, y4, y5⟩ := m_put (z := z) (a := nI A) (b := nI B) (W := W) ht e0 (by
      rcases h' with q | q
      · exact Or.inl q
      · by_cases t0 : t = 0
        · exact Or.inl t0
        · exact Or.inr fun w => q (((hT (t - 1) (by omega)).iv hn hA (by omega) hc).mpr w))
    refine ⟨t + 1, Mx', My', by omega, by omega, x1, y1, x2, y2, fun k hk => ?_⟩
    by_cases e : k = t
    · subst e
      exact ⟨A, B, hA, hB, y3, y4, by rw [x3, y5]; exact hc⟩
    · obtain ⟨A', B', g⟩ := hT k (by omega)
      refine ⟨A', B', ?_⟩
      obtain ⟨k1, k2, k3⟩ := y2.2.2.2 k e
      rw [x2.2.2 k e, k1, k2, k3]
      exact g
theorem p_full {z : Nat → Nat} {Mx : Mem} {c : Int32} (e6 : Mx 67 1 = nI 200) (h : ¬ Mx 74 199 = -c) : f_X6_push z Mx c = some (false, Mx) := by
  unfold f_X6_push f_X6_push_35
  rw [e6, if_neg (nI_nle (by omega) (by omega)), nI_p1 199, inb_nI (by omega) (by decide), s_ck, nI_clamp (by omega), if_neg h]
  rfl
theorem m_t33 {z : Nat → Nat} {My : Mem} {t : Nat} {x1 x2 W a b : Int32} (ht : t ≤ 200) (e0 : My 0 34 = nI t) (g1 : f_X8_lesser z My x1 x2 = some a) (g2 : f_X8_greater z My x1 x2 = some b) : f_X8_turn_33 z My x1 x2 W = f_X8_turn_101 z My (if 0 < t ∧ My 35 (t - 1) = a ∧ My 36 (t - 1) = b ∧ My 37 (t - 1) = -W then 1 else 0) W a b := by
  unfold f_X8_turn_33
  rw [g1, g2, s_bd1, s_bd1, e0]
  by_cases t0 : t = 0
  · subst t0; rw [if_neg (show ¬ (0 < 0 ∧ _) from fun q => absurd q.1 (by omega))]; rfl
  · obtain ⟨u, rfl⟩ : ∃ u, t = u + 1 := ⟨t - 1, by omega⟩
    rw [Nat.add_sub_cancel, nI_p1, if_neg (nI_pos (by omega)), inb_nI (by omega) (by decide), s_ck, s_ck, s_ck, nI_clamp (by omega)]
    by_cases q1 : My 35 u = a
    · rw [if_pos q1]
      by_cases q2 : My 36 u = b
      · rw [if_pos q2]
        by_cases q3 : My 37 u = -W
        · rw [if_pos q3, if_pos ⟨by omega, q1, q2, q3⟩]
        · rw [if_neg q3, if_neg (fun w => q3 w.2.2.2)]
      · rw [if_neg q2, if_neg (fun w => q2 w.2.2.1)]
    · rw [if_neg q1, if_neg (fun w => q1 w.2.1)]
theorem hi_turn0 {z : Nat → Nat} {M : Mem} (inv : Inv z M) {i j : Nat} (hi : i < z 1) (hj : j < z 1) (hij : i ≠ j) {c W : Int32} (hW : CW c W (min i j) (max i j)) (hco : ∀ M', f_X6_codeOf z M' (nI i) (nI j) W = some c) : ∃ (r : Int32) (M1 M2 : Mem), f_X7_turn_21 z M (nI i) (nI j) W = some (r, M1) ∧ f_X8_turn_33 z M1 (nI i) (nI j) W = some (r, M2) ∧ Inv z M2 ∧ M1 0 = M 0 := by
  obtain ⟨hc, hd, ht, hw, hk, hy, hl, hf, ha, hr, he⟩ := id inv
  have hz1 := hc.2.1
  obtain ⟨t, h2, e0, e6, hT⟩ := hr
  have hT : ∀ k, k < t → T2 M M k (z 1) := hT
  have hA : min i j < max i j := by omega
  have hB : max i j < z 1 := by omega
  unfold f_X7_turn_21
  rw [hco, s_bd1]
  by_cases hf1 : t < 200 ∨ M 74 (t - 1) = -c
  · obtain ⟨t1, Mx, -, -, -, x1, -, x2, -, -⟩ := p_wind (z := z) hz1 hA hB hW h2 e6 e0 hT hf1
    have RX := x2.1
    have E35 := RX 35 (by omega)
    have E36 := RX 36 (by omega)
    have E37 := RX 37 (by omega)
    have e0' : Mx 0 34 = nI t := by rw [RX 0 (by omega)]; exact e0
    have hT' : ∀ k, k < t → T2 M Mx k (z 1) := fun k hk => by
      obtain ⟨A', B', g⟩ := hT k hk
      exact ⟨A', B', by rw [E35, E36, E37]; exact g⟩
    obtain ⟨t', Mx', My, a1, a2, a3, a4, a5, a6, a7⟩ := p_wind (z := z) hz1 hA hB hW h2 e6 e0' hT' hf1
    have e := Option.some.inj (x1.symm.trans a3)
    have e : Mx = Mx' := congrArg Prod.snd e
    subst e
    have E74 : My 74 = Mx 74 := a6.1 74 (by omega)
    refine ⟨nI t', Mx, My, by rw [x1, s_bd2, b_t, a5.2.1], ?_, ?_, RX 0 (by omega)⟩
    · rw [m_t33 h2 e0' (e_les (by omega) (by omega)) (e_grt (by omega) (by omega))]
      unfold f_X8_turn_101
      rw [e0', a4, s_bd1, a6.2.2.1]
      by_cases q : t < 200
      · rw [if_neg (show ¬ nI t = 200 from nI_ne (b := 200) (by omega) (by omega) (by decide))]
      · have q2 : t = 200 := by omega
        subst q2
        rcases hf1 with q3 | q3
        · exact absurd q3 q
        · rw [if_pos (show nI 200 = 200 from rfl), if_pos (show 0 < 200 ∧ Mx 35 (200 - 1) = nI (min i j) ∧ Mx 36 (200 - 1) = nI (max i j) ∧ Mx 37 (200 - 1) = -W from ⟨by omega, ((hT' 199 (by omega)).iv hz1 hA (by omega) hW).mp q3⟩), if_neg (show ¬ (1 : Int32) = 0 from by decide)]
    · have R : ∀ m, ¬ (m = 0 ∨ m = 35 ∨ m = 36 ∨ m = 37 ∨ m = 67 ∨ m = 74) → My m = M m := fun m g => by rw [a6.1 m (by omega), RX m (by omega)]
      have z0 : ∀ k, k ≠ 34 → My 0 k = M 0 k := fun k h => by rw [a6.2.1 k h, RX 0 (by omega)]
      have z5 := R 50 (by omega)
      exact ⟨hc.k (z0 _ (by decide)) (z0 _ (by decide)) (z0 _ (by decide)) (by rw [z5]) (by rw [z5]) (by rw [z5]), hd.k (z0 _ (by decide)) (z0 _ (by decide)) (by rw [z5]) (by rw [z5]), ht.r (R _ (by omega)) (R _ (by omega)) (R _ (by omega)) (R _ (by omega)), hw.r (R _ (by omega)) (R _ (by omega)), hk.r (fun n _ _ => R n (by omega)) (fun n _ _ => R n (by omega)), hy.r (R _ (by omega)) (R _ (by omega)) (R _ (by omega)) (fun i _ => by rw [R _ (by omega)]), hl.r (fun n _ _ => R n (by omega)) (fun n _ _ => R n (by omega)), hf.r (fun n _ _ => R n (by omega)) (fun n _ _ => R n (by omega)), ha.r (R _ (by omega)) (R _ (by omega)), ⟨t', a2, a6.2.2.1, by rw [a6.1 67 (by omega)]; exact a5.2.1, fun k hk => by have := a7 k hk; unfold T2 at this; rw [← E74] at this; exact this⟩, he.r (z0 _ (by decide)) (by rw [z5]) (R _ (by omega)) (R _ (by omega))⟩
  · have q2 : t = 200 := by omega
    subst q2
    refine ⟨-3, M, M, by rw [p_full e6 (fun q => hf1 (Or.inr q))]; rfl, ?_, inv, rfl⟩
    rw [m_t33 h2 e0 (e_les (by omega) (by omega)) (e_grt (by omega) (by omega)), if_neg (fun q => hf1 (Or.inr (((hT 199 (by omega)).iv hz1 hA (by omega) hW).mpr q.2)))]
    unfold f_X8_turn_101
    rw [e0]
    rfl
theorem hi_turn : HI_turn Inv := by
  intro z M p1 p2 p3 inv
  have hc := id inv.1
  have hz1 := hc.2.1
  unfold f_X7_turn f_X8_turn f_X7_areTwoLines
  rcases e_lineAt (k := p1) hc.2.1 hc.2.2.2.2.2.2.1 hc.2.2.2.2.2.1 with ⟨i, hi, rfl, hx, hm⟩ | ⟨hx, hm⟩
  · rcases e_lineAt (k := p2) hc.2.1 hc.2.2.2.2.2.2.1 hc.2.2.2.2.2.1 with ⟨j, hj, rfl, hx2, hm2⟩ | ⟨hx2, hm2⟩
    · by_cases e : i = j
      · subst e
        exact ⟨-1, M, M, by rw [if_pos rfl]; rfl, by rw [hm z, s_bd1, b_t, s_bd1, b_t, if_pos rfl], inv⟩
      · have e' : ¬ nI i = nI j := fun h => e ((nI_eq (by omega) (by omega)).mp h)
        have hm1 := Option.some.inj ((e_isLine (z := z)).symm.trans (hm z))
        have hm3 := Option.some.inj ((e_isLine (z := z)).symm.trans (hm2 z))
        have hcd : ∀ M' W, f_X6_codeOf z M' (nI i) (nI j) W = some (W * nI (10 * min i j + max i j)) := fun M' W => by
          unfold f_X6_codeOf
          rw [e_imin (by omega) (by omega), e_imax (by omega) (by omega), show (10 : Int32) = nI 10 from rfl, pk_mul, nI_add]
        rw [if_neg e', hx, s_bd1, s_mqs, hx2, s_bd1, s_mqs, s_bd1, b_t]
        by_cases w1 : p3 = 1
        · subst w1
          obtain ⟨r, M1, M2, q1, q2, q3, q4⟩ := hi_turn0 inv hi hj e (c := nI (10 * min i j + max i j)) (W := 1) (Or.inl ⟨rfl, rfl⟩) (fun M' => by rw [hcd, Int32.one_mul])
          exact ⟨r, M1, M2, by rw [if_pos rfl, q1], by rw [e_isLine, e_isLine, q4, hm1, hm3, s_bd1, b_t, s_bd1, b_t, if_neg e', if_pos rfl, q2], q3⟩
        · by_cases w2 : p3 = -1
          · subst w2
            obtain ⟨r, M1, M2, q1, q2, q3, q4⟩ := hi_turn0 inv hi hj e (c := -(nI (10 * min i j + max i j))) (W := -1) (Or.inr ⟨rfl, rfl⟩) (fun M' => by rw [hcd]; congr 1; grind)
            exact ⟨r, M1, M2, by rw [if_neg w1, if_pos rfl, q1], by rw [e_isLine, e_isLine, q4, hm1, hm3, s_bd1, b_t, s_bd1, b_t, if_neg e', if_neg w1, if_pos rfl, q2], q3⟩
          · exact ⟨-1, M, M, by rw [if_neg w1, if_neg w2], by rw [hm z, s_bd1, b_t, hm2 z, s_bd1, b_t, if_neg e', if_neg w1, if_neg w2], inv⟩
    · refine ⟨-1, M, M, ?_, by rw [hm z, s_bd1, b_t, hm2 z]; rfl, inv⟩
      by_cases e : nI i = p2
      · rw [if_pos e]; rfl
      · rw [if_neg e, hx, s_bd1, s_mqs, hx2]; rfl
  · refine ⟨-1, M, M, ?_, by rw [hm z]; rfl, inv⟩
    by_cases e : p1 = p2
    · rw [if_pos e]; rfl
    · rw [if_neg e, hx]; rfl
