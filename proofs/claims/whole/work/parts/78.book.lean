/-! a train in the book -/
def TR (z : Nat → Nat) (M : Mem) (l S W : Nat) : Prop := Inv z M ∧ l < z 1 ∧ M 13 l = nI S ∧ S ≤ 200 ∧ M 15 l = nI W ∧ W ≤ 9 ∧ M (200 + 2 * l) 0 = nI S ∧ M (200 + 2 * l) 2 = nI W
theorem TR.of {z : Nat → Nat} {M : Mem} {l : Nat} (inv : Inv z M) (hl : l < z 1) : ∃ S W, TR z M l S W := by
  obtain ⟨hc, hd, ht, hw, hk, hy, hl1, hf, ha, hr, he⟩ := id inv
  obtain ⟨q1, q2, q3, ⟨S, s1, s2⟩, -, ⟨W, w1, w2⟩, -⟩ := hl1.1 l hl
  exact ⟨S, W, inv, hl, s2, s1, w2, w1, by rw [q1, s2], by rw [q3, w2]⟩
theorem S_pu_c {M M' : Mem} {i p : Nat} {v : Int32} (R : ∀ m, (3 ≤ m ∧ m ≤ 6) ∨ m = 9 ∨ m = 10 → M' m = M m) : S_pu M' i p v = S_pu M i p v ∧ S_pb M' i p v = S_pb M i p v ∧ S_st M' i p v (M' 6 i) = S_st M i p v (M 6 i) := by
  have e : S_st M' i p v (M' 6 i) = S_st M i p v (M 6 i) := by rw [R 6 (by omega)]; exact S_st_c (R 3 (by omega)) (R 4 (by omega)) (R 5 (by omega)) (R 9 (by omega))
  refine ⟨?_, ?_, e⟩
  · unfold S_pu S_up
    rw [e, R 3 (by omega), R 5 (by omega), R 9 (by omega)]
  · unfold S_pb S_bk
    rw [e, R 3 (by omega), R 10 (by omega)]
/-- a kite's pull, in the book, where the train's own arrays have changed -/
theorem e_kx {z : Nat → Nat} {M M' : Mem} {i : Nat} (inv : Inv z M) (hi : i < z 0) (R : ∀ m, ¬ (m = 72 ∨ m = 73) → M' m = M m) (v : Int32) : f_X2_standingAngle z (100 + 4 * i) M' v (M' (100 + 4 * i) 4) = some (S_st M i (M 2 i).toNatClampNeg v (M 6 i)) ∧ f_X2_upAt z (100 + 4 * i) M' v (S_st M i (M 2 i).toNatClampNeg v (M 6 i)) = some (S_pu M i (M 2 i).toNatClampNeg v) ∧ f_X2_backAt z (100 + 4 * i) M' v (S_st M i (M 2 i).toNatClampNeg v (M 6 i)) = some (S_pb M i (M 2 i).toNatClampNeg v) := by
  obtain ⟨hc, hd, ht, hw, hk, -⟩ := id inv
  have hz := hc.1
  obtain ⟨p, hV, hb, hkn, -⟩ := hk.1 i hi
  have h6 := hV.1
  have ep : (M 2 i).toNatClampNeg = p := by rw [hV.2.1, nI_clamp (by omega)]
  have hT' : TV M' := (ht.r (R _ (by omega)) (R _ (by omega)) (R _ (by omega)) (R _ (by omega))).tv
  have hV' : KV M' i p := hV.r (fun n _ _ => R n (by omega)) (fun n _ _ => R n (by omega))
  obtain ⟨s1, s2, s3⟩ := S_pu_c (M := M) (M' := M') (i := i) (p := p) (v := v) (fun m g => R m (by omega))
  rw [ep, ← s1, ← s2, ← s3]
  refine ⟨?_, e_x_pu hT' hV', e_x_pb hT' hV'⟩
  rw [show M' (100 + 4 * i) 4 = M' 6 i from by rw [R _ (by omega), R 6 (by omega)]; exact hkn]
  exact e_x_st hT' hV'
theorem e_wx {z : Nat → Nat} {M M' : Mem} {s : Nat} (hw : Iw M) (e : M' 54 = M 54) (hs : s ≤ 200) : f_X7_windAt z M' (nI s) = some (M 11 (min (s / 10) 19)) := by
  unfold f_X7_windAt
  have e1 : nI s / 10 = nI (s / 10) := pk_div (d := 10) (by omega) (by decide) (by decide)
  have e2 : imin (nI (s / 10)) 19 = nI (min (s / 10) 19) := by
    unfold imin
    by_cases c : 19 < s / 10
    · rw [if_pos (show (19 : Int32) < nI (s / 10) from nI_lt (a := 19) c (by omega)), Nat.min_eq_right (by omega)]; rfl
    · rw [if_neg (show ¬ (19 : Int32) < nI (s / 10) from nI_nlt (a := 19) (by omega) (by decide)), Nat.min_eq_left (by omega)]
  have e3 : imax 0 (nI (min (s / 10) 19)) = nI (min (s / 10) 19) := by
    unfold imax
    by_cases c : 0 < min (s / 10) 19
    · rw [if_pos (show (0 : Int32) < nI (min (s / 10) 19) from nI_lt (a := 0) c (by omega))]
    · rw [show min (s / 10) 19 = 0 by omega]; decide
  rw [e1, e2, e3, inb_nI (by omega) (by decide), s_ck, nI_clamp (by omega), e, (hw _ (by omega)).1]
theorem l_lf {z : Nat → Nat} {M : Mem} {l S W u : Nat} {x c0 : Int32} (h : TR z M l S W) (hx : x = -1 ∨ ∃ v, v ≤ 99 ∧ x = nI v) : ∀ (m k fu : Nat), k + m = z 0 → m < fu → f_X7_liftsOf_15 z u M fu (nI l) x (c0 + GE (td M l) (pU M l x) k 1) (nI k) = some (c0 + GE (td M l) (pU M l x) (z 0) 1) := by
  obtain ⟨inv, hl, hS, S2, -⟩ := id h
  obtain ⟨hc, hd, ht, hw, hk, hy, -⟩ := id inv
  obtain ⟨hz0, hz1, hz2, c1, c2, c3, c4, c5, c6⟩ := id hc
  intro m
  induction m with
  | zero =>
    intro k fu h1 h2
    obtain ⟨fu, rfl⟩ : ∃ r, fu = r + 1 := ⟨fu - 1, by omega⟩
    have e : k = z 0 := by omega
    rw [f_X7_liftsOf_15, c2, if_pos (nI_le (by omega) (by omega)), e]
  | succ m ih =>
    intro k fu h1 h2
    obtain ⟨fu, rfl⟩ : ∃ r, fu = r + 1 := ⟨fu - 1, by omega⟩
    have hk0 : k < z 0 := by omega
    have hrec := ih (k + 1) fu (by omega) (by omega)
    obtain ⟨t1, t2, t3⟩ := td_le hz1 hy hk0 hl hS S2
    have e5 : M (100 + 4 * k) 5 = M 7 k := by obtain ⟨_, -, -, -, q⟩ := hk.1 k hk0; exact q
    rw [f_X7_liftsOf_15, c2, if_neg (nI_ge (by omega) (by omega)), e_kiA hz0 c2 hk0, s_bd1, s_mqs, e5, nI_1]
    rw [GE_1] at hrec
    by_cases c : M 7 k = nI l
    · obtain ⟨t4, t5, t6⟩ := t2 c
      obtain ⟨g1, g2, g3⟩ := e_kx inv hk0 (M' := M) (fun _ _ => rfl) (wv M x (td M l k))
      rw [if_pos c]
      rw [if_pos (show 1 ≤ td M l k from t4), ← Int32.add_assoc] at hrec
      rcases hx with rfl | ⟨v, hv, rfl⟩
      · have ew : wv M (-1) (td M l k) = M 11 (min (td M l k / 10) 19) := by unfold wv; rw [if_pos rfl]
        rw [ew] at g1 g2
        rw [if_pos rfl, t6, e_wx hw rfl (by omega), s_bd1, g1, s_bd1, g2, s_bd1, ← ew]
        exact hrec
      · have ew : wv M (nI v) (td M l k) = nI v := by unfold wv; rw [if_neg (nI_m1ne (by omega))]
        rw [ew] at g1 g2
        unfold pU at hrec
        rw [ew] at hrec
        rw [if_neg (nI_m1ne (by omega)), g1, s_bd1, g2, s_bd1]
        exact hrec
    · rw [if_neg c]
      rw [if_neg (show ¬ 1 ≤ td M l k by rw [t3 c]; omega), Int32.add_zero] at hrec
      exact hrec
theorem e_lf {z : Nat → Nat} {M : Mem} {l S W : Nat} {x : Int32} (h : TR z M l S W) (hx : x = -1 ∨ ∃ v, v ≤ 99 ∧ x = nI v) : f_X7_liftsOf z (200 + 2 * l) M (nI l) x = some (GE (td M l) (pU M l x) (z 0) 1 - nI (S * W)) := by
  unfold f_X7_liftsOf
  have hz := h.1.1.1
  have hL := l_lf (u := 200 + 2 * l) (c0 := -(nI S) * nI W) h hx (z 0) 0 1000 (by omega) (by omega)
  obtain ⟨-, -, -, -, -, -, u1, u2⟩ := h
  rw [u1, u2]
  have e0 : -(nI S) * nI W + GE (td M l) (pU M l x) 0 1 = -(nI S) * nI W := Int32.add_zero _
  rw [e0] at hL
  refine hL.trans (congrArg some ?_)
  rw [← pk_mul]
  grind
theorem l_fill {z : Nat → Nat} {u len : Nat} {v : Int32} (hl : len ≤ 500) : ∀ (m k fu : Nat) (M : Mem), k + m = len → m < fu → ∃ M', f_J7_fill_53178_5 z u len fu M v (nI k) (nI len) = some M' ∧ (∀ n, n ≠ u → M' n = M n) ∧ ∀ j, M' u j = if k ≤ j ∧ j < len then v else M u j := by
  intro m
  induction m with
  | zero =>
    intro k fu M h1 h2
    obtain ⟨fu, rfl⟩ : ∃ r, fu = r + 1 := ⟨fu - 1, by omega⟩
    exact ⟨M, by rw [f_J7_fill_53178_5, if_pos (nI_le (by omega) (by omega))], fun _ _ => rfl, fun j => by rw [if_neg (by omega)]⟩
  | succ m ih =>
    intro k fu M h1 h2
    obtain ⟨fu, rfl⟩ : ∃ r, fu = r + 1 := ⟨fu - 1, by omega⟩
    obtain ⟨M', g1, g2, g3⟩ := ih (k + 1) fu (mu M u k v) (by omega) (by omega)
    refine ⟨M', by rw [f_J7_fill_53178_5, if_neg (nI_ge (by omega) (by omega)), inb_nI (by omega) (by omega), s_ck, nI_clamp (by omega), nI_1]; exact g1, fun n hn => by rw [g2 n hn, mu_ne n hn], fun j => ?_⟩
    rw [g3 j]
    by_cases e : j = k
    · subst e; rw [if_neg (by omega), mu_s, if_pos (by omega)]
    · rw [mu_k e]
      by_cases c : k + 1 ≤ j ∧ j < len
      · rw [if_pos c, if_pos (by omega)]
      · rw [if_neg c, if_neg (by omega)]
theorem e_clear {z : Nat → Nat} {M : Mem} : ∃ M', f_X5_clear z M = some M' ∧ (∀ m, ¬ (m = 72 ∨ m = 73) → M' m = M m) ∧ ∀ j, j < 202 → M' 72 j = 0 ∧ M' 73 j = 0 := by
  obtain ⟨M1, a1, a2, a3⟩ := l_fill (z := z) (u := 72) (len := 202) (v := 0) (by decide) 202 0 1000 M (by omega) (by omega)
  obtain ⟨M2, b1, b2, b3⟩ := l_fill (z := z) (u := 73) (len := 202) (v := 0) (by decide) 202 0 1000 M1 (by omega) (by omega)
  have a1 : f_J7_fill_53178 z 72 202 M 0 = some M1 := a1
  have b1 : f_J7_fill_53178 z 73 202 M1 0 = some M2 := b1
  refine ⟨M2, by unfold f_X5_clear; rw [a1, s_bd1, b1]; rfl, fun m g => by rw [b2 m (by omega), a2 m (by omega)], fun j hj => ⟨?_, ?_⟩⟩
  · rw [b2 72 (by decide), a3 j, if_pos (by omega)]
  · rw [b3 j, if_pos (by omega)]
theorem l_ld {z : Nat → Nat} {M : Mem} {l S W u : Nat} (h : TR z M l S W) : ∀ (m k fu : Nat) (M' : Mem), (∀ m, ¬ (m = 72 ∨ m = 73) → M' m = M m) → (∀ j, 1 ≤ j → j < 202 → M' 72 j = HG (td M l) (pB M l (-1)) k j ∧ M' 73 j = HG (td M l) (pU M l (-1)) k j) → k + m = z 0 → m < fu → ∃ M2, f_X7_loadTrain_9 z u fu M' (nI l) (nI k) = bd1 (f_X5_sumFromEnd z M2 (M2 u 0) (M2 u 2)) (fun M2 => some M2) ∧ (∀ m, ¬ (m = 72 ∨ m = 73) → M2 m = M m) ∧ ∀ j, 1 ≤ j → j < 202 → M2 72 j = HG (td M l) (pB M l (-1)) (z 0) j ∧ M2 73 j = HG (td M l) (pU M l (-1)) (z 0) j := by
  obtain ⟨inv, hl, hS, S2, -⟩ := id h
  obtain ⟨hc, hd, ht, hw, hk, hy, -⟩ := id inv
  obtain ⟨hz0, hz1, hz2, c1, c2, c3, c4, c5, c6⟩ := id hc
  intro m
  induction m with
  | zero =>
    intro k fu M' R H h1 h2
    obtain ⟨fu, rfl⟩ : ∃ r, fu = r + 1 := ⟨fu - 1, by omega⟩
    have e : k = z 0 := by omega
    exact ⟨M', by rw [f_X7_loadTrain_9, R 50 (by omega), c2, if_pos (nI_le (by omega) (by omega))], R, by rw [← e]; exact H⟩
  | succ m ih =>
    intro k fu M' R H h1 h2
    obtain ⟨fu, rfl⟩ : ∃ r, fu = r + 1 := ⟨fu - 1, by omega⟩
    have hk0 : k < z 0 := by omega
    obtain ⟨t1, t2, t3⟩ := td_le hz1 hy hk0 hl hS S2
    have e5 : M' (100 + 4 * k) 5 = M 7 k := by rw [R _ (by omega)]; obtain ⟨_, -, -, -, q⟩ := hk.1 k hk0; exact q
    rw [f_X7_loadTrain_9, R 50 (by omega), c2, if_neg (nI_ge (by omega) (by omega)), e_kiA hz0 (by rw [R 50 (by omega)]; exact c2) hk0, s_bd1, s_mqs, e5, nI_1]
    by_cases c : M 7 k = nI l
    · obtain ⟨t4, t5, t6⟩ := t2 c
      obtain ⟨g1, g2, g3⟩ := e_kx inv hk0 (M' := M') R (wv M (-1) (td M l k))
      have ew : wv M (-1) (td M l k) = M 11 (min (td M l k / 10) 19) := by unfold wv; rw [if_pos rfl]
      have t6' : M' (100 + 4 * k) 6 = nI (td M l k) := by rw [R _ (by omega)]; exact t6
      rw [if_pos c, t6', e_wx hw (R 54 (by omega)) (by omega), s_bd1, ← ew, g1, s_bd1, g2, s_bd1, g3, s_bd1]
      unfold f_X5_hang
      have hwi : wi (nI (td M l k)) 1 200 = true := wi_t.mpr ⟨by rw [nI_toInt (by omega), show (1 : Int32).toInt = 1 from by decide]; omega, by rw [nI_toInt (by omega), show (200 : Int32).toInt = 200 from by decide]; omega⟩
      rw [e_within, s_bd1, hwi, b_t, inb_nI (show td M l k < 202 by omega) (by decide), s_ck, s_ck, nI_clamp (by omega), s_lt, s_ck, s_ck, s_lt, s_bd1]
      generalize hM2 : mu (mu M' 73 (td M l k) (M' 73 (td M l k) + S_pu M k (M 2 k).toNatClampNeg (wv M (-1) (td M l k)))) 72 (td M l k) (mu M' 73 (td M l k) (M' 73 (td M l k) + S_pu M k (M 2 k).toNatClampNeg (wv M (-1) (td M l k))) 72 (td M l k) + S_pb M k (M 2 k).toNatClampNeg (wv M (-1) (td M l k))) = M2
      refine ih (k + 1) fu M2 (fun m g => by rw [← hM2, mu2_ne m (by omega) (by omega), R m g]) (fun j j1 j2 => ?_) (by omega) (by omega)
      obtain ⟨H1, H2⟩ := H j j1 j2
      rw [HG_1, HG_1, ← hM2]
      by_cases e : j = td M l k
      · rw [if_pos e.symm, if_pos e.symm, ← H1, ← H2, e, mu_s, mu_ne 72 (by decide), mu_ne 73 (by decide), mu_s]
        exact ⟨rfl, rfl⟩
      · rw [if_neg (fun q => e q.symm), if_neg (fun q => e q.symm), Int32.add_zero, Int32.add_zero, mu_k e, mu_ne 72 (by decide), mu_ne 73 (by decide), mu_k e]
        exact ⟨H1, H2⟩
    · rw [if_neg c]
      refine ih (k + 1) fu M' R (fun j j1 j2 => ?_) (by omega) (by omega)
      rw [HG_1, HG_1, if_neg (by rw [t3 c]; omega), if_neg (by rw [t3 c]; omega), Int32.add_zero, Int32.add_zero]
      exact H j j1 j2
/-- across and upward at a step -/
def cA (M : Mem) (l : Nat) (x : Int32) (n s : Nat) : Int32 := GE (td M l) (pB M l x) n s
def cU (M : Mem) (l S W : Nat) (x : Int32) (n s : Nat) : Int32 := GE (td M l) (pU M l x) n s - nI ((S + 1 - s) * W)
theorem cU_s {M : Mem} {l S W n s : Nat} {x : Int32} (hs : s ≤ S) : HG (td M l) (pU M l x) n s + (cU M l S W x n (s + 1) - nI W) = cU M l S W x n s := by
  unfold cU
  rw [GE_s (s := s), show (S + 1 - s) * W = (S + 1 - (s + 1)) * W + W from by rw [show S + 1 - s = S + 1 - (s + 1) + 1 by omega, Nat.succ_mul], ← nI_add]
  grind
theorem l_sf {z : Nat → Nat} {M : Mem} {l S W : Nat} (h : TR z M l S W) : ∀ (k fu : Nat) (M' : Mem), k ≤ S → k < fu → (∀ m, ¬ (m = 72 ∨ m = 73) → M' m = M m) → (∀ j, 1 ≤ j → j ≤ k → M' 72 j = HG (td M l) (pB M l (-1)) (z 0) j ∧ M' 73 j = HG (td M l) (pU M l (-1)) (z 0) j) → (∀ j, k < j → j ≤ S + 1 → M' 72 j = cA M l (-1) (z 0) j ∧ M' 73 j = cU M l S W (-1) (z 0) j) → ∃ M2, f_X5_sumFromEnd_8 z fu M' (nI W) (nI k) = some M2 ∧ (∀ m, ¬ (m = 72 ∨ m = 73) → M2 m = M m) ∧ ∀ j, 1 ≤ j → j ≤ S + 1 → M2 72 j = cA M l (-1) (z 0) j ∧ M2 73 j = cU M l S W (-1) (z 0) j := by
  have S2 : S ≤ 200 := h.2.2.2.1
  intro k
  induction k with
  | zero =>
    intro fu M' hk hf R H1 H2
    obtain ⟨fu, rfl⟩ : ∃ r, fu = r + 1 := ⟨fu - 1, by omega⟩
    exact ⟨M', by rw [f_X5_sumFromEnd_8, if_pos (show nI 0 < 1 from by decide)], R, fun j j1 j2 => H2 j (by omega) j2⟩
  | succ k ih =>
    intro fu M' hk hf R H1 H2
    obtain ⟨fu, rfl⟩ : ∃ r, fu = r + 1 := ⟨fu - 1, by omega⟩
    obtain ⟨a1, a2⟩ := H1 (k + 1) (by omega) (by omega)
    obtain ⟨b1, b2⟩ := H2 (k + 2) (by omega) (by omega)
    have e72 : M' 72 (k + 1) + M' 72 (k + 1 + 1) = cA M l (-1) (z 0) (k + 1) := by rw [a1, b1]; unfold cA; exact GE_s.symm
    have e73 : M' 73 (k + 1) + (M' 73 (k + 1 + 1) - nI W) = cU M l S W (-1) (z 0) (k + 1) := by rw [a2, b2]; exact cU_s hk
    rw [f_X5_sumFromEnd_8, if_neg (show ¬ nI (k + 1) < 1 from nI_nlt (b := 1) (by omega) (by omega)), nI_1, inb_nI (show k + 1 < 202 by omega) (by decide), inb_nI (show k + 1 + 1 < 202 by omega) (by decide), s_ck, s_ck, s_ck, nI_clamp (by omega), nI_clamp (by omega), e73, s_lt, s_ck, s_ck, s_ck, mu_ne 72 (by decide), e72, s_lt, pk_m1]
    refine ih fu _ (by omega) (by omega) (fun m g => by rw [mu2_ne m (by omega) (by omega), R m g]) (fun j j1 j2 => ?_) (fun j j1 j2 => ?_)
    · rw [mu_k (show j ≠ k + 1 by omega), mu_ne 72 (by decide), mu_ne 73 (by decide), mu_k (show j ≠ k + 1 by omega)]
      exact H1 j j1 (by omega)
    · by_cases e : j = k + 1
      · subst e; rw [mu_s, mu_ne 73 (by decide), mu_s]; exact ⟨rfl, rfl⟩
      · rw [mu_k e, mu_ne 72 (by decide), mu_ne 73 (by decide), mu_k e]
        exact H2 j (by omega) j2
theorem td_all {z : Nat → Nat} {M : Mem} {l S W : Nat} (h : TR z M l S W) : ∀ i, i < z 0 → td M l i < S + 1 := by
  obtain ⟨inv, hl, hS, S2, -⟩ := h
  intro i hi
  have := (td_le inv.1.2.1 inv.2.2.2.2.2.1 hi hl hS S2).1
  omega
theorem e_load {z : Nat → Nat} {M : Mem} {l S W : Nat} (h : TR z M l S W) : ∃ M2, f_X7_loadTrain z (200 + 2 * l) M (nI l) = some M2 ∧ (∀ m, ¬ (m = 72 ∨ m = 73) → M2 m = M m) ∧ ∀ j, 1 ≤ j → j ≤ S + 1 → M2 72 j = cA M l (-1) (z 0) j ∧ M2 73 j = cU M l S W (-1) (z 0) j := by
  have hz := h.1.1.1
  have S2 : S ≤ 200 := h.2.2.2.1
  obtain ⟨M1, a1, a2, a3⟩ := e_clear (z := z) (M := M)
  obtain ⟨M2, b1, b2, b3⟩ := l_ld (u := 200 + 2 * l) h (z 0) 0 1000 M1 a2 (fun j j1 j2 => ⟨(a3 j j2).1, (a3 j j2).2⟩) (by omega) (by omega)
  have tt := td_all h
  have z1 : ∀ f, HG (td M l) f (z 0) (S + 1) = 0 := fun f => HG_0 fun i hi => by have := tt i hi; omega
  have g1 : ∀ f, GE (td M l) f (z 0) (S + 1) = 0 := fun f => GE_0 tt
  obtain ⟨M3, d1, d2, d3⟩ := l_sf h S 1000 M2 (Nat.le_refl _) (by omega) b2 (fun j j1 j2 => b3 j j1 (by omega)) (fun j j1 j2 => by
    have e : j = S + 1 := by omega
    subst e
    obtain ⟨q1, q2⟩ := b3 (S + 1) (by omega) (by omega)
    rw [q1, q2]
    unfold cA cU
    rw [z1, z1, g1, g1, Nat.sub_self, Nat.zero_mul]
    exact ⟨rfl, by decide⟩)
  refine ⟨M3, ?_, d2, d3⟩
  obtain ⟨-, -, -, -, -, -, u1, u2⟩ := h
  unfold f_X7_loadTrain
  rw [a1, s_bd1]
  refine b1.trans ?_
  unfold f_X5_sumFromEnd
  rw [b2 _ (by omega), u1, u2, show imin (nI S) 200 = nI S from by unfold imin; rw [if_neg (show ¬ (200 : Int32) < nI S from nI_nlt (a := 200) S2 (by decide))], d1]
  rfl
