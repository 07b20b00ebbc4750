/-! tensions and places; a train in the model -/
def te (a u : Int32) : Int32 := (f_X8_root (fun _ => 0) (fun _ _ => 0) (a.toInt64 * a.toInt64 + u.toInt64 * u.toInt64)).getD 0
theorem e_te {a u : Int32} (ha : ab a 11540769) (hu : ab u 11540769) : (∀ z M, f_X8_root z M (a.toInt64 * a.toInt64 + u.toInt64 * u.toInt64) = some (te a u)) ∧ ∃ r : Nat, te a u = nI r ∧ ∀ z M, f_X5_rootFrom z M (labs a.toInt64 + labs u.toInt64) (a.toInt64 * a.toInt64 + u.toInt64 * u.toInt64) = some (lN r) := by
  obtain ⟨r, -, r2, r3⟩ := e_rt (Nat.le_trans ha (by decide)) (Nat.le_trans hu (by decide))
  have e : te a u = nI r := by unfold te; rw [r2]; rfl
  exact ⟨fun z M => by rw [e]; exact r2 z M, r, e, r3⟩
def hu2 (a t : Int32) : Int32 := if t = 0 then 0 else Int64.toInt32 (100 * a.toInt64 / t.toInt64)
theorem t64_ne {t : Int32} (h : ¬ t = 0) : decide (¬ t.toInt64 = 0) = true := by
  refine decide_eq_true fun q => h (Int32.toInt_inj.mp ?_)
  have := congrArg Int64.toInt q
  rw [Int32.toInt_toInt64, show (0 : Int64).toInt = 0 from by decide] at this
  rw [this]; decide
theorem e_hun {z : Nat → Nat} {M : Mem} {a t : Int32} : f_X5_hundredths z M a t = some (hu2 a t) := by
  unfold f_X5_hundredths hu2
  by_cases c : t = 0
  · rw [if_pos c, if_pos c]
  · rw [if_neg c, if_neg c, t64_ne c, s_ck]
def cT (M : Mem) (l S W : Nat) (x : Int32) (n s : Nat) : Int32 := te (cA M l x n s) (cU M l S W x n s)
theorem ab_cA {z : Nat → Nat} {M : Mem} {l S W s : Nat} {x : Int32} (h : TR z M l S W) (hx : x = -1 ∨ ∃ v, v ≤ 99 ∧ x = nI v) : ab (cA M l x (z 0) s) 11540769 ∧ ab (cU M l S W x (z 0) s) 11540769 := by
  obtain ⟨inv, -, -, S2, -, W2, -⟩ := id h
  have hz := inv.1.1
  have hm : (S + 1 - s) * W ≤ 201 * 9 := Nat.mul_le_mul (by omega) W2
  exact ⟨(ab_GE hz (fun i hi => (ab_pU inv hi hx).2)).le (by decide), ab_sub (ab_GE hz (fun i hi => (ab_pU inv hi hx).1)) (ab_nI hm (by decide)) (by decide)⟩
theorem wi_s {s : Nat} (h1 : 1 ≤ s) (h2 : s ≤ 200) : wi (nI s) 1 200 = true := wi_t.mpr ⟨by rw [nI_toInt (by omega), show (1 : Int32).toInt = 1 from by decide]; omega, by rw [nI_toInt (by omega), show (200 : Int32).toInt = 200 from by decide]; omega⟩
theorem e_acr {z : Nat → Nat} {M : Mem} {s : Nat} (h1 : 1 ≤ s) (h2 : s ≤ 200) : f_X5_acrossAt z M (nI s) = some (M 72 s) ∧ f_X5_upAt z M (nI s) = some (M 73 s) := by
  unfold f_X5_acrossAt f_X5_upAt
  rw [e_within, s_bd1, s_bd1, wi_s h1 h2, b_t, b_t, inb_nI (by omega) (by decide), s_ck, s_ck, nI_clamp (by omega)]
  exact ⟨rfl, rfl⟩
theorem e_ten {z : Nat → Nat} {M M2 : Mem} {l S W s : Nat} (h : TR z M l S W) (H : ∀ j, 1 ≤ j → j ≤ S + 1 → M2 72 j = cA M l (-1) (z 0) j ∧ M2 73 j = cU M l S W (-1) (z 0) j) (h1 : 1 ≤ s) (h2 : s ≤ S) : f_X5_tensionAt z M2 (nI s) = some (cT M l S W (-1) (z 0) s) := by
  have S2 : S ≤ 200 := h.2.2.2.1
  obtain ⟨a1, a2⟩ := e_acr (z := z) (M := M2) h1 (show s ≤ 200 by omega)
  obtain ⟨b1, b2⟩ := H s h1 (by omega)
  obtain ⟨k1, k2⟩ := ab_cA (s := s) h (Or.inl rfl)
  obtain ⟨-, r, t1, t2⟩ := e_te k1 k2
  unfold f_X5_tensionAt
  rw [a1, a2, s_bd1, s_bd1, b1, b2, t2, s_bd1, lN_i]
  unfold cT
  rw [t1]
def fA (M : Mem) (l S W : Nat) (x : Int32) (n : Nat) (j : Nat) : Int32 := hu2 (cA M l x n (j + 1)) (cT M l S W x n (j + 1))
def fU (M : Mem) (l S W : Nat) (x : Int32) (n : Nat) (j : Nat) : Int32 := hu2 (cU M l S W x n (j + 1)) (cT M l S W x n (j + 1))
theorem l_pa {z : Nat → Nat} {M M2 : Mem} {l S W s : Nat} (h : TR z M l S W) (H : ∀ j, 1 ≤ j → j ≤ S + 1 → M2 72 j = cA M l (-1) (z 0) j ∧ M2 73 j = cU M l S W (-1) (z 0) j) (h2 : s ≤ S) : ∀ (m k fu : Nat), k + m = s → m < fu → f_X5_placeAcross_4 z M2 fu (nI s) (bx_sum (fA M l S W (-1) (z 0)) k) (nI (k + 1)) = some (bx_sum (fA M l S W (-1) (z 0)) s) ∧ f_X5_placeUp_4 z M2 fu (nI s) (bx_sum (fU M l S W (-1) (z 0)) k) (nI (k + 1)) = some (bx_sum (fU M l S W (-1) (z 0)) s) := by
  have S2 : S ≤ 200 := h.2.2.2.1
  intro m
  induction m with
  | zero =>
    intro k fu g1 g2
    obtain ⟨fu, rfl⟩ : ∃ r, fu = r + 1 := ⟨fu - 1, by omega⟩
    have e : k = s := by omega
    rw [f_X5_placeAcross_4, f_X5_placeUp_4, if_pos (nI_lt (by omega) (by omega)), if_pos (nI_lt (by omega) (by omega)), e]
    exact ⟨rfl, rfl⟩
  | succ m ih =>
    intro k fu g1 g2
    obtain ⟨fu, rfl⟩ : ∃ r, fu = r + 1 := ⟨fu - 1, by omega⟩
    obtain ⟨a1, a2⟩ := e_acr (z := z) (M := M2) (s := k + 1) (by omega) (by omega)
    obtain ⟨b1, b2⟩ := H (k + 1) (by omega) (by omega)
    rw [f_X5_placeAcross_4, f_X5_placeUp_4, if_neg (nI_nlt (by omega) (by omega)), if_neg (nI_nlt (by omega) (by omega)), a1, a2, s_bd1, s_bd1, e_ten h H (by omega) (by omega), s_bd1, s_bd1, e_hun, e_hun, s_bd1, s_bd1, b1, b2, nI_1]
    exact ih (k + 1) fu (by omega) (by omega)
/-! the model -/
/-- a memory whose model is M's, but for the train's arrays -/
def RY (z : Nat → Nat) (M My : Mem) : Prop := (∀ m, m < 50 → ¬ (18 ≤ m ∧ m ≤ 22) → My m = M m) ∧ ∀ i p, i < z 0 → KV M i p → KV My i p
theorem RY.k {z : Nat → Nat} {M My My' : Mem} (h : RY z M My) (hz : z 0 ≤ 20) (R : ∀ m, ¬ (18 ≤ m ∧ m ≤ 22) → My' m = My m) : RY z M My' := ⟨fun m g1 g2 => by rw [R m g2, h.1 m g1 g2], fun i p hi hV => (h.2 i p hi hV).r (fun n _ _ => R n (by omega)) (fun n _ _ => R n (by omega))⟩
theorem RY.of {z : Nat → Nat} {M My : Mem} (hz : z 0 ≤ 20) (R : ∀ m, ¬ (m = 72 ∨ m = 73) → My m = M m) : RY z M My := ⟨fun m g1 g2 => R m (by omega), fun i p hi hV => hV.r (fun n _ _ => R n (by omega)) (fun n _ _ => R n (by omega))⟩
theorem e_ky {z : Nat → Nat} {M My : Mem} {i : Nat} (inv : Inv z M) (hi : i < z 0) (hY : RY z M My) (v : Int32) : f_X8_pullUp z My (nI i) v = some (S_pu M i (M 2 i).toNatClampNeg v) ∧ f_X8_pullBack z My (nI i) v = some (S_pb M i (M 2 i).toNatClampNeg v) := by
  obtain ⟨hc, hd, ht, hw, hk, -⟩ := id inv
  have hz := hc.1
  obtain ⟨p, hV, hb, hkn, -⟩ := hk.1 i hi
  have h6 := hV.1
  have ep : (M 2 i).toNatClampNeg = p := by rw [hV.2.1, nI_clamp (by omega)]
  have hV' : KV My i p := hY.2 i p hi hV
  obtain ⟨s1, s2, s3⟩ := S_pu_c (M := M) (M' := My) (i := i) (p := p) (v := v) (fun m g => hY.1 m (by omega) (by omega))
  rw [ep, ← s1, ← s2]
  exact ⟨e_m_pu (by omega) hV', e_m_pb (by omega) hV'⟩
theorem e_band {z : Nat → Nat} {M : Mem} {s : Nat} (hs : s ≤ 200) : f_X8_windBand z M (nI s) = some (nI (min (s / 10) 19)) := by
  unfold f_X8_windBand
  rw [show nI s / 10 = nI (s / 10) from pk_div (d := 10) (by omega) (by decide) (by decide)]
  by_cases c : 20 ≤ s / 10
  · rw [if_pos (show (20 : Int32) ≤ nI (s / 10) from nI_le (a := 20) c (by omega)), Nat.min_eq_right (by omega)]; rfl
  · rw [if_neg (show ¬ (20 : Int32) ≤ nI (s / 10) from nI_ge (b := 20) (by omega) (by decide)), Nat.min_eq_left (by omega)]
theorem l_s2 {z : Nat → Nat} {l x : Int32} {My0 : Mem} : ∀ (m k fu : Nat) (My : Mem), (∀ m, ¬ (18 ≤ m ∧ m ≤ 22) → My m = My0 m) → (∀ j, j < k → My 18 j = 0 ∧ My 19 j = 0) → k + m = 201 → m < fu → ∃ My', f_X8_stand_2 z fu My l x (nI k) = f_X8_stand_31 z 1000 My' l x 0 ∧ (∀ m, ¬ (18 ≤ m ∧ m ≤ 22) → My' m = My0 m) ∧ (∀ j, j < 201 → My' 18 j = 0 ∧ My' 19 j = 0) := by
  intro m
  induction m with
  | zero =>
    intro k fu My R H h1 h2
    obtain ⟨fu, rfl⟩ : ∃ r, fu = r + 1 := ⟨fu - 1, by omega⟩
    have e : k = 201 := by omega
    subst e
    exact ⟨My, by rw [f_X8_stand_2, if_pos (show (200 : Int32) < nI 201 from by decide)], R, H⟩
  | succ m ih =>
    intro k fu My R H h1 h2
    obtain ⟨fu, rfl⟩ : ∃ r, fu = r + 1 := ⟨fu - 1, by omega⟩
    rw [f_X8_stand_2, if_neg (show ¬ (200 : Int32) < nI k from nI_nlt (a := 200) (by omega) (by decide)), inb_nI (show k < 201 by omega) (by decide), s_ck, s_ck, nI_clamp (by omega), s_lt, nI_1]
    refine ih (k + 1) fu _ (fun m g => by rw [mu2_ne m (by omega) (by omega), R m g]) (fun j hj => ?_) (by omega) (by omega)
    by_cases e : j = k
    · subst e; rw [mu_s, mu_ne 18 (by decide), mu_s]; exact ⟨rfl, rfl⟩
    · rw [mu_k e, mu_ne 18 (by decide), mu_ne 19 (by decide), mu_k e]; exact H j (by omega)
theorem l_s31 {z : Nat → Nat} {M : Mem} {l S W : Nat} {x : Int32} (h : TR z M l S W) (hx : x = -1 ∨ ∃ v, v ≤ 99 ∧ x = nI v) {My0 : Mem} (hY : RY z M My0) : ∀ (m k fu : Nat) (My : Mem), (∀ m, ¬ (18 ≤ m ∧ m ≤ 22) → My m = My0 m) → (∀ j, 1 ≤ j → j < 201 → My 18 j = HG (td M l) (pB M l x) k j ∧ My 19 j = HG (td M l) (pU M l x) k j) → k + m = z 0 → m < fu → ∃ My', f_X8_stand_31 z fu My (nI l) x (nI k) = f_X8_stand_131 z 1000 My' (nI l) (nI S) ∧ (∀ m, ¬ (18 ≤ m ∧ m ≤ 22) → My' m = My0 m) ∧ ∀ j, 1 ≤ j → j < 201 → My' 18 j = HG (td M l) (pB M l x) (z 0) j ∧ My' 19 j = HG (td M l) (pU M l x) (z 0) j := by
  obtain ⟨inv, hl, hS, S2, -⟩ := id h
  obtain ⟨hc, hd, ht, hw, hk, hy, -⟩ := id inv
  obtain ⟨hz0, hz1, hz2, c1, c2, c3, c4, c5, c6⟩ := id hc
  intro m
  induction m with
  | zero =>
    intro k fu My R H h1 h2
    have R0 : ∀ m, m < 50 → ¬ (18 ≤ m ∧ m ≤ 22) → My m = M m := fun m g1 g2 => by rw [R m g2, hY.1 m g1 g2]
    obtain ⟨fu, rfl⟩ : ∃ r, fu = r + 1 := ⟨fu - 1, by omega⟩
    have e : k = z 0 := by omega
    exact ⟨My, by rw [f_X8_stand_31, R0 0 (by omega) (by omega), c1, if_pos (nI_le (by omega) (by omega)), inb_nI (show l < 10 by omega) (by decide), s_ck, nI_clamp (by omega), R0 13 (by omega) (by omega), hS], R, by rw [← e]; exact H⟩
  | succ m ih =>
    intro k fu My R H h1 h2
    have R0 : ∀ m, m < 50 → ¬ (18 ≤ m ∧ m ≤ 22) → My m = M m := fun m g1 g2 => by rw [R m g2, hY.1 m g1 g2]
    obtain ⟨fu, rfl⟩ : ∃ r, fu = r + 1 := ⟨fu - 1, by omega⟩
    have hk0 : k < z 0 := by omega
    obtain ⟨t1, t2, t3⟩ := td_le hz1 hy hk0 hl hS S2
    rw [f_X8_stand_31, R0 0 (by omega) (by omega), c1, if_neg (nI_ge (by omega) (by omega)), inb_nI (show k < 20 by omega) (by decide), s_ck, nI_clamp (show k < 2 ^ 31 by omega), R0 7 (by omega) (by omega), nI_1]
    by_cases c : M 7 k = nI l
    · obtain ⟨t4, t5, t6⟩ := t2 c
      have K : ∀ v, wv M x (td M l k) = v → ∃ My', mu (mu My 18 (td M l k) (My 18 (td M l k) + S_pb M k (M 2 k).toNatClampNeg v)) 19 (td M l k) (My 19 (td M l k) + S_pu M k (M 2 k).toNatClampNeg v) = My' ∧ (∀ m, ¬ (18 ≤ m ∧ m ≤ 22) → My' m = My0 m) ∧ (∀ j, 1 ≤ j → j < 201 → My' 18 j = HG (td M l) (pB M l x) (k + 1) j ∧ My' 19 j = HG (td M l) (pU M l x) (k + 1) j) := by
        intro v ev
        refine ⟨_, rfl, fun m g => by rw [mu2_ne m (by omega) (by omega), R m g], fun j j1 j2 => ?_⟩
        obtain ⟨H1, H2⟩ := H j j1 j2
        rw [HG_1, HG_1]
        by_cases e : j = td M l k
        · rw [if_pos e.symm, if_pos e.symm, ← H1, ← H2, e, mu_s, mu_ne 18 (by decide), mu_s, ← ev]
          exact ⟨rfl, rfl⟩
        · rw [if_neg (fun q => e q.symm), if_neg (fun q => e q.symm), Int32.add_zero, Int32.add_zero, mu_k e, mu_ne 18 (by decide), mu_ne 19 (by decide), mu_k e]
          exact ⟨H1, H2⟩
      have R2 : ∀ w m, ¬ (18 ≤ m ∧ m ≤ 22) → mu My 18 (td M l k) w m = My0 m := fun w m g => by rw [mu_ne m (by omega), R m g]
      have R3 : ∀ w, mu My 18 (td M l k) w 8 = M 8 := fun w => by rw [R2 w 8 (by omega), hY.1 8 (by omega) (by omega)]
      rw [if_pos c, R0 8 (by omega) (by omega), t5, inb_nI (show td M l k < 201 by omega) (by decide)]
      simp only [s_ck, nI_clamp (show td M l k < 2 ^ 31 by omega), s_lt]
      rcases hx with rfl | ⟨v, hv, rfl⟩
      · have ew : wv M (-1) (td M l k) = M 11 (min (td M l k / 10) 19) := by unfold wv; rw [if_pos rfl]
        obtain ⟨My', k1, k2, k3⟩ := K _ ew
        rw [if_neg ng_1, e_band (by omega), s_bd1, inb_nI (show min (td M l k / 10) 19 < 20 by omega) (by decide), s_ck, nI_clamp (by omega), R0 11 (by omega) (by omega), (e_ky inv hk0 (hY.k hz0 R) _).2, s_bd1, R3 _, t5, inb_nI (show td M l k < 201 by omega) (by decide), s_ck, (e_ky inv hk0 (hY.k hz0 (R2 _)) _).1, s_bd1, s_ck, nI_clamp (by omega), mu_ne 19 (by decide), k1]
        exact ih (k + 1) fu My' k2 k3 (by omega) (by omega)
      · have ew : wv M (nI v) (td M l k) = nI v := by unfold wv; rw [if_neg (nI_m1ne (by omega))]
        obtain ⟨My', k1, k2, k3⟩ := K _ ew
        rw [if_pos (nI_pos' (by omega)), (e_ky inv hk0 (hY.k hz0 R) _).2, s_bd1, R3 _, t5, inb_nI (show td M l k < 201 by omega) (by decide), s_ck, (e_ky inv hk0 (hY.k hz0 (R2 _)) _).1, s_bd1, s_ck, nI_clamp (by omega), mu_ne 19 (by decide), k1]
        exact ih (k + 1) fu My' k2 k3 (by omega) (by omega)
    · rw [if_neg c]
      refine ih (k + 1) fu My R (fun j j1 j2 => ?_) (by omega) (by omega)
      rw [HG_1, HG_1, if_neg (by rw [t3 c]; omega), if_neg (by rw [t3 c]; omega), Int32.add_zero, Int32.add_zero]
      exact H j j1 j2
