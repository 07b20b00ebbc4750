/-! standing and steady -/
theorem l_x_st {z : Nat → Nat} {M : Mem} {i p : Nat} {v kn : Int32} (hT : TV M) (hV : KV M i p) : ∀ (k q fu : Nat), q + (k + 1) = 18 → k < fu → f_X2_standingAngle_23 z (100 + 4 * i) M fu v kn (S_tn M i p v kn q) (nI q) = some (s_st (S_tn M i p v kn) (k + 1) q) := by
  intro k
  induction k with
  | zero =>
    intro q fu h1 h2
    obtain ⟨fu, rfl⟩ : ∃ r, fu = r + 1 := ⟨fu - 1, by omega⟩
    have e : q = 17 := by omega
    subst e
    rw [f_X2_standingAngle_23, if_pos (show (17 : Int32) ≤ nI 17 from by decide)]
    unfold s_st
    by_cases c : S_tn M i p v kn 17 = 0
    · rw [if_pos c, if_pos c]; rfl
    · rw [if_neg c, if_neg c, if_pos rfl]
  | succ k ih =>
    intro q fu h1 h2
    obtain ⟨fu, rfl⟩ : ∃ r, fu = r + 1 := ⟨fu - 1, by omega⟩
    have hrec := ih (q + 1) fu (by omega) (by omega)
    rw [f_X2_standingAngle_23, if_neg (show ¬ (17 : Int32) ≤ nI q from nI_ge (a := q) (b := 17) (by omega) (by decide)), nI_1, e_x_turn hT hV (by omega), s_bd1]
    rw [s_st]
    by_cases c : S_tn M i p v kn q = 0
    · rw [if_pos c, if_pos c]
    · rw [if_neg c, if_neg c, if_neg (show ¬ q = 17 by omega)]
      rcases z_tri c with ⟨a1, a2⟩ | ⟨a1, a2⟩
      · rw [if_neg (gt_le.mp a1)]
        by_cases d : S_tn M i p v kn (q + 1) < 0
        · rw [if_pos d, if_pos (Or.inl ⟨a1, d⟩)]
        · rw [if_neg d, if_pos (Decidable.not_not.mp fun q => a2 (lt_ge.mpr q)), if_neg (fun h => h.elim (fun h => d h.2) (fun h => a2 h.1)), hrec]
      · rw [if_pos (Decidable.not_not.mp fun q => a2 (gt_le.mpr q)), if_neg (lt_ge.mp a1)]
        by_cases d : S_tn M i p v kn (q + 1) ≤ 0
        · rw [if_pos d, if_neg (fun h => h.elim (fun h => a2 h.1) (fun h => gt_le.mp h.2 d)), hrec]
        · rw [if_neg d, if_pos (Or.inr ⟨a1, gt_le.mpr d⟩)]
theorem l_m_st {z : Nat → Nat} {M : Mem} {i p : Nat} {v : Int32} (hi : i < 20) (hV : KV M i p) : ∀ (k q fu : Nat), q + k = 18 → k < fu → f_X8_standsAt_14 z M fu (nI i) v (nI q) = some (s_st (S_tn M i p v (M 6 i)) k q) := by
  intro k
  induction k with
  | zero =>
    intro q fu h1 h2
    obtain ⟨fu, rfl⟩ : ∃ r, fu = r + 1 := ⟨fu - 1, by omega⟩
    have e : q = 18 := by omega
    subst e
    rw [f_X8_standsAt_14, if_pos (show (18 : Int32) ≤ nI 18 from by decide)]
    rfl
  | succ k ih =>
    intro q fu h1 h2
    obtain ⟨fu, rfl⟩ : ∃ r, fu = r + 1 := ⟨fu - 1, by omega⟩
    have hrec := ih (q + 1) fu (by omega) (by omega)
    rw [f_X8_standsAt_14, if_neg (show ¬ (18 : Int32) ≤ nI q from nI_ge (a := q) (b := 18) (by omega) (by decide)), e_m_turn hi hV (by omega), s_bd1, s_st]
    by_cases c : S_tn M i p v (M 6 i) q = 0
    · rw [if_pos c, if_pos c]
    · rw [if_neg c, if_neg c]
      by_cases c2 : q = 17
      · have e : k = 0 := by omega
        subst c2; subst e
        rw [if_pos (show nI 17 = 17 from rfl), if_pos rfl, nI_1, hrec]
        rfl
      · rw [if_neg (show ¬ nI q = 17 from fun e => c2 ((nI_eq (a := q) (b := 17) (by omega) (by decide)).mp e)), if_neg c2, nI_1, e_m_turn hi hV (by omega), s_bd1]
        rcases z_tri c with ⟨a1, a2⟩ | ⟨a1, a2⟩
        · rw [if_neg (gt_le.mp a1)]
          by_cases d : S_tn M i p v (M 6 i) (q + 1) < 0
          · rw [if_pos d, if_pos (Or.inl ⟨a1, d⟩)]
          · rw [if_neg d, if_pos (Decidable.not_not.mp fun q => a2 (lt_ge.mpr q)), if_neg (fun h => h.elim (fun h => d h.2) (fun h => a2 h.1)), hrec]
        · rw [if_pos (Decidable.not_not.mp fun q => a2 (gt_le.mpr q)), if_neg (lt_ge.mp a1)]
          by_cases d : S_tn M i p v (M 6 i) (q + 1) ≤ 0
          · rw [if_pos d, if_neg (fun h => h.elim (fun h => a2 h.1) (fun h => gt_le.mp h.2 d)), hrec]
          · rw [if_neg d, if_pos (Or.inr ⟨a1, gt_le.mpr d⟩)]
/-- the angle at which a kite stands -/
def S_st (M : Mem) (i p : Nat) (v kn : Int32) : Int32 := if p = 0 then -2 else s_st (S_tn M i p v kn) 18 0
theorem S_st_r (M : Mem) (i p : Nat) (v kn : Int32) : S_st M i p v kn = -2 ∨ ∃ r, r < 18 ∧ S_st M i p v kn = nI r := by
  unfold S_st
  by_cases h : p = 0
  · rw [if_pos h]; exact Or.inl rfl
  · rw [if_neg h]; exact s_st_r _ 18 0 rfl
theorem nI_z {p : Nat} (h : p < 2 ^ 31) : nI p = 0 ↔ p = 0 := nI_eq (a := p) (b := 0) h (by decide)
theorem e_x_st {z : Nat → Nat} {M : Mem} {i p : Nat} {v kn : Int32} (hT : TV M) (hV : KV M i p) : f_X2_standingAngle z (100 + 4 * i) M v kn = some (S_st M i p v kn) := by
  have h6 := hV.1
  unfold f_X2_standingAngle S_st
  rw [hV.2.2.1]
  by_cases h : p = 0
  · rw [if_pos ((nI_z (by omega)).mpr h), if_pos h]
  · rw [if_neg (fun e => h ((nI_z (by omega)).mp e)), if_neg h, show (0 : Int32) = nI 0 from rfl, e_x_turn hT hV (by omega), s_bd1]
    exact l_x_st hT hV 17 0 1000 rfl (by omega)
theorem e_m_st {z : Nat → Nat} {M : Mem} {i p : Nat} {v : Int32} (hi : i < 20) (hV : KV M i p) : f_X8_standsAt z M (nI i) v = some (S_st M i p v (M 6 i)) := by
  have h6 := hV.1
  unfold f_X8_standsAt S_st
  rw [inb_nI hi (by decide), s_ck, nI_clamp (by omega), hV.2.1]
  by_cases h : p = 0
  · rw [if_pos ((nI_z (by omega)).mpr h), if_pos h]
  · rw [if_neg (fun e => h ((nI_z (by omega)).mp e)), if_neg h]
    exact l_m_st hi hV 18 0 1000 rfl (by omega)
def S_sd (M : Mem) (i p : Nat) (v kn : Int32) (q : Nat) : Bool := decide (0 ≤ S_tn M i p v kn (q - 1)) && decide (S_tn M i p v kn (if q = 17 then 17 else q + 1) ≤ 0)
theorem e_sd {x y : Int32} {r2 : Option Int32} (h : r2 = some y) : (if x < 0 then some false else bd1 r2 (fun r => if 0 < r then some false else some true)) = some (decide (0 ≤ x) && decide (y ≤ 0)) := by
  subst h
  rw [s_bd1]
  by_cases h1 : x < 0
  · rw [if_pos h1]; simp [lt_ge.mp h1]
  · have h1' : 0 ≤ x := Decidable.not_not.mp fun q => h1 (lt_ge.mpr q)
    rw [if_neg h1]
    by_cases h2 : 0 < y
    · rw [if_pos h2]; simp [gt_le.mp h2]
    · have h2' : y ≤ 0 := Decidable.not_not.mp fun q => h2 (gt_le.mpr q)
      rw [if_neg h2]; simp [h1', h2']
theorem e_x_sd {z : Nat → Nat} {M : Mem} {i p q : Nat} {v kn : Int32} (hT : TV M) (hV : KV M i p) (hq : q < 18) : f_X2_isSteadyAt z (100 + 4 * i) M v (nI q) kn = some (S_sd M i p v kn q) := by
  have e1 : imax (nI q - 1) 0 = nI (q - 1) := by
    unfold imax
    by_cases c : q = 0
    · subst c; decide
    · obtain ⟨r, rfl⟩ : ∃ r, q = r + 1 := ⟨q - 1, by omega⟩
      rw [nI_pred, if_neg (nI_pos (by omega))]; rfl
  have e2 : imin (nI q + 1) 17 = nI (if q = 17 then 17 else q + 1) := by
    unfold imin
    rw [nI_1]
    by_cases c : q = 17
    · subst c; decide
    · rw [if_neg (show ¬ (17 : Int32) < nI (q + 1) from nI_nlt (a := 17) (b := q + 1) (by omega) (by decide)), if_neg c]
  unfold f_X2_isSteadyAt S_sd
  rw [e1, e_x_turn hT hV (by omega), s_bd1, e2]
  exact e_sd (e_x_turn hT hV (by split <;> omega))
theorem e_m_sd {z : Nat → Nat} {M : Mem} {i p q : Nat} {v : Int32} (hi : i < 20) (hV : KV M i p) (hq : q < 18) : f_X8_isSteady z M (nI i) v (nI q) = some (S_sd M i p v (M 6 i) q) := by
  have key : ∀ (a b : Nat), a < 18 → b < 18 → f_X8_isSteady_26 z M (nI b) (nI i) v (nI a) = some (decide (0 ≤ S_tn M i p v (M 6 i) a) && decide (S_tn M i p v (M 6 i) b ≤ 0)) := by
    intro a b ha hb
    unfold f_X8_isSteady_26
    rw [e_m_turn hi hV ha, s_bd1]
    exact e_sd (e_m_turn hi hV hb)
  unfold f_X8_isSteady S_sd
  by_cases c0 : q = 0
  · subst c0
    rw [if_pos (show nI 0 = 0 from rfl), if_neg (show ¬ nI 0 = 17 from by decide)]
    exact key 0 1 (by omega) (by omega)
  · rw [if_neg (fun e => c0 ((nI_z (by omega)).mp e))]
    obtain ⟨r, rfl⟩ : ∃ r, q = r + 1 := ⟨q - 1, by omega⟩
    rw [nI_pred, nI_1]
    by_cases c : r + 1 = 17
    · have e : r = 16 := by omega
      subst e
      rw [if_pos (show nI (16 + 1) = 17 from rfl), if_pos rfl]
      exact key 16 17 (by omega) (by omega)
    · rw [if_neg (show ¬ nI (r + 1) = 17 from fun e => c ((nI_eq (a := r + 1) (b := 17) (by omega) (by decide)).mp e)), if_neg c]
      exact key r (r + 1 + 1) (by omega) (by omega)
