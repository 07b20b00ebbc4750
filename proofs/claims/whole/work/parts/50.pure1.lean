/-! PURE: numbers, the small functions -/
def wi (v lo hi : Int32) : Bool := decide (lo.toInt ≤ v.toInt) && decide (v.toInt ≤ hi.toInt)
theorem wi_t {v lo hi : Int32} : wi v lo hi = true ↔ lo.toInt ≤ v.toInt ∧ v.toInt ≤ hi.toInt := by simp [wi]
theorem wi_f {v lo hi : Int32} : wi v lo hi = false ↔ ¬ (lo.toInt ≤ v.toInt ∧ v.toInt ≤ hi.toInt) := by
  rw [← Bool.not_eq_true, wi_t]
theorem e_wi {v lo hi : Int32} : (if v < lo then some false else if hi < v then some false else some true) = some (wi v lo hi) := by
  by_cases h1 : v < lo
  · rw [if_pos h1, wi_f.mpr (by rw [Int32.lt_iff_toInt_lt] at h1; omega)]
  · by_cases h2 : hi < v
    · rw [if_neg h1, if_pos h2, wi_f.mpr (by rw [Int32.lt_iff_toInt_lt] at h2; omega)]
    · rw [if_neg h1, if_neg h2, wi_t.mpr (by rw [Int32.lt_iff_toInt_lt] at h1 h2; omega)]
theorem e_within {z : Nat → Nat} {M : Mem} {v lo hi : Int32} : f_X7_within z M v lo hi = some (wi v lo hi) := e_wi
theorem e_in {z : Nat → Nat} {M : Mem} {v lo hi : Int32} : f_X8_in z M v lo hi = some (wi v lo hi) := e_wi
theorem s_bd1 {α β : Type} {r : α} {g : α → Option β} : bd1 (some r) g = g r := rfl
theorem s_bd2 {α γ β : Type} {r : α} {t : γ} {g : α → γ → Option β} : bd2 (some (r, t)) g = g r t := rfl
theorem s_ck {α : Type} {e : Option α} : ck true e = e := rfl
theorem s_mqn {α : Type} {e1 : Option α} {e2 : Nat → Option α} : mq none e1 e2 = e1 := rfl
theorem s_mqs {α : Type} {n : Nat} {e1 : Option α} {e2 : Nat → Option α} : mq (some n) e1 e2 = e2 n := rfl
theorem s_lt {α β : Type} {x : α} {f : α → β} : lt x f = f x := rfl
theorem inb_nI {j n : Nat} (h : j < n) (hn : n < 2 ^ 31) : inb (nI j) n = true := by
  unfold inb
  rw [nI_toInt (by omega)]
  simp [h]
theorem inb_of {x : Int32} {n : Nat} (h0 : 0 ≤ x.toInt) (h : x.toInt < n) : inb x n = true := by simp [inb, h0, h]
theorem nI_ofI {x : Int32} (h : 0 ≤ x.toInt) : ∃ j : Nat, x = nI j ∧ (j : Int) = x.toInt ∧ j < 2 ^ 31 := by
  obtain ⟨j, hj, e⟩ := nI_of (x := x) (by rw [Int32.lt_iff_toInt_lt]; simp; omega)
  exact ⟨j, e, by rw [e, nI_toInt hj], hj⟩
theorem nI_m1 {n : Nat} (h : n < 2 ^ 30) : (nI n - 1).toInt = (n : Int) - 1 := pk_sub_toInt (a := n) (b := 1) h (by decide)
/-- a number of a row of n things, or none -/
theorem wi_cnt {n : Nat} (hn : n < 2 ^ 30) (k : Int32) : (∃ j : Nat, j < n ∧ k = nI j ∧ wi k 0 (nI n - 1) = true) ∨ wi k 0 (nI n - 1) = false := by
  cases h : wi k 0 (nI n - 1) with
  | false => exact Or.inr rfl
  | true =>
    obtain ⟨h1, h2⟩ := wi_t.mp h
    rw [nI_m1 hn] at h2
    obtain ⟨j, e, ej, -⟩ := nI_ofI (x := k) h1
    exact Or.inl ⟨j, by omega, e, rfl⟩
theorem e_kiteAt {z : Nat → Nat} {M : Mem} {k : Int32} (hz : z 0 ≤ 20) (hc : M 50 2 = nI (z 0)) (hm : M 0 1 = nI (z 0)) : (∃ j : Nat, j < z 0 ∧ k = nI j ∧ f_X7_kiteAt z M k = some (some (100 + 4 * j)) ∧ ∀ z', f_X8_isKite z' M k = some true) ∨ (f_X7_kiteAt z M k = some none ∧ ∀ z', f_X8_isKite z' M k = some false) := by
  unfold f_X7_kiteAt f_X8_isKite
  simp only [e_within, e_in, s_bd1, hc, hm]
  rcases wi_cnt (n := z 0) (by omega) k with ⟨j, hj, rfl, hw⟩ | hw
  · left
    refine ⟨j, hj, rfl, ?_, fun _ => by rw [hw]⟩
    rw [hw, if_pos rfl, inb_nI (by omega) (by decide), s_ck, nI_clamp (by omega), if_pos hj]
  · right
    rw [hw]
    exact ⟨rfl, fun _ => rfl⟩
theorem e_lineAt {z : Nat → Nat} {M : Mem} {k : Int32} (hz : z 1 ≤ 10) (hc : M 50 5 = nI (z 1)) (hm : M 0 12 = nI (z 1)) : (∃ j : Nat, j < z 1 ∧ k = nI j ∧ f_X7_lineAt z M k = some (some (200 + 2 * j)) ∧ ∀ z', f_X8_isLine z' M k = some true) ∨ (f_X7_lineAt z M k = some none ∧ ∀ z', f_X8_isLine z' M k = some false) := by
  unfold f_X7_lineAt f_X8_isLine
  simp only [e_within, e_in, s_bd1, hc, hm]
  rcases wi_cnt (n := z 1) (by omega) k with ⟨j, hj, rfl, hw⟩ | hw
  · left
    refine ⟨j, hj, rfl, ?_, fun _ => by rw [hw]⟩
    rw [hw, if_pos rfl, inb_nI (by omega) (by decide), s_ck, nI_clamp (by omega), if_pos hj]
  · right
    rw [hw]
    exact ⟨rfl, fun _ => rfl⟩
theorem e_flyerAt {z : Nat → Nat} {M : Mem} {k : Int32} (hz : z 2 ≤ 10) (hc : M 50 8 = nI (z 2)) (hm : M 0 23 = nI (z 2)) : (∃ j : Nat, j < z 2 ∧ k = nI j ∧ f_X7_flyerAt z M k = some (some (300 + 1 * j)) ∧ ∀ z', f_X8_isFlyer z' M k = some true) ∨ (f_X7_flyerAt z M k = some none ∧ ∀ z', f_X8_isFlyer z' M k = some false) := by
  unfold f_X7_flyerAt f_X8_isFlyer
  simp only [e_within, e_in, s_bd1, hc, hm]
  rcases wi_cnt (n := z 2) (by omega) k with ⟨j, hj, rfl, hw⟩ | hw
  · left
    refine ⟨j, hj, rfl, ?_, fun _ => by rw [hw]⟩
    rw [hw, if_pos rfl, inb_nI (by omega) (by decide), s_ck, nI_clamp (by omega), if_pos hj]
  · right
    rw [hw]
    exact ⟨rfl, fun _ => rfl⟩
/-! sums of a kite's panels -/
def pr (ar lf v : Int32) : Int32 := ar * lf * v * v / 1000
def t_tn (ar am hv : Nat → Int32) (lf v kn : Int32) : Nat → Int32 := fun j => (pr (ar j) lf v - hv j) * (am j - kn)
theorem l_x_turn {z : Nat → Nat} {M : Mem} {n p : Nat} {v kn lf : Int32} (hp : M n 3 = nI p) (h6 : p ≤ 6) : ∀ (k fu j : Nat), j + k = p → k < fu → f_X2_turningAt_13 z n M fu v kn lf (bx_sum (t_tn (M (n + 1)) (M (n + 2)) (M (n + 3)) lf v kn) j) (nI j) = some (bx_sum (t_tn (M (n + 1)) (M (n + 2)) (M (n + 3)) lf v kn) p) := by
  intro k
  induction k with
  | zero =>
    intro fu j h1 h2
    obtain ⟨fu, rfl⟩ : ∃ q, fu = q + 1 := ⟨fu - 1, by omega⟩
    have e : j = p := by omega
    subst e
    rw [f_X2_turningAt_13, hp, if_pos (nI_le (Nat.le_refl _) (by omega))]
  | succ k ih =>
    intro fu j h1 h2
    obtain ⟨fu, rfl⟩ : ∃ q, fu = q + 1 := ⟨fu - 1, by omega⟩
    rw [f_X2_turningAt_13, hp, if_neg (nI_ge (by omega) (by omega)), inb_nI (by omega) (by decide), s_ck, nI_clamp (by omega)]
    unfold f_X2_pressure
    rw [s_bd1, s_ck, s_ck, nI_1]
    exact ih fu (j + 1) (by omega) (by omega)
