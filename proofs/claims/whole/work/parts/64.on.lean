/-! how many kites a line has -/
def S_on (g : Nat → Int32) (l : Int32) (n : Nat) : Int32 := bx_sum (fun i => if g i = l then 1 else 0) n
theorem S_on_s {g : Nat → Int32} {l : Int32} {n : Nat} : S_on g l (n + 1) = S_on g l n + (if g n = l then 1 else 0) := rfl
theorem l_on_x {z : Nat → Nat} {M : Mem} {l : Int32} (hz : z 0 ≤ 20) (hc : M 50 2 = nI (z 0)) (hm0 : M 0 1 = nI (z 0)) : ∀ (m k fu : Nat), k + m = z 0 → m < fu → f_X7_kitesOn_4 z M fu l (S_on (fun i => M (100 + 4 * i) 5) l k) (nI k) = some (S_on (fun i => M (100 + 4 * i) 5) l (z 0)) := by
  intro m
  induction m with
  | zero =>
    intro k fu h1 h2
    obtain ⟨fu, rfl⟩ : ∃ r, fu = r + 1 := ⟨fu - 1, by omega⟩
    have e : k = z 0 := by omega
    rw [f_X7_kitesOn_4, hc, if_pos (nI_le (by omega) (by omega)), e]
  | succ m ih =>
    intro k fu h1 h2
    obtain ⟨fu, rfl⟩ : ∃ r, fu = r + 1 := ⟨fu - 1, by omega⟩
    have hrec := ih (k + 1) fu (by omega) (by omega)
    rw [S_on_s] at hrec
    rcases e_kiteAt (k := nI k) hz hc hm0 with ⟨j, hj, e, hx, hm⟩ | ⟨hx, hm⟩
    · have e : k = j := (nI_eq (by omega) (by omega)).mp e
      subst e
      rw [f_X7_kitesOn_4, hc, if_neg (nI_ge (by omega) (by omega)), hx, s_bd1, s_mqs, nI_1]
      by_cases c : M (100 + 4 * k) 5 = l
      · rw [if_pos c]; rw [if_pos c] at hrec; exact hrec
      · rw [if_neg c]; rw [if_neg c, Int32.add_zero] at hrec; exact hrec
    · have := hm z
      rw [e_isKite, hm0] at this
      rw [wi_t.mpr ⟨by rw [nI_toInt (by omega)]; simp, by rw [nI_toInt (by omega), nI_m1 (by omega)]; omega⟩] at this
      cases this
theorem e_on_x {z : Nat → Nat} {M : Mem} {l : Int32} (hz : z 0 ≤ 20) (hc : M 50 2 = nI (z 0)) (hm0 : M 0 1 = nI (z 0)) : f_X7_kitesOn z M l = some (S_on (fun i => M (100 + 4 * i) 5) l (z 0)) := l_on_x hz hc hm0 (z 0) 0 1000 (by omega) (by omega)
theorem l_on_m {z : Nat → Nat} {M : Mem} {l : Int32} {n : Nat} (hz : n ≤ 20) (hm0 : M 0 1 = nI n) : ∀ (m k fu : Nat), k + m = n → m < fu → f_X8_kitesOn_4 z M fu l (S_on (M 7) l k) (nI k) = some (S_on (M 7) l n) := by
  intro m
  induction m with
  | zero =>
    intro k fu h1 h2
    obtain ⟨fu, rfl⟩ : ∃ r, fu = r + 1 := ⟨fu - 1, by omega⟩
    have e : k = n := by omega
    rw [f_X8_kitesOn_4, hm0, if_pos (nI_le (by omega) (by omega)), e]
  | succ m ih =>
    intro k fu h1 h2
    obtain ⟨fu, rfl⟩ : ∃ r, fu = r + 1 := ⟨fu - 1, by omega⟩
    have hrec := ih (k + 1) fu (by omega) (by omega)
    rw [S_on_s] at hrec
    rw [f_X8_kitesOn_4, hm0, if_neg (nI_ge (by omega) (by omega)), inb_nI (by omega) (by decide), s_ck, nI_clamp (by omega), nI_1, Int32.add_zero]
    by_cases c : M 7 k = l
    · rw [if_pos c]; rw [if_pos c] at hrec; exact hrec
    · rw [if_neg c]; rw [if_neg c, Int32.add_zero] at hrec; exact hrec
theorem e_on_m {z : Nat → Nat} {M : Mem} {l : Int32} {n : Nat} (hz : n ≤ 20) (hm0 : M 0 1 = nI n) : f_X8_kitesOn z M l = some (S_on (M 7) l n) := l_on_m hz hm0 n 0 1000 (by omega) (by omega)
