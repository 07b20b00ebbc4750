/-! the kites' sums, both sides -/
theorem bx_cong {f g : Nat → Int32} {p : Nat} (h : ∀ j, j < p → f j = g j) : bx_sum f p = bx_sum g p := by
  induction p with
  | zero => rfl
  | succ p ih =>
    show bx_sum f p + f p = bx_sum g p + g p
    rw [ih (fun j hj => h j (by omega)), h p (by omega)]
def t_up (ar hv : Nat → Int32) (lf v : Int32) : Nat → Int32 := fun j => pr (ar j) lf v - hv j
def t_bk (ar : Nat → Int32) (dg v : Int32) : Nat → Int32 := fun j => pr (ar j) dg v
theorem l_x_up {z : Nat → Nat} {M : Mem} {n p : Nat} {v lf : Int32} (hp : M n 3 = nI p) (h6 : p ≤ 6) : ∀ (k fu j : Nat), j + k = p → k < fu → f_X2_upAt_13 z n M fu v lf (bx_sum (t_up (M (n + 1)) (M (n + 3)) lf v) j) (nI j) = some (bx_sum (t_up (M (n + 1)) (M (n + 3)) lf v) p) := by
  intro k
  induction k with
  | zero =>
    intro fu j h1 h2
    obtain ⟨fu, rfl⟩ : ∃ q, fu = q + 1 := ⟨fu - 1, by omega⟩
    have e : j = p := by omega
    subst e
    rw [f_X2_upAt_13, hp, if_pos (nI_le (Nat.le_refl _) (by omega))]
  | succ k ih =>
    intro fu j h1 h2
    obtain ⟨fu, rfl⟩ : ∃ q, fu = q + 1 := ⟨fu - 1, by omega⟩
    rw [f_X2_upAt_13, hp, if_neg (nI_ge (by omega) (by omega)), inb_nI (by omega) (by decide), s_ck, nI_clamp (by omega)]
    unfold f_X2_pressure
    rw [s_bd1, s_ck, nI_1]
    exact ih fu (j + 1) (by omega) (by omega)
theorem l_x_bk {z : Nat → Nat} {M : Mem} {n p : Nat} {v lf : Int32} (hp : M n 3 = nI p) (h6 : p ≤ 6) : ∀ (k fu j : Nat), j + k = p → k < fu → f_X2_backAt_13 z n M fu v lf (bx_sum (t_bk (M (n + 1)) lf v) j) (nI j) = some (bx_sum (t_bk (M (n + 1)) lf v) p) := by
  intro k
  induction k with
  | zero =>
    intro fu j h1 h2
    obtain ⟨fu, rfl⟩ : ∃ q, fu = q + 1 := ⟨fu - 1, by omega⟩
    have e : j = p := by omega
    subst e
    rw [f_X2_backAt_13, hp, if_pos (nI_le (Nat.le_refl _) (by omega))]
  | succ k ih =>
    intro fu j h1 h2
    obtain ⟨fu, rfl⟩ : ∃ q, fu = q + 1 := ⟨fu - 1, by omega⟩
    rw [f_X2_backAt_13, hp, if_neg (nI_ge (by omega) (by omega)), inb_nI (by omega) (by decide), s_ck, nI_clamp (by omega)]
    unfold f_X2_pressure
    rw [s_bd1, nI_1]
    exact ih fu (j + 1) (by omega) (by omega)
theorem m6 (i : Nat) : (6 : Int32) * nI i = nI (6 * i) := pk_mul 6 i
theorem l_m_turn {z : Nat → Nat} {M : Mem} {i p q : Nat} {v : Int32} (hi : i < 20) (hp : M 2 i = nI p) (h6 : p ≤ 6) (hq : q < 18) : ∀ (k fu j : Nat), j + k = p → k < fu → f_X8_turns_9 z M fu (nI i) v (nI q) (bx_sum (t_tn (fun j => M 3 (6 * i + j)) (fun j => M 4 (6 * i + j)) (fun j => M 5 (6 * i + j)) (M 9 q) v (M 6 i)) j) (nI (6 * i + j)) = some (bx_sum (t_tn (fun j => M 3 (6 * i + j)) (fun j => M 4 (6 * i + j)) (fun j => M 5 (6 * i + j)) (M 9 q) v (M 6 i)) p) := by
  intro k
  induction k with
  | zero =>
    intro fu j h1 h2
    obtain ⟨fu, rfl⟩ : ∃ q, fu = q + 1 := ⟨fu - 1, by omega⟩
    have e : j = p := by omega
    subst e
    rw [f_X8_turns_9, inb_nI hi (by decide), s_ck, nI_clamp (by omega), hp, m6, nI_add, if_pos (nI_le (Nat.le_refl _) (by omega))]
  | succ k ih =>
    intro fu j h1 h2
    obtain ⟨fu, rfl⟩ : ∃ q, fu = q + 1 := ⟨fu - 1, by omega⟩
    rw [f_X8_turns_9, inb_nI hi (by decide), s_ck, nI_clamp (by omega), hp, m6, nI_add, if_neg (nI_ge (by omega) (by omega)), inb_nI (by omega) (by decide), s_ck, inb_nI hq (by decide), s_ck, s_ck, s_ck, s_ck, nI_clamp (by omega), nI_clamp (by omega), nI_1]
    exact ih fu (j + 1) (by omega) (by omega)
theorem l_m_up {z : Nat → Nat} {M : Mem} {i p q : Nat} {v s0 : Int32} (hi : i < 20) (hp : M 2 i = nI p) (h6 : p ≤ 6) (hq : q < 18) : ∀ (k fu j : Nat), j + k = p → k < fu → f_X8_up_14 z M fu (nI i) v (nI q) (s0 + bx_sum (t_bk (fun j => M 3 (6 * i + j)) (M 9 q) v) j) (nI (6 * i + j)) = some (s0 + bx_sum (t_bk (fun j => M 3 (6 * i + j)) (M 9 q) v) p) := by
  intro k
  induction k with
  | zero =>
    intro fu j h1 h2
    obtain ⟨fu, rfl⟩ : ∃ q, fu = q + 1 := ⟨fu - 1, by omega⟩
    have e : j = p := by omega
    subst e
    rw [f_X8_up_14, inb_nI hi (by decide), s_ck, nI_clamp (by omega), hp, m6, nI_add, if_pos (nI_le (Nat.le_refl _) (by omega))]
  | succ k ih =>
    intro fu j h1 h2
    obtain ⟨fu, rfl⟩ : ∃ q, fu = q + 1 := ⟨fu - 1, by omega⟩
    rw [f_X8_up_14, inb_nI hi (by decide), s_ck, nI_clamp (by omega), hp, m6, nI_add, if_neg (nI_ge (by omega) (by omega)), inb_nI (by omega) (by decide), s_ck, inb_nI hq (by decide), s_ck, nI_clamp (by omega), nI_clamp (by omega), nI_1, Int32.add_assoc]
    exact ih fu (j + 1) (by omega) (by omega)
theorem l_m_bk {z : Nat → Nat} {M : Mem} {i p q : Nat} {v : Int32} (hi : i < 20) (hp : M 2 i = nI p) (h6 : p ≤ 6) (hq : q < 18) : ∀ (k fu j : Nat), j + k = p → k < fu → f_X8_back_9 z M fu (nI i) v (nI q) (bx_sum (t_bk (fun j => M 3 (6 * i + j)) (M 10 q) v) j) (nI (6 * i + j)) = some (bx_sum (t_bk (fun j => M 3 (6 * i + j)) (M 10 q) v) p) := by
  intro k
  induction k with
  | zero =>
    intro fu j h1 h2
    obtain ⟨fu, rfl⟩ : ∃ q, fu = q + 1 := ⟨fu - 1, by omega⟩
    have e : j = p := by omega
    subst e
    rw [f_X8_back_9, inb_nI hi (by decide), s_ck, nI_clamp (by omega), hp, m6, nI_add, if_pos (nI_le (Nat.le_refl _) (by omega))]
  | succ k ih =>
    intro fu j h1 h2
    obtain ⟨fu, rfl⟩ : ∃ q, fu = q + 1 := ⟨fu - 1, by omega⟩
    rw [f_X8_back_9, inb_nI hi (by decide), s_ck, nI_clamp (by omega), hp, m6, nI_add, if_neg (nI_ge (by omega) (by omega)), inb_nI (by omega) (by decide), s_ck, inb_nI hq (by decide), s_ck, nI_clamp (by omega), nI_clamp (by omega), nI_1]
    exact ih fu (j + 1) (by omega) (by omega)
theorem l_m_wt {z : Nat → Nat} {M : Mem} {i p : Nat} (hi : i < 20) (hp : M 2 i = nI p) (h6 : p ≤ 6) : ∀ (k fu j : Nat), j + k = p → k < fu → f_X8_weightOf_7 z M fu (nI i) (bx_sum (fun j => M 5 (6 * i + j)) j) (nI (6 * i + j)) = some (bx_sum (fun j => M 5 (6 * i + j)) p) := by
  intro k
  induction k with
  | zero =>
    intro fu j h1 h2
    obtain ⟨fu, rfl⟩ : ∃ q, fu = q + 1 := ⟨fu - 1, by omega⟩
    have e : j = p := by omega
    subst e
    rw [f_X8_weightOf_7, inb_nI hi (by decide), s_ck, nI_clamp (by omega), hp, m6, nI_add, if_pos (nI_le (Nat.le_refl _) (by omega))]
  | succ k ih =>
    intro fu j h1 h2
    obtain ⟨fu, rfl⟩ : ∃ q, fu = q + 1 := ⟨fu - 1, by omega⟩
    rw [f_X8_weightOf_7, inb_nI hi (by decide), s_ck, nI_clamp (by omega), hp, m6, nI_add, if_neg (nI_ge (by omega) (by omega)), inb_nI (by omega) (by decide), s_ck, nI_clamp (by omega), nI_1]
    exact ih fu (j + 1) (by omega) (by omega)
theorem sum_up {ar hv : Nat → Int32} {lf v : Int32} {p : Nat} : -(bx_sum hv p) + bx_sum (t_bk ar lf v) p = bx_sum (t_up ar hv lf v) p := by
  induction p with
  | zero => show -(0 : Int32) + 0 = 0; decide
  | succ p ih =>
    show -(bx_sum hv p + hv p) + (bx_sum (t_bk ar lf v) p + pr (ar p) lf v) = bx_sum (t_up ar hv lf v) p + (pr (ar p) lf v - hv p)
    rw [← ih]
    grind
