/-! the root: halving on one side, Newton's way on the other -/
theorem l_bis {z : Nat → Nat} {M : Mem} {N : Nat} (hN : N < 2 ^ 63) : ∀ (g fu lo hi : Nat), lo < hi → hi ≤ lo + 2 ^ g → hi ≤ 3000000000 → lo * lo ≤ N → N < hi * hi → g < fu → ∃ r, lo ≤ r ∧ r < hi ∧ r * r ≤ N ∧ N < (r + 1) * (r + 1) ∧ f_X8_root_7 z M fu (lN N) (lN lo) (lN hi) = some (nI r) := by
  intro g
  induction g with
  | zero =>
    intro fu lo hi h1 h2 h3 h4 h5 h6
    obtain ⟨fu, rfl⟩ : ∃ r, fu = r + 1 := ⟨fu - 1, by omega⟩
    have e : hi = lo + 1 := by omega
    subst e
    refine ⟨lo, Nat.le_refl _, by omega, h4, h5, ?_⟩
    rw [f_X8_root_7, lN_sub (by omega), if_neg (show ¬ (1 : Int64) < lN (lo + 1 - lo) from fun q => by have q := (pk_lLT (a := 1) (by omega) (by omega)).mp q; omega), lN_i]
  | succ g ih =>
    intro fu lo hi h1 h2 h3 h4 h5 h6
    obtain ⟨fu, rfl⟩ : ∃ r, fu = r + 1 := ⟨fu - 1, by omega⟩
    by_cases c : hi = lo + 1
    · subst c
      refine ⟨lo, Nat.le_refl _, by omega, h4, h5, ?_⟩
      rw [f_X8_root_7, lN_sub (by omega), if_neg (show ¬ (1 : Int64) < lN (lo + 1 - lo) from fun q => by have q := (pk_lLT (a := 1) (by omega) (by omega)).mp q; omega), lN_i]
    · have hp : 2 ^ (g + 1) = 2 * 2 ^ g := by rw [Nat.pow_succ]; omega
      have hm : (lo + hi) / 2 * ((lo + hi) / 2) ≤ 3000000000 * 3000000000 := Nat.mul_le_mul (by omega) (by omega)
      have ed : lN (lo + hi) / 2 = lN ((lo + hi) / 2) := pk_lDiv (b := 2) (by omega) (by decide) (by decide)
      rw [f_X8_root_7, lN_sub (by omega), if_pos (show (1 : Int64) < lN (hi - lo) from (pk_lLT (a := 1) (by omega) (by omega)).mpr (by omega)), lN_add, ed, lN_mul]
      by_cases q : N < (lo + hi) / 2 * ((lo + hi) / 2)
      · rw [if_pos ((pk_lLT hN (by omega)).mpr q)]
        obtain ⟨r, r1, r2, r3⟩ := ih fu lo ((lo + hi) / 2) (by omega) (by omega) (by omega) h4 q (by omega)
        exact ⟨r, r1, by omega, r3⟩
      · rw [if_neg (fun w => q ((pk_lLT hN (by omega)).mp w))]
        obtain ⟨r, r1, r2, r3⟩ := ih fu ((lo + hi) / 2) hi (by omega) (by omega) (by omega) (by omega) h5 (by omega)
        exact ⟨r, by omega, r2, r3⟩
theorem amgm {r x N : Nat} (h : r * r ≤ N) (h0 : 0 < x) (hx : r ≤ x) : 2 * r ≤ x + N / x := by
  by_cases c : 2 * r ≤ x
  · exact Nat.le_trans c (Nat.le_add_right _ _)
  · obtain ⟨d, rfl⟩ : ∃ d, x = r + d := ⟨x - r, by omega⟩
    obtain ⟨e, rfl⟩ : ∃ e, r = e + d := ⟨r - d, by omega⟩
    have q : e ≤ N / (e + d + d) := by
      rw [Nat.le_div_iff_mul_le (by omega)]
      refine Nat.le_trans ?_ h
      have : (e + d) * (e + d) = e * (e + d + d) + d * d := by grind
      omega
    omega
theorem l_new {z : Nat → Nat} {M : Mem} {N r : Nat} (hN : N < 2 ^ 60) (r1 : r * r ≤ N) (r2 : N < (r + 1) * (r + 1)) : ∀ (g k fu x : Nat), r ≤ x → x < r + 2 ^ g → x < 2 ^ 31 → k + g < 64 → g + 1 < fu → f_X5_rootFrom_6 z M fu (lN N) (lN x) (nI k) = some (lN r) := by
  have B : ∀ (k fu : Nat), r < 2 ^ 31 → k < 64 → f_X5_rootFrom_6 z M (fu + 1) (lN N) (lN r) (nI k) = some (lN r) := by
    intro k fu hr hk
    rw [f_X5_rootFrom_6, if_neg (show ¬ (64 : Int32) ≤ nI k from nI_ge (b := 64) hk (by decide))]
    by_cases c : 0 < r
    · have hd : N / r ≤ N := Nat.div_le_self _ _
      have h3 := amgm r1 c (Nat.le_refl _)
      have ed : lN N / lN r = lN (N / r) := pk_lDiv (by omega) c (by omega)
      have ed2 : lN (r + N / r) / 2 = lN ((r + N / r) / 2) := pk_lDiv (b := 2) (by omega) (by decide) (by decide)
      rw [if_pos (show (0 : Int64) < lN r from (pk_lLT (a := 0) (by decide) (by omega)).mpr c), show decide (¬ lN r = 0) = true from decide_eq_true (fun q => by have := (pk_lEQ (a := r) (b := 0) (by omega) (by decide)).mp q; omega), s_ck, ed, lN_add, ed2, if_neg (fun q => by rw [pk_lLT (by omega) (by omega)] at q; omega)]
    · rw [if_neg (show ¬ (0 : Int64) < lN r from fun q => c ((pk_lLT (a := 0) (by decide) (by omega)).mp q))]
  intro g
  induction g with
  | zero =>
    intro k fu x h1 h2 h3 h4 h5
    obtain ⟨fu, rfl⟩ : ∃ r, fu = r + 1 := ⟨fu - 1, by omega⟩
    have e : x = r := by omega
    rw [e]
    exact B k fu (by omega) (by omega)
  | succ g ih =>
    intro k fu x h1 h2 h3 h4 h5
    obtain ⟨fu, rfl⟩ : ∃ r, fu = r + 1 := ⟨fu - 1, by omega⟩
    by_cases e : x = r
    · rw [e]
      exact B k fu (by omega) (by omega)
    · have hp : 2 ^ (g + 1) = 2 * 2 ^ g := by rw [Nat.pow_succ]; omega
      have c : 0 < x := by omega
      have hd : N / x ≤ N := Nat.div_le_self _ _
      have hq : N / x < r + 1 := by
        rw [Nat.div_lt_iff_lt_mul c]
        exact Nat.lt_of_lt_of_le r2 (Nat.mul_le_mul (Nat.le_refl _) (by omega))
      have h6 := amgm r1 c h1
      have ed : lN N / lN x = lN (N / x) := pk_lDiv (by omega) c (by omega)
      have ed2 : lN (x + N / x) / 2 = lN ((x + N / x) / 2) := pk_lDiv (b := 2) (by omega) (by decide) (by decide)
      rw [f_X5_rootFrom_6, if_neg (show ¬ (64 : Int32) ≤ nI k from nI_ge (b := 64) (by omega) (by decide)), if_pos (show (0 : Int64) < lN x from (pk_lLT (a := 0) (by decide) (by omega)).mpr c), show decide (¬ lN x = 0) = true from decide_eq_true (fun q => by have := (pk_lEQ (a := x) (b := 0) (by omega) (by decide)).mp q; omega), s_ck, ed, lN_add, ed2, if_pos ((pk_lLT (by omega) (by omega)).mpr (by omega)), nI_1]
      exact ih (k + 1) fu _ (by omega) (by omega) (by omega) (by omega) (by omega)
theorem sq64 {a : Int32} (h : a.toInt.natAbs ≤ 2 ^ 24) : a.toInt64 * a.toInt64 = lN (a.toInt.natAbs * a.toInt.natAbs) := by
  have hb : a.toInt.natAbs * a.toInt.natAbs ≤ 2 ^ 24 * 2 ^ 24 := Nat.mul_le_mul h h
  apply Int64.toInt_inj.mp
  have e := Int.natAbs_mul_self (a := a.toInt)
  rw [Int64.toInt_mul, Int32.toInt_toInt64, pk_lT (by omega), ← e]
  exact Int.bmod_eq_of_le (by omega) (by omega)
theorem abs64 {a : Int32} (h : a.toInt.natAbs ≤ 2 ^ 24) : labs a.toInt64 = lN a.toInt.natAbs := by
  apply Int64.toInt_inj.mp
  rw [pk_lT (by omega)]
  unfold labs
  by_cases c : 0 < a.toInt64
  · rw [if_pos c]
    rw [Int64.lt_iff_toInt_lt, Int32.toInt_toInt64, show (0 : Int64).toInt = 0 from by decide] at c
    rw [Int32.toInt_toInt64]
    omega
  · rw [if_neg c]
    rw [Int64.lt_iff_toInt_lt, Int32.toInt_toInt64, show (0 : Int64).toInt = 0 from by decide] at c
    rw [Int64.toInt_neg, Int32.toInt_toInt64, Int.bmod_eq_of_le (by omega) (by omega)]
    omega
theorem e_rt {a u : Int32} (ha : a.toInt.natAbs ≤ 2 ^ 24) (hu : u.toInt.natAbs ≤ 2 ^ 24) : ∃ r : Nat, r < 2 ^ 26 ∧ (∀ z M, f_X8_root z M (a.toInt64 * a.toInt64 + u.toInt64 * u.toInt64) = some (nI r)) ∧ ∀ z M, f_X5_rootFrom z M (labs a.toInt64 + labs u.toInt64) (a.toInt64 * a.toInt64 + u.toInt64 * u.toInt64) = some (lN r) := by
  rw [sq64 ha, sq64 hu, abs64 ha, abs64 hu, lN_add, lN_add]
  revert ha hu
  generalize a.toInt.natAbs = A
  generalize u.toInt.natAbs = U
  intro ha hu
  have h1 : A * A ≤ 2 ^ 24 * 2 ^ 24 := Nat.mul_le_mul ha ha
  have h2 : U * U ≤ 2 ^ 24 * 2 ^ 24 := Nat.mul_le_mul hu hu
  have key : ∀ z M, ∃ r, 0 ≤ r ∧ r < 3000000000 ∧ r * r ≤ A * A + U * U ∧ A * A + U * U < (r + 1) * (r + 1) ∧ f_X8_root_7 z M 1000 (lN (A * A + U * U)) (lN 0) (lN 3000000000) = some (nI r) := fun z M => l_bis (by omega) 32 1000 0 3000000000 (by omega) (by omega) (by omega) (by omega) (by omega) (by omega)
  have uq : ∀ r r' N : Nat, r * r ≤ N → N < (r + 1) * (r + 1) → r' * r' ≤ N → N < (r' + 1) * (r' + 1) → r = r' := by
    intro r r' N q1 q2 q3 q4
    have w1 : r < r' + 1 := Nat.mul_self_lt_mul_self_iff.mp (by omega)
    have w2 : r' < r + 1 := Nat.mul_self_lt_mul_self_iff.mp (by omega)
    omega
  obtain ⟨r, -, r1, r2, r3, -⟩ := key (fun _ => 0) (fun _ _ => 0)
  have hs : (A + U) * (A + U) = A * A + U * U + 2 * (A * U) := by grind
  have hr : r ≤ A + U := Nat.mul_self_le_mul_self_iff.mp (by omega)
  refine ⟨r, by omega, fun z M => ?_, fun z M => ?_⟩
  · obtain ⟨r', -, q1, q2, q3, q4⟩ := key z M
    rw [uq r r' _ r2 r3 q2 q3]
    exact q4
  · exact l_new (by omega) r2 r3 26 0 1000 (A + U) hr (by omega) (by omega) (by omega) (by omega)
