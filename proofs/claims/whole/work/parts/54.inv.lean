/-! THE INVARIANT between the model's ints and the book's -/
def Ic (z : Nat → Nat) (M : Mem) : Prop := z 0 ≤ 20 ∧ z 1 ≤ 10 ∧ z 2 ≤ 10 ∧ M 0 1 = nI (z 0) ∧ M 50 2 = nI (z 0) ∧ M 0 12 = nI (z 1) ∧ M 50 5 = nI (z 1) ∧ M 0 23 = nI (z 2) ∧ M 50 8 = nI (z 2)
def Id (M : Mem) : Prop := M 50 12 = M 0 30 ∧ M 50 13 = M 0 31 ∧ (∃ d, d ≤ 3 ∧ M 0 30 = nI d) ∧ ∃ s, s ≤ 200 ∧ M 0 31 = nI s
def It (M : Mem) : Prop := ∀ q, q < 18 → M 70 q = M 9 q ∧ M 71 q = M 10 q ∧ -99 ≤ (M 9 q).toInt ∧ (M 9 q).toInt ≤ 99 ∧ 0 ≤ (M 10 q).toInt ∧ (M 10 q).toInt ≤ 99
def Iw (M : Mem) : Prop := ∀ b, b < 20 → M 54 b = M 11 b ∧ ∃ w, w ≤ 99 ∧ M 11 b = nI w
def Ik (z : Nat → Nat) (M : Mem) : Prop := (∀ i, i < z 0 → ∃ p, KV M i p ∧ (∀ j, j < p → 1 ≤ (M 3 (6 * i + j)).toInt ∧ (M 3 (6 * i + j)).toInt ≤ 99 ∧ 0 ≤ (M 5 (6 * i + j)).toInt ∧ (M 5 (6 * i + j)).toInt ≤ 99) ∧ M (100 + 4 * i) 4 = M 6 i ∧ M (100 + 4 * i) 5 = M 7 i) ∧ ∀ i, z 0 ≤ i → i < 20 → M 2 i = 0 ∧ M 6 i = 0
def Iy (z : Nat → Nat) (M : Mem) : Prop := ∀ i, i < z 0 → M 7 i = -1 ∨ ∃ l s, l < z 1 ∧ M 7 i = nI l ∧ M 8 i = nI s ∧ M (100 + 4 * i) 6 = nI s ∧ 1 ≤ s ∧ (s : Int) ≤ (M 13 l).toInt
def Il (z : Nat → Nat) (M : Mem) : Prop := (∀ l, l < z 1 → M (200 + 2 * l) 0 = M 13 l ∧ M (200 + 2 * l) 1 = M 14 l ∧ M (200 + 2 * l) 2 = M 15 l ∧ (∃ s, s ≤ 200 ∧ M 13 l = nI s) ∧ (∃ t, t ≤ 99999 ∧ M 14 l = nI t) ∧ (∃ w, w ≤ 9 ∧ M 15 l = nI w) ∧ ∃ kn, kn ≤ 10 ∧ M 16 l = nI kn ∧ M (200 + 2 * l) 4 = nI kn ∧ ∀ j, j < kn → M (200 + 2 * l + 1) j = M 17 (10 * l + j)) ∧ ∀ l, z 1 ≤ l → l < 10 → M 16 l = 0
def If (z : Nat → Nat) (M : Mem) : Prop := (∀ f, f < z 2 → M (300 + f) 0 = M 24 f ∧ M (300 + f) 1 = M 25 f ∧ M (300 + f) 2 = M 26 f ∧ M (300 + f) 3 = M 27 f ∧ (∃ x, x ≤ 199 ∧ M 24 f = nI x) ∧ (∃ y, y ≤ 199 ∧ M 25 f = nI y) ∧ ∃ l, l < z 1 ∧ M 26 f = nI l) ∧ (∀ f, z 2 ≤ f → f < 10 → M 27 f = 0) ∧ ∀ l, l < z 1 → (0 ≤ (M 28 l).toInt ↔ ∃ f, f < z 2 ∧ M 26 f = nI l)
def Ia (M : Mem) : Prop := ∀ i, i < 100 → M 60 i = M 29 i
def Ir (z : Nat → Nat) (M : Mem) : Prop := ∃ t, t ≤ 200 ∧ M 0 34 = nI t ∧ M 67 1 = nI t ∧ ∀ k, k < t → ∃ A B, A < B ∧ B < z 1 ∧ M 35 k = nI A ∧ M 36 k = nI B ∧ ((M 37 k = 1 ∧ M 74 k = nI (10 * A + B)) ∨ (M 37 k = -1 ∧ M 74 k = -(nI (10 * A + B))))
def Ie (M : Mem) : Prop := ∃ t, t ≤ 20 ∧ M 0 32 = nI t ∧ M 50 11 = nI t ∧ ∀ i, i < t → M 61 i = M 33 i ∧ ∃ q, q < 40000 ∧ M 33 i = nI q
def Inv (z : Nat → Nat) (M : Mem) : Prop := Ic z M ∧ Id M ∧ It M ∧ Iw M ∧ Ik z M ∧ Iy z M ∧ Il z M ∧ If z M ∧ Ia M ∧ Ir z M ∧ Ie M
theorem It.tv {M : Mem} (h : It M) : TV M := fun q hq => ⟨(h q hq).1, (h q hq).2.1⟩
theorem e_isWind {z : Nat → Nat} {M : Mem} {v : Int32} : f_X7_isWind z M v = some (wi v 0 99) := by unfold f_X7_isWind; rw [e_within]; rfl
theorem e_isWindM {z : Nat → Nat} {M : Mem} {v : Int32} : f_X8_isWind z M v = some (wi v 0 99) := by unfold f_X8_isWind; rw [e_in]; rfl
theorem e_isAngle {z : Nat → Nat} {M : Mem} {v : Int32} : f_X7_isAngle z M v = some (wi v 0 17) := by unfold f_X7_isAngle; rw [e_within]; rfl
theorem e_isAngleM {z : Nat → Nat} {M : Mem} {v : Int32} : f_X8_isAngle z M v = some (wi v 0 17) := by unfold f_X8_isAngle; rw [e_in]; rfl
theorem e_isArm {z : Nat → Nat} {M : Mem} {v : Int32} : f_X7_isArm z M v = some (wi v (-99) 99) := by unfold f_X7_isArm; rw [e_within]; rfl
theorem wi_ang {v : Int32} (h : wi v 0 17 = true) : ∃ q, q < 18 ∧ v = nI q := by
  obtain ⟨h1, h2⟩ := wi_t.mp h
  obtain ⟨j, e, ej, -⟩ := nI_ofI (x := v) h1
  exact ⟨j, by have : (17 : Int32).toInt = 17 := by decide
               omega, e⟩
theorem b_f {α : Type} {a b : α} : (if false = true then a else b) = b := rfl
theorem b_t {α : Type} {a b : α} : (if true = true then a else b) = a := rfl
theorem hi_stands : HI_stands Inv := by
  intro z M p1 p2 inv
  obtain ⟨hc, -, ht, -, hk, -⟩ := id inv
  unfold f_X7_stands f_X8_stands
  rcases e_kiteAt (k := p1) hc.1 hc.2.2.2.2.1 hc.2.2.2.1 with ⟨j, hj, rfl, hx, hm⟩ | ⟨hx, hm⟩
  · obtain ⟨p, hV, -, hkn, -⟩ := hk.1 j hj
    simp only [hx, hm, s_bd1, s_mqs, e_isWind, e_isWindM, b_t]
    cases hw : wi p2 0 99
    · exact ⟨_, rfl, rfl, inv⟩
    · simp only [b_t, e_x_st ht.tv hV, e_m_st (show j < 20 by have := hc.1; omega) hV, hkn, s_bd1]
      exact ⟨_, rfl, rfl, inv⟩
  · simp only [hx, hm, s_bd1, s_mqn, b_f]
    exact ⟨_, rfl, rfl, inv⟩
theorem m2_ne {r : Nat} (h : r < 18) : ¬ nI r = (-2 : Int32) := fun e => by
  have := congrArg Int32.toInt e
  rw [nI_toInt (by omega), show (-2 : Int32).toInt = -2 from by decide] at this
  omega
theorem hi_steady : HI_steady Inv := by
  intro z M p1 p2 inv
  obtain ⟨hc, -, ht, -, hk, -⟩ := id inv
  unfold f_X7_steady f_X8_steady
  rcases e_kiteAt (k := p1) hc.1 hc.2.2.2.2.1 hc.2.2.2.1 with ⟨j, hj, rfl, hx, hm⟩ | ⟨hx, hm⟩
  · obtain ⟨p, hV, -, hkn, -⟩ := hk.1 j hj
    have hj20 : j < 20 := by have := hc.1; omega
    simp only [hx, hm, s_bd1, s_mqs, e_isWind, e_isWindM, b_t]
    cases hw : wi p2 0 99
    · exact ⟨_, rfl, rfl, inv⟩
    · simp only [b_t, e_x_st ht.tv hV, e_m_st hj20 hV, hkn, s_bd1]
      rcases S_st_r M j p p2 (M 6 j) with e | ⟨r, hr, e⟩
      · rw [e, if_pos rfl, if_neg (show ¬ (0 : Int32) ≤ -2 from by decide)]
        exact ⟨_, rfl, rfl, inv⟩
      · rw [e, if_neg (m2_ne hr), if_pos (nI_pos' (by omega)), e_x_sd ht.tv hV hr, e_m_sd hj20 hV hr, s_bd1]
        cases S_sd M j p p2 (M 6 j) r
        · exact ⟨_, rfl, rfl, inv⟩
        · exact ⟨_, rfl, rfl, inv⟩
  · simp only [hx, hm, s_bd1, s_mqn, b_f]
    exact ⟨_, rfl, rfl, inv⟩
theorem e_x_upN {z : Nat → Nat} {M : Mem} {i p : Nat} {v : Int32} (hV : KV M i p) : f_X2_upAt z (100 + 4 * i) M v (-2) = some (S_up M i p v 0) := e_x_upL hV e_liftN
theorem e_x_bkN {z : Nat → Nat} {M : Mem} {i p : Nat} {v : Int32} (hV : KV M i p) : f_X2_backAt z (100 + 4 * i) M v (-2) = some (S_bk M i p v 0) := e_x_bkL hV e_dragN
theorem pr_0 {a v : Int32} : pr a 0 v = 0 := by
  unfold pr
  rw [Int32.mul_zero, Int32.zero_mul, Int32.zero_mul]
  decide
theorem S_bk0 {M : Mem} {i p : Nat} {v : Int32} : S_bk M i p v 0 = 0 := by
  unfold S_bk
  induction p with
  | zero => rfl
  | succ p ih =>
    show bx_sum _ p + pr _ 0 v = 0
    rw [ih, pr_0]; decide
theorem S_up0 {M : Mem} {i p : Nat} {v : Int32} : S_up M i p v 0 = -(bx_sum (fun j => M 5 (6 * i + j)) p) := by
  have h := sum_up (ar := fun j => M 3 (6 * i + j)) (hv := fun j => M 5 (6 * i + j)) (lf := 0) (v := v) (p := p)
  have h2 : bx_sum (t_bk (fun j => M 3 (6 * i + j)) 0 v) p = 0 := S_bk0 (M := M) (i := i)
  rw [h2, Int32.add_zero] at h
  exact h.symm
/-- what a kite pulls, up and back, in a wind -/
def S_pu (M : Mem) (i p : Nat) (v : Int32) : Int32 := if S_st M i p v (M 6 i) = -2 then S_up M i p v 0 else S_up M i p v (M 9 (Int32.toNatClampNeg (S_st M i p v (M 6 i))))
def S_pb (M : Mem) (i p : Nat) (v : Int32) : Int32 := if S_st M i p v (M 6 i) = -2 then 0 else S_bk M i p v (M 10 (Int32.toNatClampNeg (S_st M i p v (M 6 i))))
theorem e_x_pu {z : Nat → Nat} {M : Mem} {i p : Nat} {v : Int32} (hT : TV M) (hV : KV M i p) : f_X2_upAt z (100 + 4 * i) M v (S_st M i p v (M 6 i)) = some (S_pu M i p v) := by
  unfold S_pu
  rcases S_st_r M i p v (M 6 i) with e | ⟨r, hr, e⟩
  · rw [e, if_pos rfl]; exact e_x_upN hV
  · rw [e, if_neg (m2_ne hr), nI_clamp (by omega)]; exact e_x_upL hV (e_liftAt hT hr)
theorem e_x_pb {z : Nat → Nat} {M : Mem} {i p : Nat} {v : Int32} (hT : TV M) (hV : KV M i p) : f_X2_backAt z (100 + 4 * i) M v (S_st M i p v (M 6 i)) = some (S_pb M i p v) := by
  unfold S_pb
  rcases S_st_r M i p v (M 6 i) with e | ⟨r, hr, e⟩
  · rw [e, if_pos rfl, e_x_bkN hV, S_bk0]
  · rw [e, if_neg (m2_ne hr), nI_clamp (by omega)]; exact e_x_bkL hV (e_dragAt hT hr)
theorem e_m_pu {z : Nat → Nat} {M : Mem} {i p : Nat} {v : Int32} (hi : i < 20) (hV : KV M i p) : f_X8_pullUp z M (nI i) v = some (S_pu M i p v) := by
  unfold f_X8_pullUp S_pu
  rw [e_m_st hi hV, s_bd1]
  rcases S_st_r M i p v (M 6 i) with e | ⟨r, hr, e⟩
  · rw [e, if_neg (show ¬ (0 : Int32) ≤ -2 from by decide), e_m_wt hi hV, s_bd1, if_pos rfl, S_up0]
  · rw [e, if_pos (nI_pos' (by omega)), e_m_up hi hV hr, s_bd1, if_neg (m2_ne hr), nI_clamp (by omega)]
theorem e_m_pb {z : Nat → Nat} {M : Mem} {i p : Nat} {v : Int32} (hi : i < 20) (hV : KV M i p) : f_X8_pullBack z M (nI i) v = some (S_pb M i p v) := by
  unfold f_X8_pullBack S_pb
  rw [e_m_st hi hV, s_bd1]
  rcases S_st_r M i p v (M 6 i) with e | ⟨r, hr, e⟩
  · rw [e, if_neg (show ¬ (0 : Int32) ≤ -2 from by decide), if_pos rfl]
  · rw [e, if_pos (nI_pos' (by omega)), e_m_bk hi hV hr, s_bd1, if_neg (m2_ne hr), nI_clamp (by omega)]
theorem hi_pull : HI_pull Inv := by
  intro z M p1 p2 p3 inv
  obtain ⟨hc, -, ht, -, hk, -⟩ := id inv
  unfold f_X7_pull f_X8_pull
  rcases e_kiteAt (k := p1) hc.1 hc.2.2.2.2.1 hc.2.2.2.1 with ⟨j, hj, rfl, hx, hm⟩ | ⟨hx, hm⟩
  · obtain ⟨p, hV, -, hkn, -⟩ := hk.1 j hj
    have hj20 : j < 20 := by have := hc.1; omega
    simp only [hx, hm, s_bd1, s_mqs, e_isWind, e_isWindM, b_t, e_within, e_in]
    cases hw : wi p2 0 99
    · exact ⟨_, rfl, rfl, inv⟩
    · cases hw2 : wi p3 0 1
      · exact ⟨_, rfl, rfl, inv⟩
      · simp only [b_t, hkn, e_x_st ht.tv hV, s_bd1, e_x_pu ht.tv hV, e_x_pb ht.tv hV, e_m_pu hj20 hV, e_m_pb hj20 hV]
        by_cases c : p3 = 0
        · simp only [c, if_true]
          exact ⟨_, rfl, rfl, inv⟩
        · simp only [c, if_false, if_true]
          exact ⟨_, rfl, rfl, inv⟩
  · simp only [hx, hm, s_bd1, s_mqn, b_f]
    exact ⟨_, rfl, rfl, inv⟩
theorem hi_force : HI_force Inv := by
  intro z M p1 p2 p3 p4 inv
  obtain ⟨hc, -, ht, -, hk, -⟩ := id inv
  unfold f_X7_force f_X8_force
  rcases e_kiteAt (k := p1) hc.1 hc.2.2.2.2.1 hc.2.2.2.1 with ⟨j, hj, rfl, hx, hm⟩ | ⟨hx, hm⟩
  · obtain ⟨p, hV, -, hkn, -⟩ := hk.1 j hj
    have hj20 : j < 20 := by have := hc.1; omega
    simp only [hx, hm, s_bd1, s_mqs, e_isWind, e_isWindM, b_t, e_within, e_in, e_isAngle, e_isAngleM]
    cases hw : wi p2 0 99
    · exact ⟨_, rfl, rfl, inv⟩
    · cases hw2 : wi p3 0 17
      · exact ⟨_, rfl, rfl, inv⟩
      · obtain ⟨q, hq, rfl⟩ := wi_ang hw2
        simp only [b_t, hkn, s_bd1, e_x_turn ht.tv hV hq, e_m_turn hj20 hV hq, e_x_upL hV (e_liftAt ht.tv hq), e_x_bkL hV (e_dragAt ht.tv hq), e_m_up hj20 hV hq, e_m_bk hj20 hV hq, if_true]
        by_cases c0 : p4 = 0
        · subst c0
          exact ⟨_, rfl, rfl, inv⟩
        · by_cases c1 : p4 = 1
          · subst c1
            exact ⟨_, rfl, rfl, inv⟩
          · by_cases c2 : p4 = 2
            · subst c2
              exact ⟨_, rfl, rfl, inv⟩
            · have : wi p4 0 2 = false := by
                refine wi_f.mpr fun h => ?_
                have h0 := sw_ne c0
                have h1 := sw_ne c1
                have h2 := sw_ne c2
                rw [show (0 : Int32).toInt = 0 from by decide] at h0 h
                rw [show (1 : Int32).toInt = 1 from by decide] at h1
                rw [show (2 : Int32).toInt = 2 from by decide] at h2 h
                omega
              rw [this]
              simp only [c0, c1, c2, if_false, Bool.false_eq_true]
              exact ⟨_, rfl, rfl, inv⟩
  · simp only [hx, hm, s_bd1, s_mqn, b_f]
    exact ⟨_, rfl, rfl, inv⟩
