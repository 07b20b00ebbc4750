/-! cones -/
def Hx (k d S D : Nat) : Nat := if k = d then S else if k = d + 2 ∨ d = k + 2 then 0 else min S D
theorem Hx_le {k d S D : Nat} (h : S ≤ 200) : Hx k d S D ≤ 200 := by
  unfold Hx
  by_cases c : k = d
  · rw [if_pos c]; exact h
  · rw [if_neg c]
    by_cases c2 : k = d + 2 ∨ d = k + 2
    · rw [if_pos c2]; omega
    · rw [if_neg c2]; omega
/-- a flyer as both sides see it: its place, its line's steps, the wind's way and its drift -/
def FC (z : Nat → Nat) (M : Mem) (f X Y S d D : Nat) : Prop := X ≤ 199 ∧ Y ≤ 199 ∧ S ≤ 200 ∧ d ≤ 3 ∧ D ≤ 200 ∧ z 1 ≤ 10 ∧ M 50 5 = nI (z 1) ∧ M 50 12 = nI d ∧ M 50 13 = nI D ∧ M 0 30 = nI d ∧ M 0 31 = nI D ∧ ∃ l, l < z 1 ∧ M (300 + f) 0 = nI X ∧ M (300 + f) 1 = nI Y ∧ M (300 + f) 2 = nI l ∧ M 24 f = nI X ∧ M 25 f = nI Y ∧ M 26 f = nI l ∧ M 13 l = nI S ∧ M (200 + 2 * l) 0 = nI S
theorem FC.r {z : Nat → Nat} {M M' : Mem} {f X Y S d D : Nat} (h : FC z M f X Y S d D) (R : ∀ m, ¬ (m = 65 ∨ m = 66) → M' m = M m) : FC z M' f X Y S d D := by
  unfold FC at *
  obtain ⟨a1, a2, a3, a4, a5, a6, a7, a8, a9, a10, a11, l, a12⟩ := h
  rw [R 50 (by omega), R 0 (by omega), R (300 + f) (by omega), R 24 (by omega), R 25 (by omega), R 26 (by omega), R 13 (by omega)]
  exact ⟨a1, a2, a3, a4, a5, a6, a7, a8, a9, a10, a11, l, by rw [R (200 + 2 * l) (by omega)]; exact a12⟩
theorem FC.of {z : Nat → Nat} {M : Mem} (inv : Inv z M) : ∃ d D, ∀ f, f < z 2 → ∃ X Y S, FC z M f X Y S d D := by
  obtain ⟨hc, hd, ht, hw, hk, hy, hl, hf, ha, hr, he⟩ := id inv
  obtain ⟨hd1, hd2, ⟨d, d1, d2⟩, D, d3, d4⟩ := hd
  refine ⟨d, D, fun f hf1 => ?_⟩
  obtain ⟨q1, q2, q3, q4, ⟨X, q5, q6⟩, ⟨Y, q7, q8⟩, l, q9, q10⟩ := hf.1 f hf1
  obtain ⟨b1, -, -, ⟨S, b2, b3⟩, -⟩ := hl.1 l q9
  exact ⟨X, Y, S, q5, q7, b2, d1, d3, hc.2.1, hc.2.2.2.2.2.2.1, by rw [hd1, d2], by rw [hd2, d4], d2, d4, l, q9, by rw [q1, q6], by rw [q2, q8], by rw [q3, q10], q6, q8, q10, b3, by rw [b1, b3]⟩
theorem e_reach {z : Nat → Nat} {M : Mem} {k d : Nat} {s w : Int32} (hk : k ≤ 3) (hd : d ≤ 3) : f_X0_reach z M (nI k) (nI d) s w = some (if k = d then s else if k = d + 2 ∨ d = k + 2 then 0 else w) := by
  unfold f_X0_reach
  by_cases c : k = d
  · rw [if_pos c, if_pos (by rw [c])]
  · rw [if_neg c, if_neg (nI_ne c (by omega) (by omega))]
    have e : (nI k - nI d).toInt = (k : Int) - d := pk_sub_toInt (by omega) (by omega)
    have e2 : (iabs (nI k - nI d)).toInt = if (d : Int) ≤ k then (k : Int) - d else (d : Int) - k := by
      unfold iabs
      by_cases c2 : (d : Int) ≤ k
      · rw [if_pos (by rw [Int32.le_iff_toInt_le, e]; simp; omega), if_pos c2, e]
      · rw [if_neg (by rw [Int32.le_iff_toInt_le, e]; simp; omega), if_neg c2, show (0 : Int32) - (nI k - nI d) = nI d - nI k from by grind]
        exact pk_sub_toInt (by omega) (by omega)
    by_cases c3 : k = d + 2 ∨ d = k + 2
    · rw [if_pos c3, if_pos]
      apply Int32.toInt_inj.mp
      rw [e2, show (2 : Int32).toInt = 2 from by decide]
      by_cases c2 : (d : Int) ≤ k
      · rw [if_pos c2]; omega
      · rw [if_neg c2]; omega
    · rw [if_neg c3, if_neg]
      intro q
      have q := congrArg Int32.toInt q
      rw [e2, show (2 : Int32).toInt = 2 from by decide] at q
      by_cases c2 : (d : Int) ≤ k
      · rw [if_pos c2] at q; omega
      · rw [if_neg c2] at q; omega
theorem e_reachH {z : Nat → Nat} {M : Mem} {k d S D : Nat} (hk : k ≤ 3) (hd : d ≤ 3) : f_X0_reach z M (nI k) (nI d) (nI S) (nI (min S D)) = some (nI (Hx k d S D)) := by
  rw [e_reach hk hd]
  unfold Hx
  by_cases c : k = d
  · rw [if_pos c, if_pos c]
  · rw [if_neg c, if_neg c]
    by_cases c2 : k = d + 2 ∨ d = k + 2
    · rw [if_pos c2, if_pos c2]; rfl
    · rw [if_neg c2, if_neg c2]
theorem e_sc {z : Nat → Nat} {M : Mem} {f X Y S d D u : Nat} (h : FC z M f X Y S d D) (hu : u = 65 ∨ u = 66) : ∃ M1, f_X7_spreadCone z u (300 + f) M = some M1 ∧ (∀ m, m ≠ u → M1 m = M m) ∧ (M1 u 0).toInt = (X : Int) - Hx 2 d S D ∧ (M1 u 1).toInt = (X : Int) + Hx 0 d S D ∧ (M1 u 2).toInt = (Y : Int) - Hx 3 d S D ∧ (M1 u 3).toInt = (Y : Int) + Hx 1 d S D := by
  obtain ⟨a1, a2, a3, a4, a5, a6, a7, a8, a9, a10, a11, l, a12, a13, a14, a15, a16, a17, a18, a19, a20⟩ := h
  have hmin : imin (nI S) (nI D) = nI (min S D) := by
    unfold imin
    by_cases c : D < S
    · rw [if_pos (nI_lt c (by omega)), Nat.min_eq_right (by omega)]
    · rw [if_neg (nI_nlt (by omega) (by omega)), Nat.min_eq_left (by omega)]
  have H0 := Hx_le (k := 0) (d := d) (S := S) (D := D) a3
  have H1 := Hx_le (k := 1) (d := d) (S := S) (D := D) a3
  have H2 := Hx_le (k := 2) (d := d) (S := S) (D := D) a3
  have H3 := Hx_le (k := 3) (d := d) (S := S) (D := D) a3
  have r0 : ∀ M', f_X0_reach z M' 0 (nI d) (nI S) (nI (min S D)) = some (nI (Hx 0 d S D)) := fun M' => e_reachH (k := 0) (by omega) a4
  have r1 : ∀ M', f_X0_reach z M' 1 (nI d) (nI S) (nI (min S D)) = some (nI (Hx 1 d S D)) := fun M' => e_reachH (k := 1) (by omega) a4
  have r2 : ∀ M', f_X0_reach z M' 2 (nI d) (nI S) (nI (min S D)) = some (nI (Hx 2 d S D)) := fun M' => e_reachH (k := 2) (by omega) a4
  have r3 : ∀ M', f_X0_reach z M' 3 (nI d) (nI S) (nI (min S D)) = some (nI (Hx 3 d S D)) := fun M' => e_reachH (k := 3) (by omega) a4
  have rf : ∀ M' k v, mu M' u k v (300 + f) = M' (300 + f) := fun M' k v => mu_ne _ (by omega)
  unfold f_X7_spreadCone f_X7_spreadCone_21 f_X0_spread
  simp only [a15, e_liA a6 a7 a12, s_bd1, s_mqs, a20, a8, a9, hmin, r0, r1, r2, r3, rf, a13, a14, s_lt]
  refine ⟨_, rfl, fun m g => by rw [mu2_ne m g g, mu2_ne m g g], ?_, ?_, ?_, ?_⟩
  · rw [mu_k (by decide), mu_s]; exact pk_sub_toInt (by omega) (by omega)
  · rw [mu_k (by decide), mu_k (by decide), mu_k (by decide), mu_s, nI_add, nI_toInt (by omega)]; omega
  · rw [mu_s]; exact pk_sub_toInt (by omega) (by omega)
  · rw [mu_k (by decide), mu_k (by decide), mu_s, nI_add, nI_toInt (by omega)]; omega
def cl (x : Int) : Int := if x < 0 then 0 else if 199 < x then 199 else x
theorem e_143 {z : Nat → Nat} {M : Mem} {x : Int32} {e : Int} (h : x.toInt = e) : ∃ v, f_X8_endOf_143 z M x = some v ∧ v.toInt = cl e := by
  unfold f_X8_endOf_143 cl
  subst h
  by_cases c : 0 ≤ x
  · rw [if_pos c]
    rw [Int32.le_iff_toInt_le, show (0 : Int32).toInt = 0 from by decide] at c
    rw [if_neg (show ¬ x.toInt < 0 by omega)]
    by_cases c2 : x ≤ 199
    · rw [if_pos c2]
      rw [Int32.le_iff_toInt_le, show (199 : Int32).toInt = 199 from by decide] at c2
      exact ⟨x, rfl, by rw [if_neg (by omega)]⟩
    · rw [if_neg c2]
      rw [Int32.le_iff_toInt_le, show (199 : Int32).toInt = 199 from by decide] at c2
      exact ⟨199, rfl, by rw [if_pos (by omega)]; decide⟩
  · rw [if_neg c]
    rw [Int32.le_iff_toInt_le, show (0 : Int32).toInt = 0 from by decide] at c
    exact ⟨0, rfl, by rw [if_pos (by omega)]; decide⟩
theorem e_69 {z : Nat → Nat} {M : Mem} {a b d S D P : Nat} (ha : a = 0 ∨ a = 1) (hb : b = 0 ∨ b = 1) (hd : d ≤ 3) (hS : S ≤ 200) (hP : P ≤ 199) (h30 : M 0 30 = nI d) : ∃ v, f_X8_endOf_69 z M (if d % 2 = a then 1 else 0) (nI b) (nI S) (nI (min S D)) (nI P) = some v ∧ v.toInt = cl (if b = 0 then (P : Int) - Hx (a + 2) d S D else (P : Int) + Hx a d S D) := by
  have Hm : min S D ≤ 200 := by omega
  have s1 : ∀ e : Nat, e ≤ 200 → (nI P - nI e).toInt = (P : Int) - e := fun e he => pk_sub_toInt (by omega) (by omega)
  have s2 : ∀ e : Nat, e ≤ 200 → (nI P + nI e).toInt = (P : Int) + e := fun e he => by rw [nI_add, nI_toInt (by omega)]; omega
  have s3 : (nI P).toInt = (P : Int) - (0 : Nat) := by rw [nI_toInt (by omega)]; omega
  have s4 : (nI P).toInt = (P : Int) + (0 : Nat) := by rw [nI_toInt (by omega)]; omega
  unfold f_X8_endOf_69
  rw [h30]
  have hd4 : d = 0 ∨ d = 1 ∨ d = 2 ∨ d = 3 := by omega
  rcases ha with rfl | rfl <;> rcases hb with rfl | rfl <;> rcases hd4 with rfl | rfl | rfl | rfl <;> refine e_143 (z := z) (M := M) ?_ <;> first | rw [s1 _ hS] | rw [s2 _ hS] | rw [s1 _ Hm] | rw [s2 _ Hm] | rw [nI_toInt (show P < 2 ^ 31 by omega)]
  all_goals simp [Hx]
/-- the same, as the model alone has it -/
def FM (M : Mem) (f X Y S d D : Nat) : Prop := X ≤ 199 ∧ Y ≤ 199 ∧ S ≤ 200 ∧ d ≤ 3 ∧ D ≤ 200 ∧ M 0 30 = nI d ∧ M 0 31 = nI D ∧ ∃ l, l < 10 ∧ M 24 f = nI X ∧ M 25 f = nI Y ∧ M 26 f = nI l ∧ M 13 l = nI S
theorem FC.m {z : Nat → Nat} {M : Mem} {f X Y S d D : Nat} (h : FC z M f X Y S d D) : FM M f X Y S d D := by
  obtain ⟨a1, a2, a3, a4, a5, a6, a7, a8, a9, a10, a11, l, a12, a13, a14, a15, a16, a17, a18, a19, a20⟩ := h
  exact ⟨a1, a2, a3, a4, a5, a10, a11, l, by omega, a16, a17, a18, a19⟩
theorem FM.r {M M' : Mem} {f X Y S d D : Nat} (h : FM M f X Y S d D) (R : ∀ m, m < 50 → M' m = M m) : FM M' f X Y S d D := by
  unfold FM at *
  rw [R 0 (by omega), R 24 (by omega), R 25 (by omega), R 26 (by omega), R 13 (by omega)]
  exact h
theorem e_end {z : Nat → Nat} {M : Mem} {f X Y S d D a b : Nat} (h : FM M f X Y S d D) (hf : f < 10) (ha : a = 0 ∨ a = 1) (hb : b = 0 ∨ b = 1) : ∃ v, f_X8_endOf z M (nI f) (nI a) (nI b) = some v ∧ v.toInt = cl (if b = 0 then ((if a = 0 then X else Y : Nat) : Int) - Hx (a + 2) d S D else ((if a = 0 then X else Y : Nat) : Int) + Hx a d S D) := by
  obtain ⟨a1, a2, a3, a4, a5, a10, a11, l, a12, a16, a17, a18, a19⟩ := h
  have e : f_X8_endOf z M (nI f) (nI a) (nI b) = f_X8_endOf_31 z M (nI (min S D)) (nI f) (nI a) (nI b) (nI S) := by
    unfold f_X8_endOf
    rw [inb_nI hf (by decide), s_ck, nI_clamp (by omega), a18, inb_nI (by omega) (by decide), s_ck, nI_clamp (by omega), a19, a11]
    by_cases c : D ≤ S
    · rw [if_pos (nI_le c (by omega)), Nat.min_eq_right c]
    · rw [if_neg (nI_ge (by omega) (by omega)), Nat.min_eq_left (by omega)]
  have er : irem (nI d) 2 = nI (d % 2) := pk_rem (d := 2) (by omega) (by decide) (by decide)
  rw [e]
  unfold f_X8_endOf_31
  rw [inb_nI hf (by decide), s_ck, s_ck, nI_clamp (by omega), a16, a17, a10, er]
  rcases ha with rfl | rfl
  · rw [if_pos (show nI 0 = 0 from rfl)]
    obtain ⟨v, q1, q2⟩ := e_69 (z := z) (M := M) (a := 0) (b := b) (d := d) (D := D) (Or.inl rfl) hb a4 a3 a1 a10
    refine ⟨v, ?_, q2⟩
    rw [← q1]
    by_cases c : d % 2 = 0
    · rw [if_pos (show nI (d % 2) = nI 0 by rw [c]), if_pos c]
    · rw [if_neg (show ¬ nI (d % 2) = nI 0 from nI_ne c (by omega) (by omega)), if_neg c]
  · rw [if_neg (show ¬ nI 1 = 0 from by decide)]
    obtain ⟨v, q1, q2⟩ := e_69 (z := z) (M := M) (a := 1) (b := b) (d := d) (D := D) (Or.inr rfl) hb a4 a3 a2 a10
    refine ⟨v, ?_, q2⟩
    rw [← q1]
    by_cases c : d % 2 = 1
    · rw [if_pos (by rw [c]), if_pos c]
    · rw [if_neg (nI_ne c (by omega) (by omega)), if_neg c]
