/-! cone, why, fly -/
def CR (M : Mem) (u X Y S d D : Nat) : Prop := (M u 0).toInt = (X : Int) - Hx 2 d S D ∧ (M u 1).toInt = (X : Int) + Hx 0 d S D ∧ (M u 2).toInt = (Y : Int) - Hx 3 d S D ∧ (M u 3).toInt = (Y : Int) + Hx 1 d S D
theorem cl_1 {x : Int} {a : Nat} (ha : a ≤ 199) (h : x ≤ 199) : cl x ≤ a ↔ x ≤ a := by unfold cl; split <;> (try split) <;> omega
theorem cl_2 {x : Int} {a : Nat} (ha : a ≤ 199) (h : 0 ≤ x) : (a : Int) ≤ cl x ↔ (a : Int) ≤ x := by unfold cl; split <;> (try split) <;> omega
theorem cl_3 {x y : Int} (h : 0 ≤ x) (h2 : y ≤ 199) : cl x < cl y ↔ x < y := by unfold cl; split <;> (try split) <;> (try split) <;> (try split) <;> omega
theorem wi_cl {a : Nat} {lo hi lo' hi' : Int32} (ha : a ≤ 199) (h1 : lo'.toInt = cl lo.toInt) (h2 : hi'.toInt = cl hi.toInt) (g1 : lo.toInt ≤ 199) (g2 : 0 ≤ hi.toInt) : wi (nI a) lo' hi' = wi (nI a) lo hi := by
  unfold wi
  rw [h1, h2, nI_toInt (by omega), decide_eq_decide.mpr (cl_1 ha g1), decide_eq_decide.mpr (cl_2 ha g2)]
theorem lt_cl {x y x' y' : Int32} (h1 : x'.toInt = cl x.toInt) (h2 : y'.toInt = cl y.toInt) (g1 : 0 ≤ x.toInt) (g2 : y.toInt ≤ 199) : x' < y' ↔ x < y := by
  rw [Int32.lt_iff_toInt_lt, Int32.lt_iff_toInt_lt, h1, h2, cl_3 g1 g2]
/-- the four ends of a flyer's cone, on both sides -/
theorem e_ends {z : Nat → Nat} {M My : Mem} {u f X Y S d D : Nat} (hf : f < 10) (hC : CR M u X Y S d D) (hF : FM My f X Y S d D) : ∃ a b c e, f_X8_endOf z My (nI f) 0 0 = some a ∧ f_X8_endOf z My (nI f) 0 1 = some b ∧ f_X8_endOf z My (nI f) 1 0 = some c ∧ f_X8_endOf z My (nI f) 1 1 = some e ∧ a.toInt = cl (M u 0).toInt ∧ b.toInt = cl (M u 1).toInt ∧ c.toInt = cl (M u 2).toInt ∧ e.toInt = cl (M u 3).toInt ∧ (M u 0).toInt ≤ 199 ∧ 0 ≤ (M u 1).toInt ∧ (M u 2).toInt ≤ 199 ∧ 0 ≤ (M u 3).toInt := by
  obtain ⟨a, a1, a2⟩ := e_end (a := 0) (b := 0) hF hf (Or.inl rfl) (Or.inl rfl)
  obtain ⟨b, b1, b2⟩ := e_end (a := 0) (b := 1) hF hf (Or.inl rfl) (Or.inr rfl)
  obtain ⟨c, c1, c2⟩ := e_end (a := 1) (b := 0) hF hf (Or.inr rfl) (Or.inl rfl)
  obtain ⟨e, e1, e2⟩ := e_end (a := 1) (b := 1) hF hf (Or.inr rfl) (Or.inr rfl)
  obtain ⟨k0, k1, k2, k3⟩ := hC
  have hX := hF.1
  have hY := hF.2.1
  refine ⟨a, b, c, e, a1, b1, c1, e1, ?_, ?_, ?_, ?_, by omega, by omega, by omega, by omega⟩
  · rw [k0]; exact a2
  · rw [k1]; exact b2
  · rw [k2]; exact c2
  · rw [k3]; exact e2
theorem e_holds {z : Nat → Nat} {M : Mem} {f X Y S d D q : Nat} (hf : f < 10) (hC : CR M 65 X Y S d D) (hq : q < 40000) : ∃ b, f_X0_holds z 65 M (nI q) = some b ∧ ∀ My : Mem, FM My f X Y S d D → f_X8_isInCone z My (nI f) (nI q) = some b := by
  have d1 : nI q / 200 = nI (q / 200) := pk_div (d := 200) (by omega) (by decide) (by decide)
  have d2 : irem (nI q) 200 = nI (q % 200) := pk_rem (d := 200) (by omega) (by decide) (by decide)
  refine ⟨wi (nI (q / 200)) (M 65 0) (M 65 1) && wi (nI (q % 200)) (M 65 2) (M 65 3), ?_, fun My hF => ?_⟩
  · unfold f_X0_holds
    rw [d1, d2, e_within, e_within, s_bd1, s_bd1]
    cases wi (nI (q / 200)) (M 65 0) (M 65 1) <;> cases wi (nI (q % 200)) (M 65 2) (M 65 3) <;> rfl
  · obtain ⟨a, b, c, e, a1, b1, c1, e1, a2, b2, c2, e2, a3, b3, c3, e3⟩ := e_ends hf hC hF
    unfold f_X8_isInCone
    rw [a1, b1, c1, e1, d1, d2, s_bd1, s_bd1, e_in, s_bd1, s_bd1, s_bd1, e_in, s_bd1, wi_cl (by omega) a2 b2 a3 b3, wi_cl (by omega) c2 e2 c3 e3]
    cases wi (nI (q / 200)) (M 65 0) (M 65 1) <;> cases wi (nI (q % 200)) (M 65 2) (M 65 3) <;> rfl
theorem le_nlt {x y : Int32} : x ≤ y ↔ ¬ y < x := by rw [Int32.le_iff_toInt_le, Int32.lt_iff_toInt_lt]; omega
theorem e_meets {z : Nat → Nat} {M : Mem} {f g X Y S X' Y' S' d D : Nat} (hf : f < 10) (hg : g < 10) (hC : CR M 65 X Y S d D) (hC' : CR M 66 X' Y' S' d D) : ∃ b, f_X0_meets z 65 66 M = some b ∧ ∀ My : Mem, FM My f X Y S d D → FM My g X' Y' S' d D → f_X8_doMeet z My (nI f) (nI g) = some b := by
  have key : ∀ My : Mem, FM My f X Y S d D → FM My g X' Y' S' d D → f_X8_doMeet z My (nI f) (nI g) = f_X0_meets z 65 66 M := by
    intro My hF hG
    obtain ⟨a, b, c, e, a1, b1, c1, e1, a2, b2, c2, e2, a3, b3, c3, e3⟩ := e_ends hf hC hF
    obtain ⟨a', b', c', e', a1', b1', c1', e1', a2', b2', c2', e2', a3', b3', c3', e3'⟩ := e_ends hg hC' hG
    unfold f_X8_doMeet f_X0_meets
    have G : ∀ fu, f_X8_doMeet_2 z My (fu + 3) (nI f) (nI g) 0 = if M 66 1 < M 65 0 then some false else if M 65 1 < M 66 0 then some false else if M 66 3 < M 65 2 then some false else if M 65 3 < M 66 2 then some false else some true := by
      intro fu
      rw [f_X8_doMeet_2, if_neg (show ¬ (2 : Int32) ≤ 0 from by decide), a1, s_bd1, b1', s_bd1, a1', s_bd1, b1, s_bd1, show (0 : Int32) + 1 = 1 from by decide]
      by_cases q1 : M 66 1 < M 65 0
      · rw [if_pos q1, if_pos ((lt_cl b2' a2 b3' a3).mpr q1)]
      rw [if_neg q1, if_neg (fun w => q1 ((lt_cl b2' a2 b3' a3).mp w))]
      by_cases q2 : M 65 1 < M 66 0
      · rw [if_pos q2, if_neg (fun w => le_nlt.mp w ((lt_cl b2 a2' b3 a3').mpr q2))]
      rw [if_neg q2, if_pos (le_nlt.mpr fun w => q2 ((lt_cl b2 a2' b3 a3').mp w)), f_X8_doMeet_2, if_neg (show ¬ (2 : Int32) ≤ 1 from by decide), c1, s_bd1, e1', s_bd1, c1', s_bd1, e1, s_bd1, show (1 : Int32) + 1 = 2 from by decide]
      by_cases q3 : M 66 3 < M 65 2
      · rw [if_pos q3, if_pos ((lt_cl e2' c2 e3' c3).mpr q3)]
      rw [if_neg q3, if_neg (fun w => q3 ((lt_cl e2' c2 e3' c3).mp w))]
      by_cases q4 : M 65 3 < M 66 2
      · rw [if_pos q4, if_neg (fun w => le_nlt.mp w ((lt_cl e2 c2' e3 c3').mpr q4))]
      rw [if_neg q4, if_pos (le_nlt.mpr fun w => q4 ((lt_cl e2 c2' e3 c3').mp w)), f_X8_doMeet_2, if_pos (show (2 : Int32) ≤ 2 from by decide)]
    exact G 997
  have ex : ∃ b, f_X0_meets z 65 66 M = some b := by
    unfold f_X0_meets
    by_cases q1 : M 66 1 < M 65 0
    · exact ⟨_, if_pos q1⟩
    rw [if_neg q1]
    by_cases q2 : M 65 1 < M 66 0
    · exact ⟨_, if_pos q2⟩
    rw [if_neg q2]
    by_cases q3 : M 66 3 < M 65 2
    · exact ⟨_, if_pos q3⟩
    rw [if_neg q3]
    by_cases q4 : M 65 3 < M 66 2
    · exact ⟨_, if_pos q4⟩
    exact ⟨_, if_neg q4⟩
  obtain ⟨b, hb⟩ := ex
  exact ⟨b, hb, fun My hF hG => by rw [key My hF hG, hb]⟩
theorem CR.r {M M' : Mem} {u X Y S d D : Nat} (h : CR M u X Y S d D) (e : M' u = M u) : CR M' u X Y S d D := by
  unfold CR at *; rw [e]; exact h
theorem l_45 {z : Nat → Nat} {M : Mem} {f X Y S d D u : Nat} (inv : Inv z M) (hf : f < z 2) (hF : FC z M f X Y S d D) (hall : ∀ f, f < z 2 → ∃ X Y S, FC z M f X Y S d D) : ∀ (m k fu : Nat) (M' : Mem), (∀ m, ¬ (m = 65 ∨ m = 66) → M' m = M m) → CR M' 65 X Y S d D → k + m = z 2 → m < fu → ∃ r M2, f_X7_reasonAgainst_45 z u fu M' (nI f) (nI k) = some (r, M2) ∧ (∀ m, ¬ (m = 65 ∨ m = 66) → M2 m = M m) ∧ (r = 0 ∨ r = 1 ∨ r = 2) ∧ ∀ My : Mem, (∀ m, m < 50 → My m = M m) → f_X8_whyNot_34 z My fu (nI f) (nI k) = some r := by
  obtain ⟨hc, hd, ht, hw, hk, hy, hl, hff, ha, hr, he⟩ := id inv
  obtain ⟨hz0, hz1, hz2, c1, c2, c3, c4, c5, c6⟩ := id hc
  intro m
  induction m with
  | zero =>
    intro k fu M' R hC h1 h2
    obtain ⟨fu, rfl⟩ : ∃ r, fu = r + 1 := ⟨fu - 1, by omega⟩
    refine ⟨0, M', ?_, R, Or.inl rfl, fun My RY => ?_⟩
    · rw [f_X7_reasonAgainst_45, R 50 (by omega), c6, if_pos (nI_le (by omega) (by omega))]
    · rw [f_X8_whyNot_34, RY 0 (by omega), c5, if_pos (nI_le (by omega) (by omega))]
  | succ m ih =>
    intro k fu M' R hC h1 h2
    obtain ⟨fu, rfl⟩ : ∃ r, fu = r + 1 := ⟨fu - 1, by omega⟩
    have hk2 : k < z 2 := by omega
    have e7 : ∀ My : Mem, (∀ m, ¬ (m = 65 ∨ m = 66) → My m = M m) → My (300 + k) 3 = M 27 k := fun My RY => by rw [RY _ (by omega)]; exact (hff.1 k hk2).2.2.2.1
    have x1 : nI f * 10 + nI k = nI (10 * f + k) := by rw [show (10 : Int32) = nI 10 from rfl, pk_mul, nI_add, Nat.mul_comm]
    have x2 : 10 * nI f + nI k = nI (10 * f + k) := by rw [show (10 : Int32) = nI 10 from rfl, pk_mul, nI_add]
    have E : ∀ My : Mem, (∀ m, m < 50 → My m = M m) → f_X8_whyNot_34 z My (fu + 1) (nI f) (nI k) = if k = f then f_X8_whyNot_34 z My fu (nI f) (nI (k + 1)) else if M 27 k = 0 then f_X8_whyNot_34 z My fu (nI f) (nI (k + 1)) else if M 29 (10 * f + k) = 0 then bd1 (f_X8_doMeet z My (nI f) (nI k)) (fun r1 => if r1 = true then some 2 else f_X8_whyNot_34 z My fu (nI f) (nI (k + 1))) else f_X8_whyNot_34 z My fu (nI f) (nI (k + 1)) := by
      intro My RY
      rw [f_X8_whyNot_34, RY 0 (by omega), c5, if_neg (nI_ge (by omega) (by omega)), inb_nI (show k < 10 by omega) (by decide), s_ck, nI_clamp (show k < 2 ^ 31 by omega), RY 27 (by omega), x2, inb_nI (show 10 * f + k < 100 by omega) (by decide), s_ck, nI_clamp (show 10 * f + k < 2 ^ 31 by omega), RY 29 (by omega), nI_1]
      by_cases q : k = f
      · rw [if_pos q, if_pos (by rw [q])]
      · rw [if_neg q, if_neg (nI_ne q (by omega) (by omega))]
    rw [f_X7_reasonAgainst_45, R 50 (by omega), c6, if_neg (nI_ge (by omega) (by omega)), nI_1]
    by_cases q : k = f
    · obtain ⟨r, M2, g1, g2, g3, g4⟩ := ih (k + 1) fu M' R hC (by omega) (by omega)
      rw [if_pos (by rw [q])]
      exact ⟨r, M2, g1, g2, g3, fun My RY => by rw [E My RY, if_pos q]; exact g4 My RY⟩
    rw [if_neg (nI_ne q (by omega) (by omega))]
    unfold f_X7_isInTheWay
    rw [e_flA hz2 (by rw [R 50 (by omega)]; exact c6) hk2, s_bd1, s_mqs, e7 M' R]
    by_cases q2 : M 27 k = 0
    · obtain ⟨r, M2, g1, g2, g3, g4⟩ := ih (k + 1) fu M' R hC (by omega) (by omega)
      rw [if_pos q2]
      exact ⟨r, M2, g1, g2, g3, fun My RY => by rw [E My RY, if_neg q, if_pos q2]; exact g4 My RY⟩
    rw [if_neg q2, x1, inb_nI (show 10 * f + k < 100 by omega) (by decide), s_ck, nI_clamp (show 10 * f + k < 2 ^ 31 by omega), R 60 (by omega), ha _ (by omega)]
    by_cases q3 : M 29 (10 * f + k) = 0
    · obtain ⟨X', Y', S', hG⟩ := hall k hk2
      obtain ⟨M3, s1, s2, s3⟩ := e_sc (u := 66) (hG.r R) (Or.inr rfl)
      have R3 : ∀ m, ¬ (m = 65 ∨ m = 66) → M3 m = M m := fun m g => by rw [s2 m (by omega), R m g]
      have hC3 : CR M3 65 X Y S d D := hC.r (s2 65 (by decide))
      obtain ⟨b, b1, b2⟩ := e_meets (z := z) (f := f) (g := k) (by omega) (by omega) hC3 s3
      obtain ⟨r, M2, g1, g2, g3, g4⟩ := ih (k + 1) fu M3 R3 hC3 (by omega) (by omega)
      rw [if_pos q3, s1, s_bd1, b1, s_bd1, s_bd2]
      cases b
      · exact ⟨r, M2, g1, g2, g3, fun My RY => by rw [E My RY, if_neg q, if_neg q2, if_pos q3, b2 My (hF.m.r RY) (hG.m.r RY), s_bd1]; exact g4 My RY⟩
      · exact ⟨2, M3, rfl, R3, Or.inr (Or.inr rfl), fun My RY => by rw [E My RY, if_neg q, if_neg q2, if_pos q3, b2 My (hF.m.r RY) (hG.m.r RY), s_bd1]; rfl⟩
    · obtain ⟨r, M2, g1, g2, g3, g4⟩ := ih (k + 1) fu M' R hC (by omega) (by omega)
      rw [if_neg q3]
      exact ⟨r, M2, g1, g2, g3, fun My RY => by rw [E My RY, if_neg q, if_neg q2, if_neg q3]; exact g4 My RY⟩
theorem l_11 {z : Nat → Nat} {M : Mem} {f X Y S d D u t : Nat} (inv : Inv z M) (hf : f < z 2) (hF : FC z M f X Y S d D) (hall : ∀ f, f < z 2 → ∃ X Y S, FC z M f X Y S d D) (t1 : t ≤ 20) (t2 : M 0 32 = nI t) (t3 : M 50 11 = nI t) (t4 : ∀ i, i < t → M 61 i = M 33 i ∧ ∃ q, q < 40000 ∧ M 33 i = nI q) {M' : Mem} (R : ∀ m, ¬ (m = 65 ∨ m = 66) → M' m = M m) (hC : CR M' 65 X Y S d D) : ∀ (m k fu : Nat), k + m = t → m < fu → ∃ r M2, f_X7_reasonAgainst_11 z u fu M' (nI f) (nI k) = some (r, M2) ∧ (∀ m, ¬ (m = 65 ∨ m = 66) → M2 m = M m) ∧ (r = 0 ∨ r = 1 ∨ r = 2) ∧ ∀ My : Mem, (∀ m, m < 50 → My m = M m) → f_X8_whyNot_2 z My fu (nI f) (nI k) = some r := by
  have hz2 := inv.1.2.2.1
  intro m
  induction m with
  | zero =>
    intro k fu h1 h2
    obtain ⟨fu, rfl⟩ : ∃ r, fu = r + 1 := ⟨fu - 1, by omega⟩
    obtain ⟨r, M2, g1, g2, g3, g4⟩ := l_45 (u := u) inv hf hF hall (z 2) 0 1000 M' R hC (by omega) (by omega)
    refine ⟨r, M2, ?_, g2, g3, fun My RY => ?_⟩
    · rw [f_X7_reasonAgainst_11, R 50 (by omega), t3, if_pos (nI_le (by omega) (by omega))]; exact g1
    · rw [f_X8_whyNot_2, RY 0 (by omega), t2, if_pos (nI_le (by omega) (by omega))]; exact g4 My RY
  | succ m ih =>
    intro k fu h1 h2
    obtain ⟨fu, rfl⟩ : ∃ r, fu = r + 1 := ⟨fu - 1, by omega⟩
    obtain ⟨r, M2, g1, g2, g3, g4⟩ := ih (k + 1) fu (by omega) (by omega)
    obtain ⟨w1, q, w2, w3⟩ := t4 k (by omega)
    obtain ⟨b, b1, b2⟩ := e_holds (z := z) (f := f) (by omega) hC w2
    have E : ∀ My : Mem, (∀ m, m < 50 → My m = M m) → f_X8_whyNot_2 z My (fu + 1) (nI f) (nI k) = if b = true then some 1 else f_X8_whyNot_2 z My fu (nI f) (nI (k + 1)) := by
      intro My RY
      rw [f_X8_whyNot_2, RY 0 (by omega), t2, if_neg (nI_ge (by omega) (by omega)), inb_nI (show k < 20 by omega) (by decide), s_ck, nI_clamp (by omega), RY 33 (by omega), w3, b2 My (hF.m.r RY), s_bd1, nI_1]
    rw [f_X7_reasonAgainst_11, R 50 (by omega), t3, if_neg (nI_ge (by omega) (by omega)), inb_nI (show k < 20 by omega) (by decide), s_ck, nI_clamp (by omega), R 61 (by omega), w1, w3, b1, s_bd1, nI_1]
    cases b
    · exact ⟨r, M2, g1, g2, g3, fun My RY => by rw [E My RY]; exact g4 My RY⟩
    · exact ⟨1, M', rfl, R, Or.inr (Or.inl rfl), fun My RY => by rw [E My RY]; rfl⟩
theorem e_why {z : Nat → Nat} {M : Mem} {f : Nat} (inv : Inv z M) (hf : f < z 2) : ∃ r M2, f_X7_reasonAgainst z (300 + f) M (nI f) = some (r, M2) ∧ (∀ m, ¬ (m = 65 ∨ m = 66) → M2 m = M m) ∧ (r = 0 ∨ r = 1 ∨ r = 2) ∧ ∀ My : Mem, (∀ m, m < 50 → My m = M m) → f_X8_whyNot z My (nI f) = some r := by
  obtain ⟨d, D, hall⟩ := FC.of inv
  obtain ⟨X, Y, S, hF⟩ := hall f hf
  obtain ⟨-, -, -, -, -, -, -, -, -, -, t, t1, t2, t3, t4⟩ := id inv
  obtain ⟨M1, s1, s2, s3⟩ := e_sc (u := 65) hF (Or.inl rfl)
  obtain ⟨r, M2, g1, g2, g3, g4⟩ := l_11 (u := 300 + f) inv hf hF hall t1 t2 t3 t4 (M' := M1) (fun m g => s2 m (by omega)) s3 t 0 1000 (by omega) (by omega)
  refine ⟨r, M2, ?_, g2, g3, g4⟩
  unfold f_X7_reasonAgainst
  rw [s1, s_bd1]
  exact g1
theorem Inv.s {z : Nat → Nat} {M M' : Mem} (inv : Inv z M) (R : ∀ m, ¬ (m = 65 ∨ m = 66) → M' m = M m) : Inv z M' := by
  obtain ⟨hc, hd, ht, hw, hk, hy, hl, hf, ha, hr, he⟩ := id inv
  have hz := hc.1
  exact ⟨hc.r (R 0 (by omega)) (R 50 (by omega)), hd.r (R 0 (by omega)) (R 50 (by omega)), ht.r (R _ (by omega)) (R _ (by omega)) (R _ (by omega)) (R _ (by omega)), hw.r (R _ (by omega)) (R _ (by omega)), hk.r (fun n _ _ => R n (by omega)) (fun n _ _ => R n (by omega)), hy.r (R _ (by omega)) (R _ (by omega)) (R _ (by omega)) (fun i _ => by rw [R _ (by omega)]), hl.r (fun n _ _ => R n (by omega)) (fun n _ _ => R n (by omega)), hf.r (fun n _ _ => R n (by omega)) (fun n _ _ => R n (by omega)), ha.r (R _ (by omega)) (R _ (by omega)), hr.r (by rw [R 0 (by omega)]) (R _ (by omega)) (R _ (by omega)) (R _ (by omega)) (R _ (by omega)) (R _ (by omega)), he.r (by rw [R 0 (by omega)]) (by rw [R 50 (by omega)]) (R _ (by omega)) (R _ (by omega))⟩
theorem hi_why : HI_why Inv := by
  intro z M p1 inv
  have hc := id inv.1
  unfold f_X7_why f_X8_why
  rcases e_flyerAt (k := p1) hc.2.2.1 hc.2.2.2.2.2.2.2.2 hc.2.2.2.2.2.2.2.1 with ⟨j, hj, rfl, hx, hm⟩ | ⟨hx, hm⟩
  · rw [Nat.one_mul] at hx
    have hm1 := Option.some.inj ((e_isFlyer (z := z)).symm.trans (hm z))
    obtain ⟨r, M2, g1, g2, g3, g4⟩ := e_why inv hj
    refine ⟨r, M2, by rw [hx, s_bd1, s_mqs, g1]; rfl, ?_, inv.s g2⟩
    rw [e_isFlyer, g2 0 (by omega), hm1, s_bd1, b_t, g4 M2 (fun m g => g2 m (by omega))]
    rfl
  · exact ⟨-1, M, by rw [hx]; rfl, by rw [hm z]; rfl, inv⟩
theorem hi_cone : HI_cone Inv := by
  intro z M p1 p2 inv
  have hc := id inv.1
  unfold f_X7_cone f_X8_cone
  rcases e_flyerAt (k := p1) hc.2.2.1 hc.2.2.2.2.2.2.2.2 hc.2.2.2.2.2.2.2.1 with ⟨j, hj, rfl, hx, hm⟩ | ⟨hx, hm⟩
  · rw [Nat.one_mul] at hx
    have hm1 := Option.some.inj ((e_isFlyer (z := z)).symm.trans (hm z))
    have hz2 := hc.2.2.1
    simp only [hx, s_bd1, s_mqs, e_isPlace, e_isPlaceM, e_isFlyer]
    cases h2 : wi p2 0 39999
    · exact ⟨-1, M, rfl, by rw [hm1]; rfl, inv⟩
    · obtain ⟨q, hq, rfl⟩ := wi_cst (n := 39999) (by decide) h2
      obtain ⟨d, D, hall⟩ := FC.of inv
      obtain ⟨X, Y, S, hF⟩ := hall j hj
      obtain ⟨M1, s1, s2, s3⟩ := e_sc (u := 65) hF (Or.inl rfl)
      have R : ∀ m, ¬ (m = 65 ∨ m = 66) → M1 m = M m := fun m g => s2 m (by omega)
      obtain ⟨b, b1, b2⟩ := e_holds (z := z) (f := j) (q := q) (by omega) s3 (by omega)
      cases b
      · exact ⟨0, M1, by rw [s1, s_bd1, b1]; rfl, by rw [R 0 (by omega), hm1, b2 M1 (hF.m.r fun m g => R m (by omega))]; rfl, inv.s R⟩
      · exact ⟨1, M1, by rw [s1, s_bd1, b1]; rfl, by rw [R 0 (by omega), hm1, b2 M1 (hF.m.r fun m g => R m (by omega))]; rfl, inv.s R⟩
  · exact ⟨-1, M, by rw [hx]; rfl, by rw [hm z]; rfl, inv⟩
theorem hi_fly0 {z : Nat → Nat} {M M' : Mem} {j : Nat} {v : Int32} (inv : Inv z M) (hj : j < z 2) (R0 : ∀ m, ¬ (m = 65 ∨ m = 66) → M' m = M m) : Inv z (mu (mu M' (300 + j) 3 v) 27 j v) := by
  have inv := inv.s R0
  clear R0
  revert inv
  generalize M' = M
  intro inv
  obtain ⟨hc, hd, ht, hw, hk, hy, hl, hf, ha, hr, he⟩ := id inv
  have hz := hc.1
  have hz1 := hc.2.1
  generalize hM2 : mu (mu M (300 + j) 3 v) 27 j v = M2
  have R : ∀ m, ¬ (m = 27 ∨ m = 300 + j) → M2 m = M m := fun m g => by rw [← hM2, mu2_ne m (by omega) (by omega)]
  have Z27 : ∀ k, M2 27 k = if k = j then v else M 27 k := fun k => by rw [← hM2, mu_eq, mu_ne 27 (by omega)]; rfl
  have N : ∀ k, M2 (300 + j) k = if k = 3 then v else M (300 + j) k := fun k => by rw [← hM2, mu_ne _ (by omega), mu_eq]; rfl
  refine ⟨hc.r (R 0 (by omega)) (R 50 (by omega)), hd.r (R 0 (by omega)) (R 50 (by omega)), ht.r (R _ (by omega)) (R _ (by omega)) (R _ (by omega)) (R _ (by omega)), hw.r (R _ (by omega)) (R _ (by omega)), hk.r (fun n _ _ => R n (by omega)) (fun n _ _ => R n (by omega)), hy.r (R _ (by omega)) (R _ (by omega)) (R _ (by omega)) (fun i hi => by rw [R _ (by omega)]), hl.r (fun n _ _ => R n (by omega)) (fun n _ _ => R n (by omega)), ⟨fun f hf1 => ?_, fun f g1 g2 => ?_, fun l hl1 => ?_⟩, ha.r (R _ (by omega)) (R _ (by omega)), hr.r (by rw [R 0 (by omega)]) (R _ (by omega)) (R _ (by omega)) (R _ (by omega)) (R _ (by omega)) (R _ (by omega)), he.r (by rw [R 0 (by omega)]) (by rw [R 50 (by omega)]) (R _ (by omega)) (R _ (by omega))⟩
  · obtain ⟨q1, q2, q3, q4, q5⟩ := hf.1 f hf1
    rw [R 24 (by omega), R 25 (by omega), R 26 (by omega)]
    by_cases e : f = j
    · subst e
      exact ⟨by rw [N]; exact q1, by rw [N]; exact q2, by rw [N]; exact q3, by rw [N, Z27, if_pos rfl, if_pos rfl], q5⟩
    · rw [R (300 + f) (by omega), Z27, if_neg e]
      exact ⟨q1, q2, q3, q4, q5⟩
  · rw [Z27, if_neg (by omega)]; exact hf.2.1 f g1 g2
  · rw [R 28 (by omega), R 26 (by omega)]; exact hf.2.2 l hl1
theorem hi_fly : HI_fly Inv := by
  intro z M p1 p2 inv
  have hc := id inv.1
  unfold f_X7_fly f_X8_fly
  rcases e_flyerAt (k := p1) hc.2.2.1 hc.2.2.2.2.2.2.2.2 hc.2.2.2.2.2.2.2.1 with ⟨j, hj, rfl, hx, hm⟩ | ⟨hx, hm⟩
  · rw [Nat.one_mul] at hx
    have hm1 := Option.some.inj ((e_isFlyer (z := z)).symm.trans (hm z))
    have hz2 := hc.2.2.1
    simp only [hx, s_bd1, s_mqs, e_isFlyer, e_within, e_in]
    cases h2 : wi p2 0 1
    · exact ⟨-1, M, M, rfl, by rw [hm1]; rfl, inv⟩
    · rw [b_t]
      by_cases c : p2 = 1
      · subst c
        obtain ⟨r, M2, g1, g2, g3, g4⟩ := e_why inv hj
        rw [if_pos rfl, g1, s_bd2]
        by_cases q : r = 0
        · subst q
          have R3 : ∀ m, m < 50 → mu M2 (300 + j) 3 1 m = M m := fun m g => by rw [mu_ne m (by omega), g2 m (by omega)]
          refine ⟨1, mu M2 (300 + j) 3 1, mu (mu M2 (300 + j) 3 1) 27 j 1, rfl, ?_, hi_fly0 inv hj g2⟩
          rw [R3 0 (by omega), hm1, b_t, b_t, if_pos rfl, g4 _ R3, s_bd1, if_pos (show (0 : Int32) ≤ 0 from by decide)]
          unfold f_X8_fly_41
          rw [if_pos rfl, inb_nI (show j < 10 by omega) (by decide), s_ck, nI_clamp (by omega)]
        · rw [if_neg q]
          have q2 : ¬ r ≤ 0 := by rcases g3 with rfl | rfl | rfl <;> first | exact absurd rfl q | decide
          refine ⟨-10 - r, M2, M2, rfl, ?_, inv.s g2⟩
          rw [g2 0 (by omega), hm1, b_t, b_t, if_pos rfl, g4 _ (fun m g => g2 m (by omega)), s_bd1, if_neg q2]
          rfl
      · have R3 : mu M (300 + j) 3 0 0 = M 0 := mu_ne 0 (by omega)
        refine ⟨1, mu M (300 + j) 3 0, mu (mu M (300 + j) 3 0) 27 j 0, ?_, ?_, hi_fly0 inv hj (fun _ _ => rfl)⟩
        · unfold f_X7_fly_45
          rw [if_neg c, if_neg c]
        · unfold f_X8_fly_41
          rw [R3, hm1, b_t, b_t, if_neg c, if_neg c, inb_nI (show j < 10 by omega) (by decide), s_ck, nI_clamp (by omega)]
  · exact ⟨-1, M, M, by rw [hx]; rfl, by rw [hm z]; rfl, inv⟩
