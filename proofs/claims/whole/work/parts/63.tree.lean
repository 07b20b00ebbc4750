/-! tree -/
theorem e_isPlace {z : Nat → Nat} {M : Mem} {v : Int32} : f_X7_isPlace z M v = some (wi v 0 39999) := by unfold f_X7_isPlace; rw [e_within]; rfl
theorem e_isPlaceM {z : Nat → Nat} {M : Mem} {v : Int32} : f_X8_isPlace z M v = some (wi v 0 39999) := by unfold f_X8_isPlace; rw [e_in]; rfl
theorem l_tr {z : Nat → Nat} {M : Mem} {t : Nat} {p : Int32} (h2 : t ≤ 20) (e5 : M 50 11 = nI t) (hT : ∀ i, i < t → M 61 i = M 33 i) : ∀ (m k fu : Nat), k + m = t → m < fu → (f_X7_hasTreeAt_2 z M fu p (nI k) = some true ∧ ∀ M', M' 0 32 = nI t → M' 33 = M 33 → f_X8_tree_11 z fu M' p (nI k) = some (-1, M')) ∨ (f_X7_hasTreeAt_2 z M fu p (nI k) = some false ∧ ∀ M', M' 0 32 = nI t → M' 33 = M 33 → f_X8_tree_11 z fu M' p (nI k) = if t = 20 then some (-3, M') else some (nI (t + 1), mu (mu M' 33 t p) 0 32 (nI (t + 1)))) := by
  intro m
  induction m with
  | zero =>
    intro k fu h1 hf
    obtain ⟨fu, rfl⟩ : ∃ r, fu = r + 1 := ⟨fu - 1, by omega⟩
    have e : k = t := by omega
    subst e
    right
    refine ⟨by rw [f_X7_hasTreeAt_2, e5, if_pos (nI_le (Nat.le_refl _) (by omega))], fun M' q1 q2 => ?_⟩
    rw [f_X8_tree_11, q1, if_pos (nI_le (Nat.le_refl _) (by omega))]
    by_cases c : k = 20
    · subst c; rw [if_pos (show nI 20 = 20 from rfl), if_pos rfl]
    · rw [if_neg (show ¬ nI k = 20 from fun e => c ((nI_eq (a := k) (b := 20) (by omega) (by decide)).mp e)), if_neg c, inb_nI (by omega) (by decide), s_ck, s_lt, nI_clamp (by omega), mu_s, show mu M' 33 k p 0 = M' 0 from mu_ne 0 (by decide), q1, nI_1]
  | succ m ih =>
    intro k fu h1 hf
    obtain ⟨fu, rfl⟩ : ∃ r, fu = r + 1 := ⟨fu - 1, by omega⟩
    rw [f_X7_hasTreeAt_2, e5, if_neg (nI_ge (by omega) (by omega)), inb_nI (by omega) (by decide), s_ck, nI_clamp (by omega), hT k (by omega), nI_1]
    have E : ∀ M', M' 0 32 = nI t → M' 33 = M 33 → f_X8_tree_11 z (fu + 1) M' p (nI k) = if M 33 k = p then some (-1, M') else f_X8_tree_11 z fu M' p (nI (k + 1)) := by
      intro M' q1 q2
      rw [f_X8_tree_11, q1, if_neg (nI_ge (by omega) (by omega)), inb_nI (by omega) (by decide), s_ck, nI_clamp (by omega), q2, nI_1]
    by_cases c : M 33 k = p
    · left
      exact ⟨by rw [if_pos c], fun M' q1 q2 => by rw [E M' q1 q2, if_pos c]⟩
    · rw [if_neg c]
      rcases ih (k + 1) fu (by omega) (by omega) with ⟨a, b⟩ | ⟨a, b⟩
      · exact Or.inl ⟨a, fun M' q1 q2 => by rw [E M' q1 q2, if_neg c]; exact b M' q1 q2⟩
      · exact Or.inr ⟨a, fun M' q1 q2 => by rw [E M' q1 q2, if_neg c]; exact b M' q1 q2⟩
theorem hi_tree : HI_tree Inv := by
  intro z M p1 inv
  obtain ⟨hc, hd, ht, hw, hk, hy, hl, hf, ha, hr, he⟩ := id inv
  obtain ⟨t, h2, e0, e5, hT⟩ := id he
  unfold f_X7_tree f_X8_tree f_X7_hasTreeAt
  simp only [e_isPlace, e_isPlaceM, s_bd1]
  cases h1 : wi p1 0 39999
  · exact ⟨_, M, M, rfl, rfl, inv⟩
  · obtain ⟨q, hq, rfl⟩ := wi_cst (n := 39999) (by decide) h1
    simp only [eq_self, if_true]
    rcases l_tr (z := z) (p := nI q) h2 e5 (fun i hi => (hT i hi).1) t 0 1000 (by omega) (by omega) with ⟨a, b⟩ | ⟨a, b⟩
    · rw [nI_0] at a b
      rw [a]
      exact ⟨-1, M, M, rfl, b M e0 rfl, inv⟩
    · rw [nI_0] at a b
      rw [a, s_bd1, b_f, e5]
      by_cases c : t = 20
      · subst c
        exact ⟨-3, M, M, rfl, by rw [b M e0 rfl, if_pos rfl], inv⟩
      · have r5 : mu M 61 t (nI q) 50 = M 50 := mu_ne 50 (by decide)
        rw [if_pos (show nI t < 20 from nI_lt (a := t) (b := 20) (by omega) (by decide)), inb_nI (by omega) (by decide), s_ck, s_lt, nI_clamp (by omega), r5, e5, nI_1, mu_s]
        have R1 : ∀ m, m ≠ 61 → m ≠ 50 → mu (mu M 61 t (nI q)) 50 11 (nI (t + 1)) m = M m := fun m h h' => mu2_ne m h h'
        refine ⟨nI (t + 1), mu (mu M 61 t (nI q)) 50 11 (nI (t + 1)), mu (mu (mu (mu M 61 t (nI q)) 50 11 (nI (t + 1))) 33 t (nI q)) 0 32 (nI (t + 1)), rfl, by rw [b _ (by rw [R1 0 (by decide) (by decide)]; exact e0) (R1 33 (by decide) (by decide)), if_neg c], ?_⟩
        have R : ∀ m, m ≠ 61 → m ≠ 50 → m ≠ 33 → m ≠ 0 → mu (mu (mu (mu M 61 t (nI q)) 50 11 (nI (t + 1))) 33 t (nI q)) 0 32 (nI (t + 1)) m = M m := fun m a1 a2 a3 a4 => by rw [mu2_ne m a3 a4, R1 m a1 a2]
        have w0 : ∀ k, k ≠ 32 → mu (mu (mu (mu M 61 t (nI q)) 50 11 (nI (t + 1))) 33 t (nI q)) 0 32 (nI (t + 1)) 0 k = M 0 k := fun k h => by rw [mu_k h, mu_ne 0 (by decide), R1 0 (by decide) (by decide)]
        have w5 : ∀ k, k ≠ 11 → mu (mu (mu (mu M 61 t (nI q)) 50 11 (nI (t + 1))) 33 t (nI q)) 0 32 (nI (t + 1)) 50 k = M 50 k := fun k h => by rw [mu2_ne 50 (by decide) (by decide), mu_k h, r5]
        refine ⟨hc.k (w0 _ (by decide)) (w0 _ (by decide)) (w0 _ (by decide)) (w5 _ (by decide)) (w5 _ (by decide)) (w5 _ (by decide)), hd.k (w0 _ (by decide)) (w0 _ (by decide)) (w5 _ (by decide)) (w5 _ (by decide)), ht.r (R _ (by decide) (by decide) (by decide) (by decide)) (R _ (by decide) (by decide) (by decide) (by decide)) (R _ (by decide) (by decide) (by decide) (by decide)) (R _ (by decide) (by decide) (by decide) (by decide)), hw.r (R _ (by decide) (by decide) (by decide) (by decide)) (R _ (by decide) (by decide) (by decide) (by decide)), hk.r (fun n _ _ => R n (by omega) (by omega) (by omega) (by omega)) (fun n _ _ => R n (by omega) (by omega) (by omega) (by omega)), hy.r (R _ (by decide) (by decide) (by decide) (by decide)) (R _ (by decide) (by decide) (by decide) (by decide)) (R _ (by decide) (by decide) (by decide) (by decide)) (fun i _ => by rw [R _ (by omega) (by omega) (by omega) (by omega)]), hl.r (fun n _ _ => R n (by omega) (by omega) (by omega) (by omega)) (fun n _ _ => R n (by omega) (by omega) (by omega) (by omega)), hf.r (fun n _ _ => R n (by omega) (by omega) (by omega) (by omega)) (fun n _ _ => R n (by omega) (by omega) (by omega) (by omega)), ha.r (R _ (by decide) (by decide) (by decide) (by decide)) (R _ (by decide) (by decide) (by decide) (by decide)), hr.r (w0 _ (by decide)) (R _ (by decide) (by decide) (by decide) (by decide)) (R _ (by decide) (by decide) (by decide) (by decide)) (R _ (by decide) (by decide) (by decide) (by decide)) (R _ (by decide) (by decide) (by decide) (by decide)) (R _ (by decide) (by decide) (by decide) (by decide)), ⟨t + 1, by omega, by rw [mu_s], by rw [mu2_ne 50 (by decide) (by decide), mu_s], fun i hi => ?_⟩⟩
        rw [mu2_ne 61 (by decide) (by decide), mu_ne 61 (by decide), mu_eq, mu_ne 33 (by decide), mu_eq, R1 33 (by decide) (by decide)]
        unfold va_up
        by_cases e : i = t
        · rw [if_pos e, if_pos e]; exact ⟨rfl, q, by omega, rfl⟩
        · rw [if_neg e, if_neg e]; exact hT i (by omega)
