/-! knots of a line: read -/
theorem l_hk {z : Nat → Nat} {M : Mem} {l kn : Nat} {s : Int32} (hl : l < 10) (h2 : kn ≤ 10) (e1 : M 16 l = nI kn) (e2 : M (200 + 2 * l) 4 = nI kn) (hT : ∀ j, j < kn → M (200 + 2 * l + 1) j = M 17 (10 * l + j)) : ∀ (m k fu : Nat), k + m = kn → m < fu → ∃ b, f_X3_hasKnotAt_2 z (200 + 2 * l) M fu s (nI k) = some b ∧ ∀ M', M' 16 = M 16 → M' 17 = M 17 → f_X8_isWeak_2 z M' fu (nI l) s (nI k) = some b := by
  intro m
  induction m with
  | zero =>
    intro k fu h1 hf
    obtain ⟨fu, rfl⟩ : ∃ r, fu = r + 1 := ⟨fu - 1, by omega⟩
    refine ⟨false, by rw [f_X3_hasKnotAt_2, e2, if_pos (nI_le (by omega) (by omega))], fun M' q1 q2 => ?_⟩
    rw [f_X8_isWeak_2, inb_nI hl (by decide), s_ck, nI_clamp (by omega), q1, e1, if_pos (nI_le (by omega) (by omega))]
  | succ m ih =>
    intro k fu h1 hf
    obtain ⟨fu, rfl⟩ : ∃ r, fu = r + 1 := ⟨fu - 1, by omega⟩
    have E : ∀ M', M' 16 = M 16 → M' 17 = M 17 → f_X8_isWeak_2 z M' (fu + 1) (nI l) s (nI k) = if M 17 (10 * l + k) = s then some true else f_X8_isWeak_2 z M' fu (nI l) s (nI (k + 1)) := by
      intro M' q1 q2
      rw [f_X8_isWeak_2, inb_nI hl (by decide), s_ck, nI_clamp (by omega), q1, e1, if_neg (nI_ge (by omega) (by omega)), show (10 : Int32) = nI 10 from rfl, pk_mul, nI_add, inb_nI (by omega) (by decide), s_ck, nI_clamp (by omega), q2, nI_1]
    rw [f_X3_hasKnotAt_2, e2, if_neg (nI_ge (by omega) (by omega)), inb_nI (by omega) (by decide), s_ck, nI_clamp (by omega), hT k (by omega), nI_1]
    by_cases c : M 17 (10 * l + k) = s
    · rw [if_pos c]
      exact ⟨true, rfl, fun M' q1 q2 => by rw [E M' q1 q2, if_pos c]⟩
    · rw [if_neg c]
      obtain ⟨b, a1, a2⟩ := ih (k + 1) fu (by omega) (by omega)
      exact ⟨b, a1, fun M' q1 q2 => by rw [E M' q1 q2, if_neg c]; exact a2 M' q1 q2⟩
theorem e_hk {z : Nat → Nat} {M : Mem} {l : Nat} {s : Int32} (hz : z 1 ≤ 10) (h : Il z M) (hl : l < z 1) : ∃ b, f_X3_hasKnotAt z (200 + 2 * l) M s = some b ∧ ∀ M', M' 16 = M 16 → M' 17 = M 17 → f_X8_isWeak z M' (nI l) s = some b := by
  obtain ⟨-, -, -, -, -, -, kn, h2, e1, e2, hT⟩ := h.1 l hl
  exact l_hk (by omega) h2 e1 e2 hT kn 0 1000 (by omega) (by omega)
theorem e_isStep {z : Nat → Nat} {M : Mem} {l : Nat} {s : Int32} (hl : l < 10) : f_X8_isStep z M (nI l) s = some (wi s 1 (M 13 l)) := by
  unfold f_X8_isStep
  rw [inb_nI hl (by decide), s_ck, nI_clamp (by omega), e_in]
  rfl
