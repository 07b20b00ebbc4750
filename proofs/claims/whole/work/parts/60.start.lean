/-! the start, and kites made -/
theorem hi_0' : Inv z0 M00 := by
  have a0 : M00 0 = mM 0 := rfl
  refine ⟨⟨by decide, by decide, by decide, rfl, rfl, rfl, rfl, rfl, rfl⟩, ⟨rfl, rfl, ⟨0, by decide, rfl⟩, 200, by decide, rfl⟩, ?_, ?_, ⟨fun i hi => absurd hi (Nat.not_lt_zero _), fun i _ _ => ⟨rfl, rfl⟩⟩, fun i hi => absurd hi (Nat.not_lt_zero _), ⟨fun i hi => absurd hi (Nat.not_lt_zero _), fun i _ _ => rfl⟩, ⟨fun i hi => absurd hi (Nat.not_lt_zero _), fun i _ _ => rfl, fun i hi => absurd hi (Nat.not_lt_zero _)⟩, fun i _ => rfl, ⟨0, by decide, rfl, rfl, fun k hk => absurd hk (Nat.not_lt_zero _)⟩, ⟨0, by decide, rfl, rfl, fun k hk => absurd hk (Nat.not_lt_zero _)⟩⟩
  · intro q hq
    refine ⟨rfl, rfl, ?_⟩
    have h : ∀ q, q < 18 → -99 ≤ (ta_L 18 q).toInt ∧ (ta_L 18 q).toInt ≤ 99 ∧ 0 ≤ (ta_D 18 q).toInt ∧ (ta_D 18 q).toInt ≤ 99 := by decide
    exact h q hq
  · intro b hb
    refine ⟨rfl, 10, by decide, ?_⟩
    show fi_F (fun _ => 0) 10 20 b = nI 10
    unfold fi_F
    rw [if_pos hb]
    rfl
