/-! table -/
theorem e_repL {z : Nat → Nat} {M : Mem} {q : Nat} {v : Int32} (hT : TV M) (hq : q < 18) : f_X4_replaceLift z M (nI q) v = some (M 9 q, mu M 70 q v) := by
  unfold f_X4_replaceLift
  rw [e_liftAt hT hq, s_bd1, e_isAngle, wi_nI (n := 17) (by decide) (by omega) (by omega), s_bd1, b_t, inb_nI hq (by decide), s_ck, nI_clamp (by omega)]
theorem e_repD {z : Nat → Nat} {M : Mem} {q : Nat} {v : Int32} (hT : TV M) (hq : q < 18) : f_X4_replaceDrag z M (nI q) v = some (M 10 q, mu M 71 q v) := by
  unfold f_X4_replaceDrag
  rw [e_dragAt hT hq, s_bd1, e_isAngle, wi_nI (n := 17) (by decide) (by omega) (by omega), s_bd1, b_t, inb_nI hq (by decide), s_ck, nI_clamp (by omega)]
theorem hi_table : HI_table Inv := by
  intro z M p1 p2 p3 inv
  obtain ⟨hc, hd, ht, hw, hk, hy, hl, hf, ha, hr, he⟩ := id inv
  unfold f_X7_table f_X8_table f_X8_table_27 f_X8_table_57
  simp only [e_isAngle, e_isAngleM, e_within, e_in, s_bd1]
  cases h1 : wi p1 0 17
  · exact ⟨_, M, M, rfl, rfl, inv⟩
  · obtain ⟨q, hq, rfl⟩ := wi_ang h1
    cases h2 : wi p2 0 1
    · exact ⟨_, M, M, rfl, rfl, inv⟩
    · simp only [b_t, e_repL ht.tv hq, e_repD ht.tv hq, s_bd2, inb_nI hq (show 18 < 2 ^ 31 by decide), s_ck, nI_clamp (show q < 2 ^ 31 by omega)]
      by_cases c : p2 = 0
      · simp only [c, if_true]
        cases h3 : wi p3 (-99) 99
        · exact ⟨_, M, M, rfl, rfl, inv⟩
        · have hb := wi_t.mp h3
          rw [show (-99 : Int32).toInt = -99 from by decide, show (99 : Int32).toInt = 99 from by decide] at hb
          refine ⟨M 9 q, mu M 70 q p3, mu (mu M 70 q p3) 9 q p3, rfl, by rw [mu_ne 9 (by decide)]; rfl, ?_⟩
          have R : ∀ m, m ≠ 70 → m ≠ 9 → mu (mu M 70 q p3) 9 q p3 m = M m := fun m h h' => mu2_ne m h h'
          refine ⟨hc.r (R 0 (by decide) (by decide)) (R 50 (by decide) (by decide)), hd.r (R 0 (by decide) (by decide)) (R 50 (by decide) (by decide)), fun b hb9 => ?_, hw.r (R _ (by decide) (by decide)) (R _ (by decide) (by decide)), hk.r (fun n _ _ => R n (by omega) (by omega)) (fun n _ _ => R n (by omega) (by omega)), hy.r (R _ (by decide) (by decide)) (R _ (by decide) (by decide)) (R _ (by decide) (by decide)) (fun i _ => by rw [R _ (by omega) (by omega)]), hl.r (fun n _ _ => R n (by omega) (by omega)) (fun n _ _ => R n (by omega) (by omega)), hf.r (fun n _ _ => R n (by omega) (by omega)) (fun n _ _ => R n (by omega) (by omega)), ha.r (R _ (by decide) (by decide)) (R _ (by decide) (by decide)), hr.r (by rw [R 0 (by decide) (by decide)]) (R _ (by decide) (by decide)) (R _ (by decide) (by decide)) (R _ (by decide) (by decide)) (R _ (by decide) (by decide)) (R _ (by decide) (by decide)), he.r (by rw [R 0 (by decide) (by decide)]) (by rw [R 50 (by decide) (by decide)]) (R _ (by decide) (by decide)) (R _ (by decide) (by decide))⟩
          rw [R 10 (by decide) (by decide), R 71 (by decide) (by decide), mu_eq, mu_ne 70 (by decide), mu_eq, mu_ne 9 (by decide)]
          unfold va_up
          by_cases e : b = q
          · rw [if_pos e, if_pos e]; exact ⟨rfl, (ht b hb9).2.1, hb.1, hb.2, (ht b hb9).2.2.2.2⟩
          · rw [if_neg e, if_neg e]; exact ht b hb9
      · simp only [c, if_false, if_true]
        cases h3 : wi p3 0 99
        · exact ⟨_, M, M, rfl, rfl, inv⟩
        · have hb := wi_t.mp h3
          rw [show (0 : Int32).toInt = 0 from by decide, show (99 : Int32).toInt = 99 from by decide] at hb
          refine ⟨M 10 q, mu M 71 q p3, mu (mu M 71 q p3) 10 q p3, rfl, by rw [mu_ne 10 (by decide)]; rfl, ?_⟩
          have R : ∀ m, m ≠ 71 → m ≠ 10 → mu (mu M 71 q p3) 10 q p3 m = M m := fun m h h' => mu2_ne m h h'
          refine ⟨hc.r (R 0 (by decide) (by decide)) (R 50 (by decide) (by decide)), hd.r (R 0 (by decide) (by decide)) (R 50 (by decide) (by decide)), fun b hb9 => ?_, hw.r (R _ (by decide) (by decide)) (R _ (by decide) (by decide)), hk.r (fun n _ _ => R n (by omega) (by omega)) (fun n _ _ => R n (by omega) (by omega)), hy.r (R _ (by decide) (by decide)) (R _ (by decide) (by decide)) (R _ (by decide) (by decide)) (fun i _ => by rw [R _ (by omega) (by omega)]), hl.r (fun n _ _ => R n (by omega) (by omega)) (fun n _ _ => R n (by omega) (by omega)), hf.r (fun n _ _ => R n (by omega) (by omega)) (fun n _ _ => R n (by omega) (by omega)), ha.r (R _ (by decide) (by decide)) (R _ (by decide) (by decide)), hr.r (by rw [R 0 (by decide) (by decide)]) (R _ (by decide) (by decide)) (R _ (by decide) (by decide)) (R _ (by decide) (by decide)) (R _ (by decide) (by decide)) (R _ (by decide) (by decide)), he.r (by rw [R 0 (by decide) (by decide)]) (by rw [R 50 (by decide) (by decide)]) (R _ (by decide) (by decide)) (R _ (by decide) (by decide))⟩
          rw [R 9 (by decide) (by decide), R 70 (by decide) (by decide), mu_eq, mu_ne 71 (by decide), mu_eq, mu_ne 10 (by decide)]
          unfold va_up
          by_cases e : b = q
          · rw [if_pos e, if_pos e]; exact ⟨(ht b hb9).1, rfl, (ht b hb9).2.2.1, (ht b hb9).2.2.2.1, hb.1, hb.2⟩
          · rw [if_neg e, if_neg e]; exact ht b hb9
