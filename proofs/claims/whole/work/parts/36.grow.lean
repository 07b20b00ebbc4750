/-! a world that grows: kites, lines, flyers made -/
theorem vd_nd {A : Nat → Prop} {ws : va_W} : va_D A ws ↔ (ws.map (fun q => q.1)).Nodup ∧ ∀ q ∈ ws, A q.1 := by
  constructor
  · intro h
    refine ⟨?_, fun q hq => ?_⟩
    · refine List.pairwise_iff_getElem.mpr ?_
      intro i j hi hj hij he
      rw [List.length_map] at hi hj
      rw [List.getElem_map, List.getElem_map] at he
      have := h.1 i j _ _ (List.getElem?_eq_getElem hi) (List.getElem?_eq_getElem hj) he
      omega
    · obtain ⟨k, hk⟩ := List.getElem?_of_mem hq
      exact h.2 k q hk
  · intro h
    refine ⟨fun i j p q hi hj he => ?_, fun k q hk => h.2 q (List.mem_of_getElem? hk)⟩
    refine (List.getElem?_inj (l := ws.map (fun q => q.1)) (by rw [List.length_map]; exact (List.getElem?_eq_some_iff.mp hi).1) h.1).mp ?_
    rw [List.getElem?_map, List.getElem?_map, hi, hj]
    exact congrArg some he
theorem vd_perm {A : Nat → Prop} {ws ws' : va_W} (p : ws.Perm ws') (h : va_D A ws) : va_D A ws' := by
  rw [vd_nd] at h ⊢
  exact ⟨(p.map _).nodup_iff.mp h.1, fun q hq => h.2 q (p.mem_iff.mpr hq)⟩
theorem vp_perm {D : va_G} {cl : List vw_C} {ws ws' : va_W} {H : Heap} (p : ws.Perm ws') (h : va_P D cl ws H) : va_P D cl ws' H := by
  intro k q hk
  obtain ⟨j, hj⟩ := List.getElem?_of_mem (p.mem_iff.mpr (List.mem_of_getElem? hk))
  exact h j q hj
theorem wd_keep {G : GG} {z z' ad ad' : Nat → Nat} {M M' : Mem} {n : Nat} (h : n ∈ wd_nm z) (hM : M' n = M n) (ha : ∀ n ∈ wd_nm z, ad' n = ad n) (h0 : n = 52 → z' 0 = z 0) (h1 : n = 55 → z' 1 = z 1) (h2 : n = 58 → z' 2 = z 2) (hz : z 0 ≤ 25 ∧ z 1 ≤ 50) : wd_cell G z' ad' M' n = wd_cell G z ad M n := by
  have hf : ∀ n ∈ wd_f0, ad' n = ad n := fun n hn => ha n (in_fix hn)
  have e1 : wd_model ad' (M n) = wd_model ad (M n) := by
    simp only [wd_model, hf 2 (by decide), hf 3 (by decide), hf 4 (by decide), hf 5 (by decide), hf 6 (by decide), hf 7 (by decide), hf 8 (by decide), hf 9 (by decide), hf 10 (by decide), hf 11 (by decide), hf 13 (by decide), hf 14 (by decide), hf 15 (by decide), hf 16 (by decide), hf 17 (by decide), hf 18 (by decide), hf 19 (by decide), hf 20 (by decide), hf 21 (by decide), hf 22 (by decide), hf 24 (by decide), hf 25 (by decide), hf 26 (by decide), hf 27 (by decide), hf 28 (by decide), hf 29 (by decide), hf 33 (by decide), hf 35 (by decide), hf 36 (by decide), hf 37 (by decide)]
  have e2 : wd_book ad' (M n) = wd_book ad (M n) := by
    simp only [wd_book, hf 51 (by decide), hf 52 (by decide), hf 54 (by decide), hf 55 (by decide), hf 57 (by decide), hf 58 (by decide), hf 60 (by decide), hf 61 (by decide), hf 65 (by decide), hf 66 (by decide), hf 67 (by decide)]
  have k0 : wd_rfs ad' 100 4 (z 0) = wd_rfs ad 100 4 (z 0) := funext fun j => by
    unfold wd_rfs
    by_cases q : j < z 0
    · rw [if_pos q, if_pos q]
      exact congrArg some (ha _ (in_kite (n := 100 + 4 * j) ⟨j, q, by omega, rfl⟩ 0 (by decide)))
    · rw [if_neg q, if_neg q]
  have k1 : wd_rfs ad' 200 2 (z 1) = wd_rfs ad 200 2 (z 1) := funext fun j => by
    unfold wd_rfs
    by_cases q : j < z 1
    · rw [if_pos q, if_pos q]
      exact congrArg some (ha _ (in_line (n := 200 + 2 * j) ⟨j, q, by omega, rfl⟩ 0 (by decide)))
    · rw [if_neg q, if_neg q]
  have k2 : wd_rfs ad' 300 1 (z 2) = wd_rfs ad 300 1 (z 2) := funext fun j => by
    unfold wd_rfs
    by_cases q : j < z 2
    · rw [if_pos q, if_pos q, ha _ (in_flyer (n := 300 + 1 * j) ⟨j, q, by omega⟩)]
    · rw [if_neg q, if_neg q]
  rcases List.mem_append.mp h with h | h
  · have hlt : n < 100 := by
      have : ∀ n ∈ wd_f0, n < 100 := by decide
      exact this n h
    unfold wd_cell
    rw [if_pos hlt, if_pos hlt, hM]
    unfold wd_fix
    rw [e1, e2, hf 70 (by decide), hf 71 (by decide), hf 72 (by decide), hf 73 (by decide), hf 74 (by decide)]
    by_cases c0 : n = 52
    · subst c0; rw [h0 rfl, k0]; rfl
    · by_cases c1 : n = 55
      · subst c1; rw [h1 rfl, k1]; rfl
      · by_cases c2 : n = 58
        · subst c2; rw [h2 rfl, k2]; rfl
        · simp only [c0, c1, c2, if_false]
  · rcases List.mem_append.mp h with h | h
    · obtain ⟨x, hx, rfl⟩ := List.mem_map.mp h
      have hx := List.mem_range.mp hx
      have l1 : ¬ (100 + x) < 100 := by omega
      have l2 : (100 + x) < 200 := by omega
      unfold wd_cell
      rw [if_neg l1, if_neg l1, if_pos l2, if_pos l2, hM]
      by_cases c : (100 + x) % 4 = 0
      · rw [if_pos c, if_pos c]
        have hv : vK z (100 + x) := ⟨x / 4, by omega, by omega, by omega⟩
        simp only [wd_kite, ha _ (in_kite hv 1 (by decide)), ha _ (in_kite hv 2 (by decide)), ha _ (in_kite hv 3 (by decide))]
      · rw [if_neg c, if_neg c]
    · rcases List.mem_append.mp h with h | h
      · obtain ⟨x, hx, rfl⟩ := List.mem_map.mp h
        have hx := List.mem_range.mp hx
        have l1 : ¬ (200 + x) < 100 := by omega
        have l2 : ¬ (200 + x) < 200 := by omega
        have l3 : (200 + x) < 300 := by omega
        unfold wd_cell
        rw [if_neg l1, if_neg l1, if_neg l2, if_neg l2, if_pos l3, if_pos l3, hM]
        by_cases c : (200 + x) % 2 = 0
        · rw [if_pos c, if_pos c]
          have hv : vL z (200 + x) := ⟨x / 2, by omega, by omega, by omega⟩
          simp only [wd_line, ha _ (in_line hv 1 (by decide))]
        · rw [if_neg c, if_neg c]
      · obtain ⟨x, hx, rfl⟩ := List.mem_map.mp h
        have l1 : ¬ (300 + x) < 100 := by omega
        have l2 : ¬ (300 + x) < 200 := by omega
        have l3 : ¬ (300 + x) < 300 := by omega
        unfold wd_cell
        rw [if_neg l1, if_neg l1, if_neg l2, if_neg l2, if_neg l3, if_neg l3, hM]
/-- the old cells but one (name t, at place k), the new ones behind: the grown world -/
theorem wd_grow {G : GG} {z z' ad ad' : Nat → Nat} {M M' : Mem} {A : Nat → Prop} {k t : Nat} {e : va_E} {new : List Nat} {l : va_W} (hD : va_D A (wd_W G z ad M)) (hk : (wd_nm z)[k]? = some t) (he : wd_cell G z' ad' M' t = e) (hold : ∀ n ∈ wd_nm z, n ≠ t → wd_cell G z' ad' M' n = wd_cell G z ad M n) (ha : ∀ n ∈ wd_nm z, ad' n = ad n) (hnew : l = new.map (fun n => (ad' n, wd_cell G z' ad' M' n))) (hp : (wd_nm z ++ new).Perm (wd_nm z')) : ((wd_W G z ad M ++ l).set k (ad t, e)).Perm (wd_W G z' ad' M') := by
  have hkl : k < (wd_nm z).length := (List.getElem?_eq_some_iff.mp hk).1
  have ht : t ∈ wd_nm z := List.mem_of_getElem? hk
  have e1 : (wd_W G z ad M).set k (ad t, e) = (wd_nm z).map (fun n => (ad' n, wd_cell G z' ad' M' n)) := by
    apply List.ext_getElem?
    intro j
    by_cases hj : k = j
    · subst hj
      rw [List.getElem?_set_self (by simpa [wd_W] using hkl)]
      simp [hk, he, ha t ht]
    · rw [List.getElem?_set_ne hj]
      rcases hq : (wd_nm z)[j]? with _ | n'
      · simp [wd_W, hq]
      · have h1 : (wd_W G z ad M)[j]? = some (ad n', wd_cell G z ad M n') := by simp [wd_W, hq]
        have hm : n' ∈ wd_nm z := List.mem_of_getElem? hq
        rw [h1]
        by_cases hn : n' = t
        · subst hn
          exact absurd (hD.1 k j _ _ (show (wd_W G z ad M)[k]? = some (ad n', wd_cell G z ad M n') by simp [wd_W, hk]) h1 rfl) hj
        · simp [hq, ha n' hm, hold n' hm hn]
  rw [List.set_append_left _ _ (by simpa [wd_W] using hkl), e1, hnew, ← List.map_append]
  exact hp.map _
theorem rg_4 (n : Nat) : (List.range (4 * (n + 1))).map (100 + ·) = (List.range (4 * n)).map (100 + ·) ++ [100 + 4 * n, 100 + 4 * n + 1, 100 + 4 * n + 2, 100 + 4 * n + 3] := by
  rw [show 4 * (n + 1) = 4 * n + 1 + 1 + 1 + 1 from by omega, List.range_succ, List.range_succ, List.range_succ, List.range_succ]
  simp [Nat.add_assoc]
theorem rg_2 (n : Nat) : (List.range (2 * (n + 1))).map (200 + ·) = (List.range (2 * n)).map (200 + ·) ++ [200 + 2 * n, 200 + 2 * n + 1] := by
  rw [show 2 * (n + 1) = 2 * n + 1 + 1 from by omega, List.range_succ, List.range_succ]
  simp [Nat.add_assoc]
theorem rg_1 (n : Nat) : (List.range (n + 1)).map (300 + ·) = (List.range n).map (300 + ·) ++ [300 + n] := by
  rw [List.range_succ]
  simp
theorem pm_K {z : Nat → Nat} : (wd_nm z ++ [100 + 4 * z 0, 100 + 4 * z 0 + 1, 100 + 4 * z 0 + 2, 100 + 4 * z 0 + 3]).Perm (wd_nm (va_up z 0 (z 0 + 1))) := by
  unfold wd_nm
  have h0 : va_up z 0 (z 0 + 1) 0 = z 0 + 1 := rfl
  have h1 : va_up z 0 (z 0 + 1) 1 = z 1 := rfl
  have h2 : va_up z 0 (z 0 + 1) 2 = z 2 := rfl
  rw [h0, h1, h2, rg_4]
  simp only [List.append_assoc]
  refine List.Perm.append_left _ (List.Perm.append_left _ ?_)
  rw [← List.append_assoc]
  exact List.perm_append_comm
theorem pm_L {z : Nat → Nat} : (wd_nm z ++ [200 + 2 * z 1, 200 + 2 * z 1 + 1]).Perm (wd_nm (va_up z 1 (z 1 + 1))) := by
  unfold wd_nm
  have h0 : va_up z 1 (z 1 + 1) 0 = z 0 := rfl
  have h1 : va_up z 1 (z 1 + 1) 1 = z 1 + 1 := rfl
  have h2 : va_up z 1 (z 1 + 1) 2 = z 2 := rfl
  rw [h0, h1, h2, rg_2]
  simp only [List.append_assoc]
  refine List.Perm.append_left _ (List.Perm.append_left _ (List.Perm.append_left _ ?_))
  exact List.perm_append_comm
theorem pm_F {z : Nat → Nat} : (wd_nm z ++ [300 + z 2]).Perm (wd_nm (va_up z 2 (z 2 + 1))) := by
  unfold wd_nm
  have h0 : va_up z 2 (z 2 + 1) 0 = z 0 := rfl
  have h1 : va_up z 2 (z 2 + 1) 1 = z 1 := rfl
  have h2 : va_up z 2 (z 2 + 1) 2 = z 2 + 1 := rfl
  rw [h0, h1, h2, rg_1]
  simp only [List.append_assoc]
  exact List.Perm.refl _
