/-! the worlds: every cell has a NAME (a number); ad gives its address; M name place the ints that it holds -/
def lw_g : List Cond := lw_tbl.filter goodWord
theorem lg_good {w : Cond} (h : w ∈ lw_g) : (w.onTables && w.keeps) = true ∨ ∃ ty, w = .arrayClass ty := good_of_word (List.mem_filter.mp h).2
theorem lg_sub {w : Cond} (h : w ∈ lw_g) : w ∈ lw_tbl := (List.mem_filter.mp h).1
theorem lg_goodIn {y : MethodName} {bytes : ByteArray} {maxL : Nat} {ret : Option FieldType} (h : Cond.code y bytes maxL ret ∈ lw_g) : GoodIn lw_g (Cond.code y bytes maxL ret :: lw_g) := by
  intro w hw
  rcases List.mem_cons.mp hw with rfl | hw
  · exact ⟨h, lg_good h⟩
  · exact ⟨hw, lg_good hw⟩
abbrev Mem : Type := Nat → Nat → Int32
abbrev GG : Type := (Nat → ClassId) × (Nat → Nat → Nat) × ClassId × ClassId × ClassId × ClassId × ClassId
def Gd (G : GG) : va_G := (G.1, G.2.1)
def tyG (G : GG) : List (ClassId × FieldType) := [(G.2.2.1, .int), (G.2.2.2.1, .boolean), (G.2.2.2.2.1, .object "BridleBook$Kite"), (G.2.2.2.2.2.1, .object "BridleBook$Line"), (G.2.2.2.2.2.2, .object "BridleBook$Flyer")]
def wd_len (n : Nat) : Nat :=
  if n = 2 then 20 else if n = 3 then 120 else if n = 4 then 120 else if n = 5 then 120 else if n = 6 then 20 else if n = 7 then 20 else if n = 8 then 20 else if n = 9 then 18 else if n = 10 then 18 else if n = 11 then 20 else
  if n = 13 then 10 else if n = 14 then 10 else if n = 15 then 10 else if n = 16 then 10 else if n = 17 then 100 else if n = 18 then 201 else if n = 19 then 201 else if n = 20 then 201 else if n = 21 then 201 else if n = 22 then 201 else
  if n = 24 then 10 else if n = 25 then 10 else if n = 26 then 10 else if n = 28 then 10 else if n = 33 then 20 else if n = 35 then 200 else if n = 36 then 200 else if n = 37 then 200 else
  if n = 54 then 20 else if n = 61 then 20 else if n = 70 then 18 else if n = 71 then 18 else if n = 72 then 202 else if n = 73 then 202 else if n = 74 then 200 else 0
def wd_model (ad : Nat → Nat) (g : Nat → Int32) : List Value := [.int (g 0), .int (g 1), .ref (ad 2), .ref (ad 3), .ref (ad 4), .ref (ad 5), .ref (ad 6), .ref (ad 7), .ref (ad 8), .ref (ad 9), .ref (ad 10), .ref (ad 11), .int (g 12), .ref (ad 13), .ref (ad 14), .ref (ad 15), .ref (ad 16), .ref (ad 17), .ref (ad 18), .ref (ad 19), .ref (ad 20), .ref (ad 21), .ref (ad 22), .int (g 23), .ref (ad 24), .ref (ad 25), .ref (ad 26), .ref (ad 27), .ref (ad 28), .ref (ad 29), .int (g 30), .int (g 31), .int (g 32), .ref (ad 33), .int (g 34), .ref (ad 35), .ref (ad 36), .ref (ad 37)]
def wd_book (ad : Nat → Nat) (g : Nat → Int32) : List Value := [.ref (ad 51), .ref (ad 52), .int (g 2), .ref (ad 54), .ref (ad 55), .int (g 5), .ref (ad 57), .ref (ad 58), .int (g 8), .ref (ad 60), .ref (ad 61), .int (g 11), .int (g 12), .int (g 13), .ref (ad 65), .ref (ad 66), .ref (ad 67)]
def wd_kite (ad : Nat → Nat) (n : Nat) (g : Nat → Int32) : List Value := [.ref (ad (n + 1)), .ref (ad (n + 2)), .ref (ad (n + 3)), .int (g 3), .int (g 4), .int (g 5), .int (g 6)]
def wd_line (ad : Nat → Nat) (n : Nat) (g : Nat → Int32) : List Value := [.int (g 0), .int (g 1), .int (g 2), .ref (ad (n + 1)), .int (g 4)]
def wd_4 (g : Nat → Int32) : List Value := [.int (g 0), .int (g 1), .int (g 2), .int (g 3)]
def wd_rfs (ad : Nat → Nat) (base step cnt : Nat) : Nat → Option Nat := fun j => if j < cnt then some (ad (base + step * j)) else none
def wd_fix (G : GG) (z ad : Nat → Nat) (g : Nat → Int32) (n : Nat) : va_E :=
  if n = 0 then .inr (8, wd_model ad g) else
  if n = 27 then .inl (G.2.2.2.1, 10, .inl g) else
  if n = 29 then .inl (G.2.2.2.1, 100, .inl g) else
  if n = 50 then .inr (7, wd_book ad g) else
  if n = 51 then .inr (4, [.ref (ad 70), .ref (ad 71)]) else
  if n = 52 then .inl (G.2.2.2.2.1, 20, .inr (.inr (.inr (.inr (wd_rfs ad 100 4 (z 0)))))) else
  if n = 55 then .inl (G.2.2.2.2.2.1, 10, .inr (.inr (.inr (.inr (wd_rfs ad 200 2 (z 1)))))) else
  if n = 57 then .inr (5, [.ref (ad 72), .ref (ad 73)]) else
  if n = 58 then .inl (G.2.2.2.2.2.2, 10, .inr (.inr (.inr (.inr (wd_rfs ad 300 1 (z 2)))))) else
  if n = 60 then .inl (G.2.2.2.1, 100, .inl g) else
  if n = 65 then .inr (0, wd_4 g) else
  if n = 66 then .inr (0, wd_4 g) else
  if n = 67 then .inr (6, [.ref (ad 74), .int (g 1)]) else
  .inl (G.2.2.1, wd_len n, .inl g)
def wd_cell (G : GG) (z ad : Nat → Nat) (M : Mem) (n : Nat) : va_E :=
  if n < 100 then wd_fix G z ad (M n) n else
  if n < 200 then (if n % 4 = 0 then .inr (2, wd_kite ad n (M n)) else .inl (G.2.2.1, 6, .inl (M n))) else
  if n < 300 then (if n % 2 = 0 then .inr (3, wd_line ad n (M n)) else .inl (G.2.2.1, 10, .inl (M n))) else
  .inr (1, wd_4 (M n))
def wd_f0 : List Nat := [0, 2, 3, 4, 5, 6, 7, 8, 9, 10, 11, 13, 14, 15, 16, 17, 18, 19, 20, 21, 22, 24, 25, 26, 27, 28, 29, 33, 35, 36, 37, 50, 51, 52, 54, 55, 57, 58, 60, 61, 65, 66, 67, 70, 71, 72, 73, 74]
def wd_nm (z : Nat → Nat) : List Nat := wd_f0 ++ ((List.range (4 * z 0)).map (100 + ·) ++ ((List.range (2 * z 1)).map (200 + ·) ++ (List.range (z 2)).map (300 + ·)))
def wd_W (G : GG) (z ad : Nat → Nat) (M : Mem) : va_W := (wd_nm z).map (fun n => (ad n, wd_cell G z ad M n))
theorem wd_cong {G : GG} {z ad : Nat → Nat} {M M' : Mem} {n : Nat} (h : M' n = M n) : wd_cell G z ad M' n = wd_cell G z ad M n := by
  unfold wd_cell
  rw [h]
theorem wd_at {G : GG} {z ad : Nat → Nat} {M : Mem} {n : Nat} (h : n ∈ wd_nm z) : ∃ k : Nat, (wd_nm z)[k]? = some n ∧ (wd_W G z ad M)[k]? = some (ad n, wd_cell G z ad M n) := by
  obtain ⟨k, hk⟩ := List.getElem?_of_mem h
  refine ⟨k, hk, ?_⟩
  simp [wd_W, hk]
theorem wd_set {G : GG} {z ad : Nat → Nat} {M M' : Mem} {A : Nat → Prop} {n k : Nat} {e : va_E} (hD : va_D A (wd_W G z ad M)) (hk : (wd_nm z)[k]? = some n) (he : wd_cell G z ad M' n = e) (hM : ∀ n', n' ≠ n → M' n' = M n') : (wd_W G z ad M).set k (ad n, e) = wd_W G z ad M' := by
  subst he
  apply List.ext_getElem?
  intro j
  have hkl : k < (wd_nm z).length := (List.getElem?_eq_some_iff.mp hk).1
  by_cases hj : k = j
  · subst hj
    rw [List.getElem?_set_self (by simpa [wd_W] using hkl)]
    simp [wd_W, hk]
  · rw [List.getElem?_set_ne hj]
    rcases hq : (wd_nm z)[j]? with _ | n'
    · simp [wd_W, hq]
    · have h1 : (wd_W G z ad M)[j]? = some (ad n', wd_cell G z ad M n') := by simp [wd_W, hq]
      have h2 : (wd_W G z ad M')[j]? = some (ad n', wd_cell G z ad M' n') := by simp [wd_W, hq]
      rw [h1, h2]
      by_cases hn : n' = n
      · subst hn
        exact absurd (hD.1 k j _ _ (show (wd_W G z ad M)[k]? = some (ad n', wd_cell G z ad M n') by simp [wd_W, hk]) h1 rfl) hj
      · rw [wd_cong (hM n' hn)]
def mu (M : Mem) (n k : Nat) (v : Int32) : Mem := va_up M n (va_up (M n) k v)
theorem mu_ne {M : Mem} {n k : Nat} {v : Int32} (n' : Nat) (h : n' ≠ n) : mu M n k v n' = M n' := by simp [mu, va_up, h]
theorem mu_eq {M : Mem} {n k : Nat} {v : Int32} : mu M n k v n = va_up (M n) k v := by simp [mu, va_up]
def vK (z : Nat → Nat) (n : Nat) : Prop := ∃ i : Nat, i < z 0 ∧ i < 25 ∧ n = 100 + 4 * i
def vL (z : Nat → Nat) (n : Nat) : Prop := ∃ i : Nat, i < z 1 ∧ i < 50 ∧ n = 200 + 2 * i
def vF (z : Nat → Nat) (n : Nat) : Prop := ∃ i : Nat, i < z 2 ∧ n = 300 + i
def vC (n : Nat) : Prop := n = 65 ∨ n = 66
theorem in_fix {z : Nat → Nat} {n : Nat} (h : n ∈ wd_f0) : n ∈ wd_nm z := List.mem_append_left _ h
theorem in_kite {z : Nat → Nat} {n : Nat} (h : vK z n) (j : Nat) (hj : j < 4) : n + j ∈ wd_nm z := by
  obtain ⟨i, h1, h2, rfl⟩ := h
  refine List.mem_append_right _ (List.mem_append_left _ (List.mem_map.mpr ⟨4 * i + j, List.mem_range.mpr (by omega), by omega⟩))
theorem in_line {z : Nat → Nat} {n : Nat} (h : vL z n) (j : Nat) (hj : j < 2) : n + j ∈ wd_nm z := by
  obtain ⟨i, h1, h2, rfl⟩ := h
  refine List.mem_append_right _ (List.mem_append_right _ (List.mem_append_left _ (List.mem_map.mpr ⟨2 * i + j, List.mem_range.mpr (by omega), by omega⟩)))
theorem in_flyer {z : Nat → Nat} {n : Nat} (h : vF z n) : n ∈ wd_nm z := by
  obtain ⟨i, h1, rfl⟩ := h
  refine List.mem_append_right _ (List.mem_append_right _ (List.mem_append_right _ (List.mem_map.mpr ⟨i, List.mem_range.mpr (by omega), by omega⟩)))
theorem in_cone {z : Nat → Nat} {n : Nat} (h : vC n) : n ∈ wd_nm z := by
  rcases h with rfl | rfl
  · exact in_fix (by decide)
  · exact in_fix (by decide)
theorem ce_kite {G : GG} {z ad : Nat → Nat} {M : Mem} {n : Nat} (h : vK z n) : wd_cell G z ad M n = .inr (2, wd_kite ad n (M n)) := by
  obtain ⟨i, h1, h2, rfl⟩ := h
  unfold wd_cell
  rw [if_neg (by omega), if_pos (by omega), if_pos (by omega)]
theorem ce_kiteA {G : GG} {z ad : Nat → Nat} {M : Mem} {n : Nat} (h : vK z n) (j : Nat) (h0 : 0 < j) (hj : j < 4) : wd_cell G z ad M (n + j) = .inl (G.2.2.1, 6, .inl (M (n + j))) := by
  obtain ⟨i, h1, h2, rfl⟩ := h
  unfold wd_cell
  rw [if_neg (by omega), if_pos (by omega), if_neg (by omega)]
theorem ce_line {G : GG} {z ad : Nat → Nat} {M : Mem} {n : Nat} (h : vL z n) : wd_cell G z ad M n = .inr (3, wd_line ad n (M n)) := by
  obtain ⟨i, h1, h2, rfl⟩ := h
  unfold wd_cell
  rw [if_neg (by omega), if_neg (by omega), if_pos (by omega), if_pos (by omega)]
theorem ce_lineA {G : GG} {z ad : Nat → Nat} {M : Mem} {n : Nat} (h : vL z n) : wd_cell G z ad M (n + 1) = .inl (G.2.2.1, 10, .inl (M (n + 1))) := by
  obtain ⟨i, h1, h2, rfl⟩ := h
  unfold wd_cell
  rw [if_neg (by omega), if_neg (by omega), if_pos (by omega), if_neg (by omega)]
theorem ce_flyer {G : GG} {z ad : Nat → Nat} {M : Mem} {n : Nat} (h : vF z n) : wd_cell G z ad M n = .inr (1, wd_4 (M n)) := by
  obtain ⟨i, h1, rfl⟩ := h
  unfold wd_cell
  rw [if_neg (by omega), if_neg (by omega), if_neg (by omega)]
theorem ce_cone {G : GG} {z ad : Nat → Nat} {M : Mem} {n : Nat} (h : vC n) : wd_cell G z ad M n = .inr (0, wd_4 (M n)) := by
  rcases h with rfl | rfl <;> rfl
/-- name n is an int array of len places -/
def IA (z : Nat → Nat) (n len : Nat) : Prop := n ∈ wd_nm z ∧ ∀ (G : GG) (ad : Nat → Nat) (M : Mem), wd_cell G z ad M n = .inl (G.2.2.1, len, .inl (M n))
def ZA (z : Nat → Nat) (n len : Nat) : Prop := n ∈ wd_nm z ∧ ∀ (G : GG) (ad : Nat → Nat) (M : Mem), wd_cell G z ad M n = .inl (G.2.2.2.1, len, .inl (M n))
/-- name n is an object of class ci; its fields are fs of its own ints -/
def OB (z : Nat → Nat) (n ci : Nat) (fs : (Nat → Nat) → (Nat → Int32) → List Value) : Prop := n ∈ wd_nm z ∧ ∀ (G : GG) (ad : Nat → Nat) (M : Mem), wd_cell G z ad M n = .inr (ci, fs ad (M n))
theorem ob_0 {z : Nat → Nat} : OB z 0 8 wd_model := ⟨in_fix (by decide), fun _ _ _ => rfl⟩
theorem ob_50 {z : Nat → Nat} : OB z 50 7 wd_book := ⟨in_fix (by decide), fun _ _ _ => rfl⟩
theorem ob_51 {z : Nat → Nat} : OB z 51 4 (fun ad _ => [.ref (ad 70), .ref (ad 71)]) := ⟨in_fix (by decide), fun _ _ _ => rfl⟩
theorem ob_57 {z : Nat → Nat} : OB z 57 5 (fun ad _ => [.ref (ad 72), .ref (ad 73)]) := ⟨in_fix (by decide), fun _ _ _ => rfl⟩
theorem ob_67 {z : Nat → Nat} : OB z 67 6 (fun ad g => [.ref (ad 74), .int (g 1)]) := ⟨in_fix (by decide), fun _ _ _ => rfl⟩
theorem ob_K {z : Nat → Nat} {n : Nat} (h : vK z n) : OB z n 2 (fun ad g => wd_kite ad n g) := ⟨in_kite h 0 (by decide), fun _ _ _ => ce_kite h⟩
theorem ob_L {z : Nat → Nat} {n : Nat} (h : vL z n) : OB z n 3 (fun ad g => wd_line ad n g) := ⟨in_line h 0 (by decide), fun _ _ _ => ce_line h⟩
theorem ob_F {z : Nat → Nat} {n : Nat} (h : vF z n) : OB z n 1 (fun _ g => wd_4 g) := ⟨in_flyer h, fun _ _ _ => ce_flyer h⟩
theorem ob_C {z : Nat → Nat} {n : Nat} (h : vC n) : OB z n 0 (fun _ g => wd_4 g) := ⟨in_cone h, fun _ _ _ => ce_cone h⟩
theorem ia_K1 {z : Nat → Nat} {n : Nat} (h : vK z n) : IA z (n + 1) 6 := ⟨in_kite h 1 (by decide), fun _ _ _ => ce_kiteA h 1 (by decide) (by decide)⟩
theorem ia_K2 {z : Nat → Nat} {n : Nat} (h : vK z n) : IA z (n + 2) 6 := ⟨in_kite h 2 (by decide), fun _ _ _ => ce_kiteA h 2 (by decide) (by decide)⟩
theorem ia_K3 {z : Nat → Nat} {n : Nat} (h : vK z n) : IA z (n + 3) 6 := ⟨in_kite h 3 (by decide), fun _ _ _ => ce_kiteA h 3 (by decide) (by decide)⟩
theorem ia_L1 {z : Nat → Nat} {n : Nat} (h : vL z n) : IA z (n + 1) 10 := ⟨in_line h 1 (by decide), fun _ _ _ => ce_lineA h⟩
theorem za_27 {z : Nat → Nat} : ZA z 27 10 := ⟨in_fix (by decide), fun _ _ _ => rfl⟩
theorem za_29 {z : Nat → Nat} : ZA z 29 100 := ⟨in_fix (by decide), fun _ _ _ => rfl⟩
theorem za_60 {z : Nat → Nat} : ZA z 60 100 := ⟨in_fix (by decide), fun _ _ _ => rfl⟩
theorem ia_2 {z : Nat → Nat} : IA z 2 20 := ⟨in_fix (by decide), fun _ _ _ => rfl⟩
theorem ia_3 {z : Nat → Nat} : IA z 3 120 := ⟨in_fix (by decide), fun _ _ _ => rfl⟩
theorem ia_4 {z : Nat → Nat} : IA z 4 120 := ⟨in_fix (by decide), fun _ _ _ => rfl⟩
theorem ia_5 {z : Nat → Nat} : IA z 5 120 := ⟨in_fix (by decide), fun _ _ _ => rfl⟩
theorem ia_6 {z : Nat → Nat} : IA z 6 20 := ⟨in_fix (by decide), fun _ _ _ => rfl⟩
theorem ia_7 {z : Nat → Nat} : IA z 7 20 := ⟨in_fix (by decide), fun _ _ _ => rfl⟩
theorem ia_8 {z : Nat → Nat} : IA z 8 20 := ⟨in_fix (by decide), fun _ _ _ => rfl⟩
theorem ia_9 {z : Nat → Nat} : IA z 9 18 := ⟨in_fix (by decide), fun _ _ _ => rfl⟩
theorem ia_10 {z : Nat → Nat} : IA z 10 18 := ⟨in_fix (by decide), fun _ _ _ => rfl⟩
theorem ia_11 {z : Nat → Nat} : IA z 11 20 := ⟨in_fix (by decide), fun _ _ _ => rfl⟩
theorem ia_13 {z : Nat → Nat} : IA z 13 10 := ⟨in_fix (by decide), fun _ _ _ => rfl⟩
theorem ia_14 {z : Nat → Nat} : IA z 14 10 := ⟨in_fix (by decide), fun _ _ _ => rfl⟩
theorem ia_15 {z : Nat → Nat} : IA z 15 10 := ⟨in_fix (by decide), fun _ _ _ => rfl⟩
theorem ia_16 {z : Nat → Nat} : IA z 16 10 := ⟨in_fix (by decide), fun _ _ _ => rfl⟩
theorem ia_17 {z : Nat → Nat} : IA z 17 100 := ⟨in_fix (by decide), fun _ _ _ => rfl⟩
theorem ia_18 {z : Nat → Nat} : IA z 18 201 := ⟨in_fix (by decide), fun _ _ _ => rfl⟩
theorem ia_19 {z : Nat → Nat} : IA z 19 201 := ⟨in_fix (by decide), fun _ _ _ => rfl⟩
theorem ia_20 {z : Nat → Nat} : IA z 20 201 := ⟨in_fix (by decide), fun _ _ _ => rfl⟩
theorem ia_21 {z : Nat → Nat} : IA z 21 201 := ⟨in_fix (by decide), fun _ _ _ => rfl⟩
theorem ia_22 {z : Nat → Nat} : IA z 22 201 := ⟨in_fix (by decide), fun _ _ _ => rfl⟩
theorem ia_24 {z : Nat → Nat} : IA z 24 10 := ⟨in_fix (by decide), fun _ _ _ => rfl⟩
theorem ia_25 {z : Nat → Nat} : IA z 25 10 := ⟨in_fix (by decide), fun _ _ _ => rfl⟩
theorem ia_26 {z : Nat → Nat} : IA z 26 10 := ⟨in_fix (by decide), fun _ _ _ => rfl⟩
theorem ia_28 {z : Nat → Nat} : IA z 28 10 := ⟨in_fix (by decide), fun _ _ _ => rfl⟩
theorem ia_33 {z : Nat → Nat} : IA z 33 20 := ⟨in_fix (by decide), fun _ _ _ => rfl⟩
theorem ia_35 {z : Nat → Nat} : IA z 35 200 := ⟨in_fix (by decide), fun _ _ _ => rfl⟩
theorem ia_36 {z : Nat → Nat} : IA z 36 200 := ⟨in_fix (by decide), fun _ _ _ => rfl⟩
theorem ia_37 {z : Nat → Nat} : IA z 37 200 := ⟨in_fix (by decide), fun _ _ _ => rfl⟩
theorem ia_54 {z : Nat → Nat} : IA z 54 20 := ⟨in_fix (by decide), fun _ _ _ => rfl⟩
theorem ia_61 {z : Nat → Nat} : IA z 61 20 := ⟨in_fix (by decide), fun _ _ _ => rfl⟩
theorem ia_70 {z : Nat → Nat} : IA z 70 18 := ⟨in_fix (by decide), fun _ _ _ => rfl⟩
theorem ia_71 {z : Nat → Nat} : IA z 71 18 := ⟨in_fix (by decide), fun _ _ _ => rfl⟩
theorem ia_72 {z : Nat → Nat} : IA z 72 202 := ⟨in_fix (by decide), fun _ _ _ => rfl⟩
theorem ia_73 {z : Nat → Nat} : IA z 73 202 := ⟨in_fix (by decide), fun _ _ _ => rfl⟩
theorem ia_74 {z : Nat → Nat} : IA z 74 200 := ⟨in_fix (by decide), fun _ _ _ => rfl⟩
