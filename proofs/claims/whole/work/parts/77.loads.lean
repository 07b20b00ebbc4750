/-! a train's loads: sums and bounds -/
def wv (M : Mem) (x : Int32) (s : Nat) : Int32 := if x = -1 then M 11 (min (s / 10) 19) else x
def td (M : Mem) (l i : Nat) : Nat := if M 7 i = nI l then (M 8 i).toNatClampNeg else 0
def pU (M : Mem) (l : Nat) (x : Int32) (i : Nat) : Int32 := S_pu M i (M 2 i).toNatClampNeg (wv M x (td M l i))
def pB (M : Mem) (l : Nat) (x : Int32) (i : Nat) : Int32 := S_pb M i (M 2 i).toNatClampNeg (wv M x (td M l i))
def GE (t : Nat → Nat) (f : Nat → Int32) (n s : Nat) : Int32 := bx_sum (fun i => if s ≤ t i then f i else 0) n
def HG (t : Nat → Nat) (f : Nat → Int32) (n s : Nat) : Int32 := bx_sum (fun i => if t i = s then f i else 0) n
theorem GE_1 {t : Nat → Nat} {f : Nat → Int32} {n s : Nat} : GE t f (n + 1) s = GE t f n s + (if s ≤ t n then f n else 0) := rfl
theorem HG_1 {t : Nat → Nat} {f : Nat → Int32} {n s : Nat} : HG t f (n + 1) s = HG t f n s + (if t n = s then f n else 0) := rfl
theorem GE_s {t : Nat → Nat} {f : Nat → Int32} {n s : Nat} : GE t f n s = HG t f n s + GE t f n (s + 1) := by
  induction n with
  | zero => show (0 : Int32) = 0 + 0; decide
  | succ n ih =>
    rw [GE_1, GE_1, HG_1, ih]
    by_cases c1 : t n = s
    · rw [if_pos c1, if_pos (by omega), if_neg (by omega)]; grind
    · by_cases c2 : s ≤ t n
      · rw [if_neg c1, if_pos c2, if_pos (by omega)]; grind
      · rw [if_neg c1, if_neg c2, if_neg (by omega)]; grind
theorem GE_0 {t : Nat → Nat} {f : Nat → Int32} {n s : Nat} (h : ∀ i, i < n → t i < s) : GE t f n s = 0 := by
  induction n with
  | zero => rfl
  | succ n ih =>
    have := h n (by omega)
    rw [GE_1, ih (fun i hi => h i (by omega)), if_neg (by omega)]; decide
theorem HG_0 {t : Nat → Nat} {f : Nat → Int32} {n s : Nat} (h : ∀ i, i < n → t i ≠ s) : HG t f n s = 0 := by
  induction n with
  | zero => rfl
  | succ n ih =>
    rw [HG_1, ih (fun i hi => h i (by omega)), if_neg (h n (by omega))]; decide
def ab (x : Int32) (A : Nat) : Prop := x.toInt.natAbs ≤ A
theorem ab_0 {A : Nat} : ab 0 A := by
  unfold ab
  rw [show (0 : Int32).toInt = 0 from by decide]
  simp
theorem ab.le {x : Int32} {A B : Nat} (h : ab x A) (hb : A ≤ B) : ab x B := Nat.le_trans h hb
theorem ab_add {x y : Int32} {A B : Nat} (hx : ab x A) (hy : ab y B) (h : A + B < 2 ^ 31) : ab (x + y) (A + B) := by
  unfold ab at *
  rw [Int32.toInt_add, Int.bmod_eq_of_le (by omega) (by omega)]
  omega
theorem ab_sub {x y : Int32} {A B : Nat} (hx : ab x A) (hy : ab y B) (h : A + B < 2 ^ 31) : ab (x - y) (A + B) := by
  unfold ab at *
  rw [Int32.toInt_sub, Int.bmod_eq_of_le (by omega) (by omega)]
  omega
theorem ab_mul {x y : Int32} {A B : Nat} (hx : ab x A) (hy : ab y B) (h : A * B < 2 ^ 31) : ab (x * y) (A * B) := by
  unfold ab at *
  have e : (x.toInt * y.toInt).natAbs ≤ A * B := by
    rw [Int.natAbs_mul]; exact Nat.mul_le_mul hx hy
  rw [Int32.toInt_mul, Int.bmod_eq_of_le (by omega) (by omega)]
  exact e
theorem ab_div {x : Int32} {A : Nat} (hx : ab x A) (h : A < 2 ^ 31) : ab (x / 1000) (A / 1000) := by
  unfold ab at *
  have e : (x.toInt.tdiv 1000).natAbs ≤ A / 1000 := by
    rw [Int.natAbs_tdiv]
    exact Nat.div_le_div_right hx
  rw [Int32.toInt_div, show (1000 : Int32).toInt = 1000 from by decide, Int.bmod_eq_of_le (by omega) (by omega)]
  exact e
theorem ab_bx {f : Nat → Int32} {n B : Nat} (h : ∀ i, i < n → ab (f i) B) (hB : n * B < 2 ^ 31) : ab (bx_sum f n) (n * B) := by
  induction n with
  | zero => exact ab_0
  | succ n ih =>
    have e : (n + 1) * B = n * B + B := Nat.succ_mul n B
    rw [e] at hB ⊢
    exact ab_add (ih (fun i hi => h i (by omega)) (by omega)) (h n (by omega)) hB
theorem ab_pr {a l v : Int32} (ha : ab a 99) (hl : ab l 99) (hv : ab v 99) : ab (pr a l v) 96059 := by
  unfold pr
  exact ab_div (A := 99 * 99 * 99 * 99) (ab_mul (ab_mul (ab_mul ha hl (by decide)) hv (by decide)) hv (by decide)) (by decide)
theorem ab_up {M : Mem} {i p : Nat} {v lf : Int32} (h6 : p ≤ 6) (hb : ∀ j, j < p → 1 ≤ (M 3 (6 * i + j)).toInt ∧ (M 3 (6 * i + j)).toInt ≤ 99 ∧ 0 ≤ (M 5 (6 * i + j)).toInt ∧ (M 5 (6 * i + j)).toInt ≤ 99) (hv : ab v 99) (hl : ab lf 99) : ab (S_up M i p v lf) 576948 := by
  unfold S_up
  refine (ab_bx (B := 96158) (fun j hj => ?_) (by omega)).le (by omega)
  obtain ⟨q1, q2, q3, q4⟩ := hb j hj
  have a1 : ab (M 3 (6 * i + j)) 99 := by unfold ab; omega
  have a2 : ab (M 5 (6 * i + j)) 99 := by unfold ab; omega
  exact ab_sub (ab_pr a1 hl hv) a2 (by decide)
theorem ab_bk {M : Mem} {i p : Nat} {v lf : Int32} (h6 : p ≤ 6) (hb : ∀ j, j < p → 1 ≤ (M 3 (6 * i + j)).toInt ∧ (M 3 (6 * i + j)).toInt ≤ 99 ∧ 0 ≤ (M 5 (6 * i + j)).toInt ∧ (M 5 (6 * i + j)).toInt ≤ 99) (hv : ab v 99) (hl : ab lf 99) : ab (S_bk M i p v lf) 576948 := by
  unfold S_bk
  refine (ab_bx (B := 96158) (fun j hj => ?_) (by omega)).le (by omega)
  obtain ⟨q1, q2, q3, q4⟩ := hb j hj
  have a1 : ab (M 3 (6 * i + j)) 99 := by unfold ab; omega
  exact (ab_pr a1 hl hv).le (by decide)
theorem ab_pu {M : Mem} {i p : Nat} {v : Int32} (ht : It M) (h6 : p ≤ 6) (hb : ∀ j, j < p → 1 ≤ (M 3 (6 * i + j)).toInt ∧ (M 3 (6 * i + j)).toInt ≤ 99 ∧ 0 ≤ (M 5 (6 * i + j)).toInt ∧ (M 5 (6 * i + j)).toInt ≤ 99) (hv : ab v 99) : ab (S_pu M i p v) 576948 := by
  unfold S_pu
  rcases S_st_r M i p v (M 6 i) with e | ⟨r, hr, e⟩
  · rw [e, if_pos rfl]; exact ab_up h6 hb hv ab_0
  · rw [e, if_neg (m2_ne hr), nI_clamp (by omega)]
    exact ab_up h6 hb hv (by have := ht r hr; unfold ab; omega)
theorem ab_pb {M : Mem} {i p : Nat} {v : Int32} (ht : It M) (h6 : p ≤ 6) (hb : ∀ j, j < p → 1 ≤ (M 3 (6 * i + j)).toInt ∧ (M 3 (6 * i + j)).toInt ≤ 99 ∧ 0 ≤ (M 5 (6 * i + j)).toInt ∧ (M 5 (6 * i + j)).toInt ≤ 99) (hv : ab v 99) : ab (S_pb M i p v) 576948 := by
  unfold S_pb
  rcases S_st_r M i p v (M 6 i) with e | ⟨r, hr, e⟩
  · rw [e, if_pos rfl]; exact ab_0
  · rw [e, if_neg (m2_ne hr), nI_clamp (by omega)]
    exact ab_bk h6 hb hv (by have := ht r hr; unfold ab; omega)
theorem ab_nI {n A : Nat} (h : n ≤ A) (hA : A < 2 ^ 31) : ab (nI n) A := by
  unfold ab; rw [nI_toInt (by omega)]; omega
theorem ab_wv {M : Mem} {x : Int32} {s : Nat} (hw : Iw M) (hx : x = -1 ∨ ∃ v, v ≤ 99 ∧ x = nI v) : ab (wv M x s) 99 := by
  unfold wv
  rcases hx with rfl | ⟨v, hv, rfl⟩
  · rw [if_pos rfl]
    obtain ⟨-, w, w1, w2⟩ := hw (min (s / 10) 19) (by omega)
    rw [w2]; exact ab_nI w1 (by decide)
  · rw [if_neg (nI_m1ne (by omega))]; exact ab_nI hv (by decide)
theorem ab_pU {z : Nat → Nat} {M : Mem} {x : Int32} {l i : Nat} (inv : Inv z M) (hi : i < z 0) (hx : x = -1 ∨ ∃ v, v ≤ 99 ∧ x = nI v) : ab (pU M l x i) 576948 ∧ ab (pB M l x i) 576948 := by
  obtain ⟨hc, hd, ht, hw, hk, -⟩ := id inv
  obtain ⟨p, hV, hb, -⟩ := hk.1 i hi
  have h6 := hV.1
  unfold pU pB
  rw [hV.2.1, nI_clamp (by omega)]
  exact ⟨ab_pu ht h6 hb (ab_wv hw hx), ab_pb ht h6 hb (ab_wv hw hx)⟩
theorem ab_GE {t : Nat → Nat} {f : Nat → Int32} {n s : Nat} (hn : n ≤ 20) (h : ∀ i, i < n → ab (f i) 576948) : ab (GE t f n s) 11538960 := by
  unfold GE
  refine (ab_bx (B := 576948) (fun i hi => ?_) (by omega)).le (by omega)
  show ab (if s ≤ t i then f i else 0) 576948
  by_cases c : s ≤ t i
  · rw [if_pos c]; exact h i hi
  · rw [if_neg c]; exact ab_0
/-- a tied kite's step -/
theorem td_le {z : Nat → Nat} {M : Mem} {l i S : Nat} (hz : z 1 ≤ 10) (hy : Iy z M) (hi : i < z 0) (hl : l < z 1) (hS : M 13 l = nI S) (S2 : S ≤ 200) : td M l i ≤ S ∧ (M 7 i = nI l → 1 ≤ td M l i ∧ M 8 i = nI (td M l i) ∧ M (100 + 4 * i) 6 = nI (td M l i)) ∧ (¬ M 7 i = nI l → td M l i = 0) := by
  unfold td
  rcases hy i hi with e7 | ⟨l', s, h1, e7, e8, e9, h2, h3⟩
  · have hne : ¬ M 7 i = nI l := by rw [e7]; exact fun q => nI_m1ne (by omega) q.symm
    rw [if_neg hne]
    exact ⟨by omega, fun q => absurd q hne, fun _ => rfl⟩
  · by_cases e : l' = l
    · subst e
      rw [hS, nI_toInt (by omega)] at h3
      rw [if_pos e7, e8, nI_clamp (by omega)]
      exact ⟨by omega, fun _ => ⟨h2, rfl, e9⟩, fun q => absurd e7 q⟩
    · have hne : ¬ M 7 i = nI l := by rw [e7]; exact nI_ne e (by omega) (by omega)
      rw [if_neg hne]
      exact ⟨by omega, fun q => absurd q hne, fun _ => rfl⟩
