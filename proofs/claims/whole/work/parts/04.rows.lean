/-! branches, checks, arrays, fields, calls, returns: each with the mirror's equation hf -/
def ck {α : Type} (b : Bool) (e : Option α) : Option α := if b = true then e else none
theorem ck_some {α : Type} {b : Bool} {e : Option α} {r : α} (h : ck b e = some r) : b = true ∧ e = some r := by
  cases b
  · simp [ck] at h
  · exact ⟨rfl, by simpa [ck] using h⟩
theorem ck_t {α : Type} {b : Bool} {e : Option α} (h : b = true) : ck b e = e := by simp [ck, h]
def bd1 {α β : Type} (f : Option α) (g : α → Option β) : Option β := match f with
  | some r => g r
  | none => none
def bd2 {α γ β : Type} (f : Option (α × γ)) (g : α → γ → Option β) : Option β := match f with
  | some r => g r.1 r.2
  | none => none
theorem bd1_some {α β : Type} {f : Option α} {g : α → Option β} {b : β} (h : bd1 f g = some b) : ∃ r, f = some r ∧ g r = some b := by
  cases f with
  | none => simp [bd1] at h
  | some r => exact ⟨r, rfl, h⟩
theorem bd2_some {α γ β : Type} {f : Option (α × γ)} {g : α → γ → Option β} {b : β} (h : bd2 f g = some b) : ∃ r t, f = some (r, t) ∧ g r t = some b := by
  cases f with
  | none => simp [bd2] at h
  | some r => exact ⟨r.1, r.2, rfl, h⟩
theorem bd1_t {α β : Type} {f : Option α} {g : α → Option β} {r : α} (h : f = some r) : bd1 f g = g r := by rw [h]; rfl
theorem bd2_t {α γ β : Type} {f : Option (α × γ)} {g : α → γ → Option β} {r : α} {t : γ} (h : f = some (r, t)) : bd2 f g = g r t := by rw [h]; rfl
theorem sp_if {α : Type} {c P : Prop} [Decidable c] {e1 e2 : Option α} {r : α} (h : (if c then e1 else e2) = some r) (k1 : c → e1 = some r → P) (k2 : ¬ c → e2 = some r → P) : P := by
  by_cases hc : c
  · rw [if_pos hc] at h
    exact k1 hc h
  · rw [if_neg hc] at h
    exact k2 hc h
def b2i (b : Bool) : Int32 := if b = true then 1 else 0
def inb (i : Int32) (n : Nat) : Bool := decide (0 ≤ i.toInt) && decide (i.toInt < (n : Int))
theorem inb_vp {i : Int32} {n : Nat} (h : inb i n = true) : vp_in i n := vp_in_iff.mpr (by simpa [inb] using h)
def irem (x y : Int32) : Int32 := x - x / y * y
theorem b2i_n (b : Bool) : narrow .boolean (.int (b2i b)) = .int (b2i b) := by cases b <;> rfl
def RtI (K : KK) (a : AA) (cc : ByteArray) (r : Int32) (M : Mem) : Prop := ∀ (pc : Nat) (H : Heap) (locs : List Loc) (ls : Array Slot), decode cc pc = .ok (.ireturn, 1) → go_H K a M H locs → go_W K H locs (F0 (kM K) pc ls [.int r])
def RtL (K : KK) (a : AA) (cc : ByteArray) (r : Int64) (M : Mem) : Prop := ∀ (pc : Nat) (H : Heap) (locs : List Loc) (ls : Array Slot), decode cc pc = .ok (.lreturn, 1) → go_H K a M H locs → go_W K H locs (F0 (kM K) pc ls [.long r])
def RtV (K : KK) (a : AA) (cc : ByteArray) (M : Mem) : Prop := ∀ (pc : Nat) (H : Heap) (locs : List Loc) (ls : Array Slot), decode cc pc = .ok (.return_, 1) → go_H K a M H locs → go_W K H locs (F0 (kM K) pc ls [])
def RtQ (K : KK) (a : AA) (cc : ByteArray) (r : Option Nat) (M : Mem) : Prop := ∀ (pc : Nat) (H : Heap) (locs : List Loc) (ls : Array Slot), decode cc pc = .ok (.areturn, 1) → go_H K a M H locs → go_W K H locs (F0 (kM K) pc ls [va_rf (r.map a.2)])
section SX
variable {K : KK} {own : String} {cc : ByteArray} {nL : Nat} {rm : Room} {a : AA} {M : Mem} {pc : Nat} {lv : List (Nat × Value)} {st : List Value} {α : Type} {res : α}
theorem g_iretP {r0 r : Int32} (rt : RtI K a cc r M) (hf : some r0 = some r) (d : decode cc pc = .ok (.ireturn, 1)) : Go K nL a M pc lv [.int r0] := fun H locs ls h1 _ => by cases hf; exact rt pc H locs ls d h1
theorem g_zretP {b0 b : Bool} (rt : RtI K a cc (b2i b) M) (hf : some b0 = some b) (d : decode cc pc = .ok (.ireturn, 1)) {v : Int32} (hv : v = b2i b0) : Go K nL a M pc lv [.int v] := fun H locs ls h1 _ => by cases hf; subst hv; exact rt pc H locs ls d h1
theorem g_lretP {r0 r : Int64} (rt : RtL K a cc r M) (hf : some r0 = some r) (d : decode cc pc = .ok (.lreturn, 1)) : Go K nL a M pc lv [.long r0] := fun H locs ls h1 _ => by cases hf; exact rt pc H locs ls d h1
theorem g_iretM {r0 r : Int32} {M' : Mem} (rt : RtI K a cc r M') (hf : some (r0, M) = some (r, M')) (d : decode cc pc = .ok (.ireturn, 1)) : Go K nL a M pc lv [.int r0] := fun H locs ls h1 _ => by cases hf; exact rt pc H locs ls d h1
theorem g_zretM {b0 b : Bool} {M' : Mem} (rt : RtI K a cc (b2i b) M') (hf : some (b0, M) = some (b, M')) (d : decode cc pc = .ok (.ireturn, 1)) {v : Int32} (hv : v = b2i b0) : Go K nL a M pc lv [.int v] := fun H locs ls h1 _ => by cases hf; subst hv; exact rt pc H locs ls d h1
theorem g_vretM {M' : Mem} (rt : RtV K a cc M') (hf : some M = some M') (d : decode cc pc = .ok (.return_, 1)) : Go K nL a M pc lv [] := fun H locs ls h1 _ => by cases hf; exact rt pc H locs ls d h1
theorem g_aretS {n : Nat} {r : Option Nat} (rt : RtQ K a cc r M) (hf : some (some n) = some r) (d : decode cc pc = .ok (.areturn, 1)) : Go K nL a M pc lv [.ref (a.2 n)] := fun H locs ls h1 _ => by cases hf; exact rt pc H locs ls d h1
theorem g_aretN {r : Option Nat} (rt : RtQ K a cc r M) (hf : some none = some r) (d : decode cc pc = .ok (.areturn, 1)) : Go K nL a M pc lv [.null] := fun H locs ls h1 _ => by cases hf; exact rt pc H locs ls d h1
theorem g_if_eq {x : Int32} {off : Int} {tgt : Nat} {et ef : Option α} (S : Sx K own cc nL rm) (d : decode cc pc = .ok (.ifCond .eq off, 3)) (ht : (pc : Int) + off = (tgt : Int)) (hf : (if x = 0 then et else ef) = some res) (k1 : x = 0 → et = some res → Go K nL a M tgt lv st) (k2 : ¬ x = 0 → ef = some res → Go K nL a M (pc + 3) lv st) : Go K nL a M pc lv (.int x :: st) := sp_if hf (fun c e H locs ls h1 h2 => lv_if_eq S.1 S.2.1 d ht (fun _ => k1 c e H locs ls h1 h2) (fun z => absurd c z)) (fun c e H locs ls h1 h2 => lv_if_eq S.1 S.2.1 d ht (fun z => absurd z c) (fun _ => k2 c e H locs ls h1 h2))
theorem g_if_ne {x : Int32} {off : Int} {tgt : Nat} {et ef : Option α} (S : Sx K own cc nL rm) (d : decode cc pc = .ok (.ifCond .ne off, 3)) (ht : (pc : Int) + off = (tgt : Int)) (hf : (if x = 0 then ef else et) = some res) (k1 : x = 0 → ef = some res → Go K nL a M (pc + 3) lv st) (k2 : ¬ x = 0 → et = some res → Go K nL a M tgt lv st) : Go K nL a M pc lv (.int x :: st) := sp_if hf (fun c e H locs ls h1 h2 => lv_if_ne S.1 S.2.1 d ht (fun z => absurd c z) (fun _ => k1 c e H locs ls h1 h2)) (fun c e H locs ls h1 h2 => lv_if_ne S.1 S.2.1 d ht (fun _ => k2 c e H locs ls h1 h2) (fun z => absurd z c))
theorem g_if_lt {x : Int32} {off : Int} {tgt : Nat} {et ef : Option α} (S : Sx K own cc nL rm) (d : decode cc pc = .ok (.ifCond .lt off, 3)) (ht : (pc : Int) + off = (tgt : Int)) (hf : (if x < 0 then et else ef) = some res) (k1 : x < 0 → et = some res → Go K nL a M tgt lv st) (k2 : ¬ x < 0 → ef = some res → Go K nL a M (pc + 3) lv st) : Go K nL a M pc lv (.int x :: st) := sp_if hf (fun c e H locs ls h1 h2 => lv_if_lt S.1 S.2.1 d ht (fun _ => k1 c e H locs ls h1 h2) (fun z => absurd c z)) (fun c e H locs ls h1 h2 => lv_if_lt S.1 S.2.1 d ht (fun z => absurd z c) (fun _ => k2 c e H locs ls h1 h2))
theorem g_if_ge {x : Int32} {off : Int} {tgt : Nat} {et ef : Option α} (S : Sx K own cc nL rm) (d : decode cc pc = .ok (.ifCond .ge off, 3)) (ht : (pc : Int) + off = (tgt : Int)) (hf : (if 0 ≤ x then et else ef) = some res) (k1 : 0 ≤ x → et = some res → Go K nL a M tgt lv st) (k2 : ¬ 0 ≤ x → ef = some res → Go K nL a M (pc + 3) lv st) : Go K nL a M pc lv (.int x :: st) := sp_if hf (fun c e H locs ls h1 h2 => lv_if_ge S.1 S.2.1 d ht (fun _ => k1 c e H locs ls h1 h2) (fun z => absurd c z)) (fun c e H locs ls h1 h2 => lv_if_ge S.1 S.2.1 d ht (fun z => absurd z c) (fun _ => k2 c e H locs ls h1 h2))
theorem g_if_gt {x : Int32} {off : Int} {tgt : Nat} {et ef : Option α} (S : Sx K own cc nL rm) (d : decode cc pc = .ok (.ifCond .gt off, 3)) (ht : (pc : Int) + off = (tgt : Int)) (hf : (if 0 < x then et else ef) = some res) (k1 : 0 < x → et = some res → Go K nL a M tgt lv st) (k2 : ¬ 0 < x → ef = some res → Go K nL a M (pc + 3) lv st) : Go K nL a M pc lv (.int x :: st) := sp_if hf (fun c e H locs ls h1 h2 => lv_if_gt S.1 S.2.1 d ht (fun _ => k1 c e H locs ls h1 h2) (fun z => absurd c z)) (fun c e H locs ls h1 h2 => lv_if_gt S.1 S.2.1 d ht (fun z => absurd z c) (fun _ => k2 c e H locs ls h1 h2))
theorem g_if_le {x : Int32} {off : Int} {tgt : Nat} {et ef : Option α} (S : Sx K own cc nL rm) (d : decode cc pc = .ok (.ifCond .le off, 3)) (ht : (pc : Int) + off = (tgt : Int)) (hf : (if x ≤ 0 then et else ef) = some res) (k1 : x ≤ 0 → et = some res → Go K nL a M tgt lv st) (k2 : ¬ x ≤ 0 → ef = some res → Go K nL a M (pc + 3) lv st) : Go K nL a M pc lv (.int x :: st) := sp_if hf (fun c e H locs ls h1 h2 => lv_if_le S.1 S.2.1 d ht (fun _ => k1 c e H locs ls h1 h2) (fun z => absurd c z)) (fun c e H locs ls h1 h2 => lv_if_le S.1 S.2.1 d ht (fun z => absurd z c) (fun _ => k2 c e H locs ls h1 h2))
theorem g_icmp_eq {x y : Int32} {off : Int} {tgt : Nat} {et ef : Option α} (S : Sx K own cc nL rm) (d : decode cc pc = .ok (.if_icmp .eq off, 3)) (ht : (pc : Int) + off = (tgt : Int)) (hf : (if x = y then et else ef) = some res) (k1 : x = y → et = some res → Go K nL a M tgt lv st) (k2 : ¬ x = y → ef = some res → Go K nL a M (pc + 3) lv st) : Go K nL a M pc lv (.int y :: .int x :: st) := sp_if hf (fun c e H locs ls h1 h2 => lv_icmp_eq S.1 S.2.1 d ht (fun _ => k1 c e H locs ls h1 h2) (fun z => absurd c z)) (fun c e H locs ls h1 h2 => lv_icmp_eq S.1 S.2.1 d ht (fun z => absurd z c) (fun _ => k2 c e H locs ls h1 h2))
theorem g_icmp_ne {x y : Int32} {off : Int} {tgt : Nat} {et ef : Option α} (S : Sx K own cc nL rm) (d : decode cc pc = .ok (.if_icmp .ne off, 3)) (ht : (pc : Int) + off = (tgt : Int)) (hf : (if x = y then ef else et) = some res) (k1 : x = y → ef = some res → Go K nL a M (pc + 3) lv st) (k2 : ¬ x = y → et = some res → Go K nL a M tgt lv st) : Go K nL a M pc lv (.int y :: .int x :: st) := sp_if hf (fun c e H locs ls h1 h2 => lv_icmp_ne S.1 S.2.1 d ht (fun z => absurd c z) (fun _ => k1 c e H locs ls h1 h2)) (fun c e H locs ls h1 h2 => lv_icmp_ne S.1 S.2.1 d ht (fun _ => k2 c e H locs ls h1 h2) (fun z => absurd z c))
theorem g_icmp_lt {x y : Int32} {off : Int} {tgt : Nat} {et ef : Option α} (S : Sx K own cc nL rm) (d : decode cc pc = .ok (.if_icmp .lt off, 3)) (ht : (pc : Int) + off = (tgt : Int)) (hf : (if x < y then et else ef) = some res) (k1 : x < y → et = some res → Go K nL a M tgt lv st) (k2 : ¬ x < y → ef = some res → Go K nL a M (pc + 3) lv st) : Go K nL a M pc lv (.int y :: .int x :: st) := sp_if hf (fun c e H locs ls h1 h2 => lv_icmp_lt S.1 S.2.1 d ht (fun _ => k1 c e H locs ls h1 h2) (fun z => absurd c z)) (fun c e H locs ls h1 h2 => lv_icmp_lt S.1 S.2.1 d ht (fun z => absurd z c) (fun _ => k2 c e H locs ls h1 h2))
theorem g_icmp_ge {x y : Int32} {off : Int} {tgt : Nat} {et ef : Option α} (S : Sx K own cc nL rm) (d : decode cc pc = .ok (.if_icmp .ge off, 3)) (ht : (pc : Int) + off = (tgt : Int)) (hf : (if y ≤ x then et else ef) = some res) (k1 : y ≤ x → et = some res → Go K nL a M tgt lv st) (k2 : ¬ y ≤ x → ef = some res → Go K nL a M (pc + 3) lv st) : Go K nL a M pc lv (.int y :: .int x :: st) := sp_if hf (fun c e H locs ls h1 h2 => lv_icmp_ge S.1 S.2.1 d ht (fun _ => k1 c e H locs ls h1 h2) (fun z => absurd c z)) (fun c e H locs ls h1 h2 => lv_icmp_ge S.1 S.2.1 d ht (fun z => absurd z c) (fun _ => k2 c e H locs ls h1 h2))
theorem g_icmp_gt {x y : Int32} {off : Int} {tgt : Nat} {et ef : Option α} (S : Sx K own cc nL rm) (d : decode cc pc = .ok (.if_icmp .gt off, 3)) (ht : (pc : Int) + off = (tgt : Int)) (hf : (if y < x then et else ef) = some res) (k1 : y < x → et = some res → Go K nL a M tgt lv st) (k2 : ¬ y < x → ef = some res → Go K nL a M (pc + 3) lv st) : Go K nL a M pc lv (.int y :: .int x :: st) := sp_if hf (fun c e H locs ls h1 h2 => lv_icmp_gt S.1 S.2.1 d ht (fun _ => k1 c e H locs ls h1 h2) (fun z => absurd c z)) (fun c e H locs ls h1 h2 => lv_icmp_gt S.1 S.2.1 d ht (fun z => absurd z c) (fun _ => k2 c e H locs ls h1 h2))
theorem g_icmp_le {x y : Int32} {off : Int} {tgt : Nat} {et ef : Option α} (S : Sx K own cc nL rm) (d : decode cc pc = .ok (.if_icmp .le off, 3)) (ht : (pc : Int) + off = (tgt : Int)) (hf : (if x ≤ y then et else ef) = some res) (k1 : x ≤ y → et = some res → Go K nL a M tgt lv st) (k2 : ¬ x ≤ y → ef = some res → Go K nL a M (pc + 3) lv st) : Go K nL a M pc lv (.int y :: .int x :: st) := sp_if hf (fun c e H locs ls h1 h2 => lv_icmp_le S.1 S.2.1 d ht (fun _ => k1 c e H locs ls h1 h2) (fun z => absurd c z)) (fun c e H locs ls h1 h2 => lv_icmp_le S.1 S.2.1 d ht (fun z => absurd z c) (fun _ => k2 c e H locs ls h1 h2))
/-- on a known number -/
theorem g_if_eqT {x : Int32} {off : Int} {tgt : Nat} (S : Sx K own cc nL rm) (d : decode cc pc = .ok (.ifCond .eq off, 3)) (ht : (pc : Int) + off = (tgt : Int)) (c : x = 0) (k : Go K nL a M tgt lv st) : Go K nL a M pc lv (.int x :: st) := fun H locs ls h1 h2 => lv_if_eq S.1 S.2.1 d ht (fun _ => k H locs ls h1 h2) (fun z => absurd c z)
theorem g_if_eqF {x : Int32} {off : Int} {tgt : Nat} (S : Sx K own cc nL rm) (d : decode cc pc = .ok (.ifCond .eq off, 3)) (ht : (pc : Int) + off = (tgt : Int)) (c : ¬ x = 0) (k : Go K nL a M (pc + 3) lv st) : Go K nL a M pc lv (.int x :: st) := fun H locs ls h1 h2 => lv_if_eq S.1 S.2.1 d ht (fun z => absurd z c) (fun _ => k H locs ls h1 h2)
theorem g_if_neF {x : Int32} {off : Int} {tgt : Nat} (S : Sx K own cc nL rm) (d : decode cc pc = .ok (.ifCond .ne off, 3)) (ht : (pc : Int) + off = (tgt : Int)) (c : x = 0) (k : Go K nL a M (pc + 3) lv st) : Go K nL a M pc lv (.int x :: st) := fun H locs ls h1 h2 => lv_if_ne S.1 S.2.1 d ht (fun z => absurd c z) (fun _ => k H locs ls h1 h2)
theorem g_if_neT {x : Int32} {off : Int} {tgt : Nat} (S : Sx K own cc nL rm) (d : decode cc pc = .ok (.ifCond .ne off, 3)) (ht : (pc : Int) + off = (tgt : Int)) (c : ¬ x = 0) (k : Go K nL a M tgt lv st) : Go K nL a M pc lv (.int x :: st) := fun H locs ls h1 h2 => lv_if_ne S.1 S.2.1 d ht (fun _ => k H locs ls h1 h2) (fun z => absurd z c)
theorem g_if_eqB {b : Bool} {off : Int} {tgt : Nat} {et ef : Option α} (S : Sx K own cc nL rm) (d : decode cc pc = .ok (.ifCond .eq off, 3)) (ht : (pc : Int) + off = (tgt : Int)) (hf : (if b = true then ef else et) = some res) (k1 : b = true → ef = some res → Go K nL a M (pc + 3) lv st) (k2 : ¬ b = true → et = some res → Go K nL a M tgt lv st) : Go K nL a M pc lv (.int (b2i b) :: st) := sp_if hf (fun c e => g_if_eqF S d ht (by rw [c]; decide) (k1 c e)) (fun c e => g_if_eqT S d ht (by rw [Bool.not_eq_true] at c; rw [c]; decide) (k2 c e))
theorem g_if_neB {b : Bool} {off : Int} {tgt : Nat} {et ef : Option α} (S : Sx K own cc nL rm) (d : decode cc pc = .ok (.ifCond .ne off, 3)) (ht : (pc : Int) + off = (tgt : Int)) (hf : (if b = true then et else ef) = some res) (k1 : b = true → et = some res → Go K nL a M tgt lv st) (k2 : ¬ b = true → ef = some res → Go K nL a M (pc + 3) lv st) : Go K nL a M pc lv (.int (b2i b) :: st) := sp_if hf (fun c e => g_if_neT S d ht (by rw [c]; decide) (k1 c e)) (fun c e => g_if_neF S d ht (by rw [Bool.not_eq_true] at c; rw [c]; decide) (k2 c e))
theorem lc_lt {x y : Int64} (h : x < y) : lg_cmp x y = -1 := by
  have h1 : ¬ y < x := by rw [Int64.lt_iff_toInt_lt] at h ⊢; omega
  have h2 : ¬ x = y := by intro e; subst e; rw [Int64.lt_iff_toInt_lt] at h; omega
  simp [lg_cmp, h1, h2]
theorem lc_gt {x y : Int64} (h : y < x) : lg_cmp x y = 1 := by
  have h1 : ¬ x < y := by rw [Int64.lt_iff_toInt_lt] at h ⊢; omega
  have h2 : ¬ x = y := by intro e; subst e; rw [Int64.lt_iff_toInt_lt] at h; omega
  simp [lg_cmp, h]
theorem lc_eq {x y : Int64} (h1 : ¬ x < y) (h2 : ¬ y < x) : lg_cmp x y = 0 := by
  have h3 : x = y := Int64.toInt_inj.mp (by rw [Int64.lt_iff_toInt_lt] at h1 h2; omega)
  subst h3
  simp [lg_cmp]
theorem lc_ge {x y : Int64} (h : ¬ x < y) : 0 ≤ lg_cmp x y := by
  by_cases h2 : y < x
  · rw [lc_gt h2]; decide
  · rw [lc_eq h h2]; decide
theorem lc_le {x y : Int64} (h : ¬ y < x) : lg_cmp x y ≤ 0 := by
  by_cases h2 : x < y
  · rw [lc_lt h2]; decide
  · rw [lc_eq h2 h]; decide
theorem g_ifl_ge {x y : Int64} {off : Int} {tgt : Nat} {et ef : Option α} (S : Sx K own cc nL rm) (d : decode cc pc = .ok (.ifCond .ge off, 3)) (ht : (pc : Int) + off = (tgt : Int)) (hf : (if x < y then ef else et) = some res) (k1 : x < y → ef = some res → Go K nL a M (pc + 3) lv st) (k2 : ¬ x < y → et = some res → Go K nL a M tgt lv st) : Go K nL a M pc lv (.int (lg_cmp x y) :: st) := sp_if hf (fun c e H locs ls h1 h2 => lv_if_ge S.1 S.2.1 d ht (fun z => absurd z (by rw [lc_lt c]; decide)) (fun _ => k1 c e H locs ls h1 h2)) (fun c e H locs ls h1 h2 => lv_if_ge S.1 S.2.1 d ht (fun _ => k2 c e H locs ls h1 h2) (fun z => absurd (lc_ge c) z))
theorem g_ifl_lt {x y : Int64} {off : Int} {tgt : Nat} {et ef : Option α} (S : Sx K own cc nL rm) (d : decode cc pc = .ok (.ifCond .lt off, 3)) (ht : (pc : Int) + off = (tgt : Int)) (hf : (if x < y then et else ef) = some res) (k1 : x < y → et = some res → Go K nL a M tgt lv st) (k2 : ¬ x < y → ef = some res → Go K nL a M (pc + 3) lv st) : Go K nL a M pc lv (.int (lg_cmp x y) :: st) := sp_if hf (fun c e H locs ls h1 h2 => lv_if_lt S.1 S.2.1 d ht (fun _ => k1 c e H locs ls h1 h2) (fun z => absurd (by rw [lc_lt c]; decide) z)) (fun c e H locs ls h1 h2 => lv_if_lt S.1 S.2.1 d ht (fun z => absurd (lc_ge c) (by rw [Int32.le_iff_toInt_le]; rw [Int32.lt_iff_toInt_lt] at z; omega)) (fun _ => k2 c e H locs ls h1 h2))
theorem g_ifl_le {x y : Int64} {off : Int} {tgt : Nat} {et ef : Option α} (S : Sx K own cc nL rm) (d : decode cc pc = .ok (.ifCond .le off, 3)) (ht : (pc : Int) + off = (tgt : Int)) (hf : (if y < x then ef else et) = some res) (k1 : y < x → ef = some res → Go K nL a M (pc + 3) lv st) (k2 : ¬ y < x → et = some res → Go K nL a M tgt lv st) : Go K nL a M pc lv (.int (lg_cmp x y) :: st) := sp_if hf (fun c e H locs ls h1 h2 => lv_if_le S.1 S.2.1 d ht (fun z => absurd z (by rw [lc_gt c]; decide)) (fun _ => k1 c e H locs ls h1 h2)) (fun c e H locs ls h1 h2 => lv_if_le S.1 S.2.1 d ht (fun _ => k2 c e H locs ls h1 h2) (fun z => absurd (lc_le c) z))
theorem g_ifl_gt {x y : Int64} {off : Int} {tgt : Nat} {et ef : Option α} (S : Sx K own cc nL rm) (d : decode cc pc = .ok (.ifCond .gt off, 3)) (ht : (pc : Int) + off = (tgt : Int)) (hf : (if y < x then et else ef) = some res) (k1 : y < x → et = some res → Go K nL a M tgt lv st) (k2 : ¬ y < x → ef = some res → Go K nL a M (pc + 3) lv st) : Go K nL a M pc lv (.int (lg_cmp x y) :: st) := sp_if hf (fun c e H locs ls h1 h2 => lv_if_gt S.1 S.2.1 d ht (fun _ => k1 c e H locs ls h1 h2) (fun z => absurd (by rw [lc_gt c]; decide) z)) (fun c e H locs ls h1 h2 => lv_if_gt S.1 S.2.1 d ht (fun z => absurd (lc_le c) (by rw [Int32.le_iff_toInt_le]; rw [Int32.lt_iff_toInt_lt] at z; omega)) (fun _ => k2 c e H locs ls h1 h2))
theorem g_idiv {x y : Int32} (S : Sx K own cc nL rm) (d : decode cc pc = .ok (.idiv, 1)) (hne : ¬ y = 0) (k : Go K nL a M (pc + 1) lv (.int (x / y) :: st)) : Go K nL a M pc lv (.int y :: .int x :: st) := fun H locs ls h1 h2 => lv_idiv S.1 S.2.1 d hne (k H locs ls h1 h2)
theorem g_irem {x y : Int32} (S : Sx K own cc nL rm) (d : decode cc pc = .ok (.irem, 1)) (hne : ¬ y = 0) (k : Go K nL a M (pc + 1) lv (.int (irem x y) :: st)) : Go K nL a M pc lv (.int y :: .int x :: st) := fun H locs ls h1 h2 => lv_irem S.1 S.2.1 d hne (k H locs ls h1 h2)
theorem g_ldiv {x y : Int64} (S : Sx K own cc nL rm) (d : decode cc pc = .ok (.ldiv, 1)) (hne : ¬ y = 0) (k : Go K nL a M (pc + 1) lv (.long (x / y) :: st)) : Go K nL a M pc lv (.long y :: .long x :: st) := fun H locs ls h1 h2 => lv_ldiv S.1 S.2.1 d hne (k H locs ls h1 h2)
theorem g_ldivC {x y : Int64} {e : Option α} (S : Sx K own cc nL rm) (d : decode cc pc = .ok (.ldiv, 1)) (hf : ck (decide (¬ y = 0)) e = some res) (k : e = some res → Go K nL a M (pc + 1) lv (.long (x / y) :: st)) : Go K nL a M pc lv (.long y :: .long x :: st) := g_ldiv S d (of_decide_eq_true (ck_some hf).1) (k (ck_some hf).2)
theorem g_iald {n len : Nat} {i : Int32} {e : Option α} (S : Sx K own cc nL rm) (o : IA a.1 n len) (d : decode cc pc = .ok (.iaload, 1)) (hf : ck (inb i len) e = some res) (k : e = some res → Go K nL a M (pc + 1) lv (.int (M n i.toNatClampNeg) :: st)) : Go K nL a M pc lv (.int i :: .ref (a.2 n) :: st) := fun H locs ls h1 h2 => by
  obtain ⟨q, -, hq⟩ := wd_at (G := kG K) (ad := a.2) (M := M) o.1
  rw [o.2] at hq
  exact va_iald S.1 S.2.1 S.2.2.2.2.2.1 h1.1 q 0 hq rfl (inb_vp (ck_some hf).1) d (k (ck_some hf).2 H locs ls h1 h2)
theorem g_zald {n len : Nat} {i : Int32} {e : Option α} (S : Sx K own cc nL rm) (o : ZA a.1 n len) (d : decode cc pc = .ok (.baload, 1)) (hf : ck (inb i len) e = some res) (k : e = some res → Go K nL a M (pc + 1) lv (.int (M n i.toNatClampNeg) :: st)) : Go K nL a M pc lv (.int i :: .ref (a.2 n) :: st) := fun H locs ls h1 h2 => by
  obtain ⟨q, -, hq⟩ := wd_at (G := kG K) (ad := a.2) (M := M) o.1
  rw [o.2] at hq
  exact va_zald S.1 S.2.1 S.2.2.2.2.2.1 h1.1 q 1 hq rfl (inb_vp (ck_some hf).1) d (k (ck_some hf).2 H locs ls h1 h2)
theorem g_iast {n len : Nat} {i x : Int32} {e : Option α} (S : Sx K own cc nL rm) (o : IA a.1 n len) (d : decode cc pc = .ok (.iastore, 1)) (hf : ck (inb i len) e = some res) (k : e = some res → Go K nL a (mu M n i.toNatClampNeg x) (pc + 1) lv st) : Go K nL a M pc lv (.int x :: .int i :: .ref (a.2 n) :: st) := fun H locs ls h1 h2 => by
  obtain ⟨q, hn, hq⟩ := wd_at (G := kG K) (ad := a.2) (M := M) o.1
  rw [o.2] at hq
  have e1 := wd_set (M' := mu M n i.toNatClampNeg x) (e := .inl ((kG K).2.2.1, len, .inl (upd (M n) i.toNatClampNeg x))) h1.2.1 hn (by rw [o.2, mu_eq]; rfl) (fun n' h => mu_ne n' h)
  refine va_iast S.1 S.2.1 S.2.2.2.2.2.1 h1.1 h1.2.1 h1.2.2 q 0 hq rfl (inb_vp (ck_some hf).1) d (fun H1 locs1 p1 p2 p3 => ?_)
  rw [e1] at p1 p2
  exact k (ck_some hf).2 H1 locs1 ls ⟨p1, p2, p3⟩ h2
theorem g_zast {n len : Nat} {i x : Int32} {e : Option α} (S : Sx K own cc nL rm) (o : ZA a.1 n len) (d : decode cc pc = .ok (.bastore, 1)) (hx : vp_nar .boolean x = x) (hf : ck (inb i len) e = some res) (k : e = some res → Go K nL a (mu M n i.toNatClampNeg x) (pc + 1) lv st) : Go K nL a M pc lv (.int x :: .int i :: .ref (a.2 n) :: st) := fun H locs ls h1 h2 => by
  obtain ⟨q, hn, hq⟩ := wd_at (G := kG K) (ad := a.2) (M := M) o.1
  rw [o.2] at hq
  have e1 := wd_set (M' := mu M n i.toNatClampNeg x) (e := .inl ((kG K).2.2.2.1, len, .inl (upd (M n) i.toNatClampNeg (vp_nar .boolean x)))) h1.2.1 hn (by rw [o.2, mu_eq, hx]; rfl) (fun n' h => mu_ne n' h)
  refine va_zast S.1 S.2.1 S.2.2.2.2.2.1 h1.1 h1.2.1 h1.2.2 q 1 hq rfl (inb_vp (ck_some hf).1) d (fun H1 locs1 p1 p2 p3 => ?_)
  rw [e1] at p1 p2
  exact k (ck_some hf).2 H1 locs1 ls ⟨p1, p2, p3⟩ h2
theorem g_alen {n len : Nat} {v : Int32} (S : Sx K own cc nL rm) (o : IA a.1 n len) (hv : Int32.ofNat len = v) (d : decode cc pc = .ok (.arraylength, 1)) (k : Go K nL a M (pc + 1) lv (.int v :: st)) : Go K nL a M pc lv (.ref (a.2 n) :: st) := fun H locs ls h1 h2 => by
  obtain ⟨q, -, hq⟩ := wd_at (G := kG K) (ad := a.2) (M := M) o.1
  rw [o.2] at hq
  exact va_alen S.1 S.2.1 S.2.2.2.2.2.1 h1.1 q 0 hq (ty := .int) rfl hv d (k H locs ls h1 h2)
theorem g_aald {n len t0 base step cnt : Nat} {C : String} {cA : ClassId} {i : Int32} {e1 e2 : Option α} (S : Sx K own cc nL rm) (hn : n ∈ wd_nm a.1) (hc : wd_cell (kG K) a.1 a.2 M n = .inl (cA, len, .inr (.inr (.inr (.inr (wd_rfs a.2 base step cnt)))))) (ht : (tyG (kG K))[t0]? = some (cA, .object C)) (d : decode cc pc = .ok (.aaload, 1)) (hf : ck (inb i len) (if i.toNatClampNeg < cnt then e1 else e2) = some res) (k1 : i.toNatClampNeg < cnt → e1 = some res → Go K nL a M (pc + 1) lv (.ref (a.2 (base + step * i.toNatClampNeg)) :: st)) (k2 : ¬ i.toNatClampNeg < cnt → e2 = some res → Go K nL a M (pc + 1) lv (.null :: st)) : Go K nL a M pc lv (.int i :: .ref (a.2 n) :: st) := fun H locs ls h1 h2 => by
  obtain ⟨q, -, hq⟩ := wd_at (G := kG K) (ad := a.2) (M := M) hn
  rw [hc] at hq
  refine va_aldq S.1 S.2.1 S.2.2.2.2.2.1 h1.1 q t0 hq ht (inb_vp (ck_some hf).1) d ?_
  refine sp_if (ck_some hf).2 (fun c e => ?_) (fun c e => ?_)
  · have e1 : wd_rfs a.2 base step cnt i.toNatClampNeg = some (a.2 (base + step * i.toNatClampNeg)) := by simp [wd_rfs, c]
    rw [e1]
    exact k1 c e H locs ls h1 h2
  · have e1 : wd_rfs a.2 base step cnt i.toNatClampNeg = none := by simp [wd_rfs, c]
    rw [e1]
    exact k2 c e H locs ls h1 h2
theorem g_get {n ci index N k : Nat} {fs : (Nat → Nat) → (Nat → Int32) → List Value} {C : String} {T : u_T} {v : Value} (S : Sx K own cc nL rm) (o : OB a.1 n ci fs) (hc : vwCl[ci]? = some (C, T, N)) (hin : ∀ w ∈ u_ws C T N, w ∈ lw_g) (hk : k < N) (hlink : Cond.fieldLink own index (T k).1 (T k).2.1 (T k).2.2.1 ∈ lw_g) (hv : (fs a.2 (M n))[k]? = some v) (d : decode cc pc = .ok (.getfield index, 3)) (kk : Go K nL a M (pc + 3) lv (v :: st)) : Go K nL a M pc lv (.ref (a.2 n) :: st) := fun H locs ls h1 h2 => by
  obtain ⟨q, -, hq⟩ := wd_at (G := kG K) (ad := a.2) (M := M) o.1
  rw [o.2] at hq
  exact va_get S.1 S.2.1 S.2.2.2.2.1 hin S.2.2.2.1 S.2.2.2.2.2.1 h1.1 q hq hc k hk (S.2.2.2.2.1 _ hlink) (fun _ h9 => h9) hv d (kk H locs ls h1 h2)
theorem g_put {n ci index N k : Nat} {fs : (Nat → Nat) → (Nat → Int32) → List Value} {C : String} {T : u_T} {x : Int32} {ty : FieldType} {ty0 : Nat → FieldType} (S : Sx K own cc nL rm) (o : OB a.1 n ci fs) (hc : vwCl[ci]? = some (C, T, N)) (hin : ∀ w ∈ u_ws C T N, w ∈ lw_g) (hty : ∀ k, k < N → parseFieldDescriptor (T k).2.2.1 = some (ty0 k)) (hnm : ∀ a, a < N → ∀ b, b < N → a ≠ b → (T a).2.1 ≠ (T b).2.1) (hk : k < N) (hlink : Cond.fieldLink own index (T k).1 (T k).2.1 (T k).2.2.1 ∈ lw_g) (hfin : (T k).2.2.2 = false) (hd : parseFieldDescriptor (T k).2.2.1 = some ty) (hx : narrow ty (.int x) = .int x) (hfit : fits ty (.int x) = true) (hl : k < (fs a.2 (M n)).length) (hs : (fs a.2 (M n)).set k (.int x) = fs a.2 (va_up (M n) k x)) (d : decode cc pc = .ok (.putfield index, 3)) (kk : Go K nL a (mu M n k x) (pc + 3) lv st) : Go K nL a M pc lv (.int x :: .ref (a.2 n) :: st) := fun H locs ls h1 h2 => by
  obtain ⟨q, hn, hq⟩ := wd_at (G := kG K) (ad := a.2) (M := M) o.1
  rw [o.2] at hq
  have e1 := wd_set (M' := mu M n k x) (e := .inr (ci, (fs a.2 (M n)).set k (.int x))) h1.2.1 hn (by rw [o.2, mu_eq, hs]) (fun n' h => mu_ne n' h)
  refine va_put S.1 S.2.1 S.2.2.2.2.1 hin ty0 hty hnm S.2.2.2.1 S.2.2.2.2.2.1 h1.1 h1.2.1 h1.2.2 q hq hc k hk (S.2.2.2.2.1 _ hlink) (fun _ h9 => h9) hfin hd hx hfit hl d (fun H1 locs1 p1 p2 p3 => ?_)
  rw [e1] at p1 p2
  exact kk H1 locs1 ls ⟨p1, p2, p3⟩ h2
theorem g_tabIn {dflt lo hi : Int} {offs : Array Int} {len : Nat} {x : Int32} {off : Int} {tgt : Nat} (v : Int32) (S : Sx K own cc nL rm) (d : decode cc pc = .ok (.tableswitch dflt lo hi offs, len)) (hx : x = v) (c1 : ¬ v.toInt < lo) (c2 : ¬ hi < v.toInt) (ho : offs[(v.toInt - lo).toNat]? = some off) (ht : (pc : Int) + off = (tgt : Int)) (k : Go K nL a M tgt lv st) : Go K nL a M pc lv (.int x :: st) := fun H locs ls h1 h2 => by
  subst hx
  exact lv_tableIn S.1 S.2.1 d c1 c2 ho ht (k H locs ls h1 h2)
theorem g_tabOut {dflt lo hi : Int} {offs : Array Int} {len : Nat} {x : Int32} {tgt : Nat} (S : Sx K own cc nL rm) (d : decode cc pc = .ok (.tableswitch dflt lo hi offs, len)) (h : x.toInt < lo ∨ hi < x.toInt) (ht : (pc : Int) + dflt = (tgt : Int)) (k : Go K nL a M tgt lv st) : Go K nL a M pc lv (.int x :: st) := fun H locs ls h1 h2 => lv_tableOut S.1 S.2.1 d h ht (k H locs ls h1 h2)
theorem sw_ne {x v : Int32} (h : ¬ x = v) : x.toInt ≠ v.toInt := fun e => h (Int32.toInt_inj.mp e)
end SX
