/-! contracts of what makes cells in the book's world -/
def kU (K : KK) (c n : Nat) : KK := (kP K, kL K, kE K, kR K, kS K, kM K, kA K, kB K, kT K, kC K, kQ K, kF K, kG K, c, n)
def CtA (l : Launch) (G : GG) (y : MethodName) (cc : ByteArray) (mL : Nat) (rm : Room) (av : List Value) (a : AA) (M : Mem) (P : Int32 → AA × Mem → Prop) (mc ms : Nat) : Prop := ∀ sz : Nat, Met l y (.code y cc mL (some .int) :: lw_g) rm (va_Pc av (Pc0 G a M sz)) (va_Qi P (fun u t => B0 G u.1 (va_A (wd_W G a.1 a.2 M) sz) u.2 t) (va_A (wd_W G a.1 a.2 M) sz)) mc ms (va_A (wd_W G a.1 a.2 M) sz)
def RtA (K : KK) (cc : ByteArray) (P : Int32 → AA × Mem → Prop) (mc ms : Nat) : Prop := ∀ (r : Int32) (u : AA × Mem) (pc : Nat) (H : Heap) (locs : List Loc) (ls : Array Slot), P r u → decode cc pc = .ok (.ireturn, 1) → go_H K u.1 u.2 H locs → W (kP K) (kL K) (kE K) (kR K) (kS K) (kM K) (kA K) (kB K) (kT K) (kC K) H locs mc ms (kQ K) (F0 (kM K) pc ls [.int r])
theorem ct_A {l : Launch} {G : GG} {a : AA} {y : MethodName} {cc : ByteArray} {mL : Nat} {rm : Room} {av : List Value} {M : Mem} {own : String} {P : Int32 → AA × Mem → Prop} {mc ms : Nat} (hy : plainName y.cls = true) (hown : y.cls = own) (hlen : (lg_sl av).length ≤ mL) (body : ∀ K : KK, kL K = l → kG K = G → kc K = 0 → ks K = 0 → Sx K own cc mL rm → RtA K cc P mc ms → Go K mL a M 0 (lv_args 0 av) []) : CtA l G y cc mL rm av a M P mc ms := by
  intro sz
  refine Met.ofW (cc := cc) (maxL := mL) (ret := some .int) hy rfl ?_
  intro p e s m args below meth c s₁ B hml hv
  obtain ⟨rfl, hsz, hP, hK, hD0, hN⟩ := hv
  have hts := atoms_spec (ws := .code y cc mL (some .int) :: lw_g) B.pre
  have hf : s.vm.findClass y.cls = some m.cls := findClass_of_methodNamed B.named
  rw [hown] at hf
  subst hsz
  have hD := hD0.self (sz := s.heap.size)
  rw [lg_entry_eq]
  have hl := lv_entry av hlen
  have hlocks := B.notSynchronized
  exact body (p, l, e, rm, s, m, av.toArray, below, meth, c, MQ below (va_Qi P (fun u t => B0 G u.1 (va_A (wd_W G a.1 a.2 M) s.heap.size) u.2 t) (va_A (wd_W G a.1 a.2 M) s.heap.size)) av.toArray s mc ms (va_A (wd_W G a.1 a.2 M) s.heap.size), va_A (wd_W G a.1 a.2 M) s.heap.size, G, 0, 0) rfl rfl rfl rfl ⟨B.exec, B.bytes, hml, hf, fun w hw => hts w (List.mem_cons_of_mem _ hw), hK, hN, fun q hq => Or.inr hq, rfl, Nat.zero_le _, Nat.zero_le _⟩ (fun r u pc H locs ls hp d h => W.zret B.exec B.bytes B.returns (ty := .int) rfl (fun t ht hW => ⟨⟨r, u, rfl, hp, by rw [ht]; exact h.1, h.2.1⟩, h.2.2.F ht⟩) h.2.2.2.2 d hlocks) s.heap [] _ ⟨hP, hD, va_S.rf⟩ hl
section GA
variable {K : KK} {own : String} {cc : ByteArray} {nL c n0 : Nat} {rm : Room} {a : AA} {M : Mem} {pc : Nat} {lv : List (Nat × Value)} {st : List Value} {P : Int32 → AA × Mem → Prop} {mc ms : Nat} {l : va_W}
theorem Go.raw (hc : kc K = c) (hn : ks K = n0) (k : GoW K c n0 nL (wd_W (kG K) a.1 a.2 M ++ []) pc lv st) : Go K nL a M pc lv st := fun H locs ls h1 h2 => by
  subst hc; subst hn
  rw [List.append_nil] at k
  exact k H locs ls h1 h2
theorem GoW.up (k : Go (kU K c n0) nL a M pc lv st) : GoW K c n0 nL (wd_W (kG K) a.1 a.2 M) pc lv st := fun H locs ls h1 h2 => k H locs ls h1 h2
theorem Sx.up (S : Sx K own cc nL rm) (hc : c ≤ rm.cells) (hn : n0 ≤ rm.slots) : Sx (kU K c n0) own cc nL rm := ⟨S.1, S.2.1, S.2.2.1, S.2.2.2.1, S.2.2.2.2.1, S.2.2.2.2.2.1, S.2.2.2.2.2.2.1, S.2.2.2.2.2.2.2.1, S.2.2.2.2.2.2.2.2.1, rm_c S hc, rm_s S hn⟩
theorem g_Aret {r : Int32} (rt : RtA K cc P mc ms) (hp : P r (a, M)) (hc : c ≤ mc) (hn : n0 ≤ ms) (d : decode cc pc = .ok (.ireturn, 1)) : Go (kU K c n0) nL a M pc lv [.int r] := fun H locs ls h1 _ => W.widen hc hn (rt r (a, M) pc H locs ls hp d h1)
theorem Go.kU0 (hc : kc K = 0) (hn : ks K = 0) (k : Go (kU K 0 0) nL a M pc lv st) : Go K nL a M pc lv st := fun H locs ls h1 h2 => by
  have := k H locs ls h1 h2
  unfold go_W at this ⊢
  rw [hc, hn]
  exact this
theorem w_grow {t t0 j ci len q : Nat} {cA : ClassId} {r : vw_C} {vs : List Value} {f : Nat → Option Nat} {i : Int32} {z' ad' : Nat → Nat} {M' : Mem} (S : Sx K own cc nL rm) (hk : t ∈ wd_nm a.1) (hcell : wd_cell (kG K) a.1 a.2 M t = .inl (cA, len, .inr (.inr (.inr (.inr f))))) (ht : (tyG (kG K))[t0]? = some (cA, .object r.1)) (hv : l[j]? = some (q, .inr (ci, vs))) (hc : vwCl[ci]? = some r) (hin : vp_in i len) (d : decode cc pc = .ok (.aastore, 1)) (hperm : ∀ k : Nat, (wd_nm a.1)[k]? = some t → va_D (kF K) (wd_W (kG K) a.1 a.2 M) → ((wd_W (kG K) a.1 a.2 M ++ l).set k (a.2 t, .inl (cA, len, .inr (.inr (.inr (.inr (va_up f i.toNatClampNeg (some q)))))))).Perm (wd_W (kG K) z' ad' M')) (kk : GoW K c n0 nL (wd_W (kG K) z' ad' M') (pc + 1) lv st) : GoW K c n0 nL (wd_W (kG K) a.1 a.2 M ++ l) pc lv (.ref q :: .int i :: .ref (a.2 t) :: st) := fun H locs ls h1 h2 => by
  obtain ⟨k, hkn, hkw⟩ := wd_at (G := kG K) (ad := a.2) (M := M) hk
  have hkl : k < (wd_W (kG K) a.1 a.2 M).length := (List.getElem?_eq_some_iff.mp hkw).1
  have hD0 : va_D (kF K) (wd_W (kG K) a.1 a.2 M) := by
    have := vd_nd.mp h1.2.1
    refine vd_nd.mpr ⟨?_, fun q hq => this.2 q (List.mem_append_left _ hq)⟩
    have h9 := this.1
    rw [List.map_append] at h9
    exact h9.sublist (List.sublist_append_left _ _)
  have p := hperm k hkn hD0
  rw [hcell] at hkw
  refine va_astq S.1 S.2.1 S.2.2.2.2.2.1 h1.1 h1.2.1 h1.2.2 k t0 ((wd_W (kG K) a.1 a.2 M).length + j) ci (by rw [List.getElem?_append_left hkl]; exact hkw) ht (ap_get hv) hc hin d (fun H1 locs1 p1 p2 p3 => ?_)
  exact kk H1 locs1 ls ⟨vp_perm p p1, vd_perm p p2, p3⟩ h2
end GA
theorem va_up3 {z : Nat → Nat} {i v j : Nat} (h : j ≠ i) : va_up z i v j = z j := if_neg h
/-- a new kite's ints, and addresses -/
def nk_M (n : Nat) (M : Mem) : Mem := fun m => if m = n then (fun k => if k = 5 then -1 else 0) else if m = n + 1 ∨ m = n + 2 ∨ m = n + 3 then (fun _ => 0) else M m
def nk_ad (n : Nat) (ad : Nat → Nat) (q q1 q2 q3 : Nat) : Nat → Nat := fun m => if m = n then q else if m = n + 1 then q1 else if m = n + 2 then q2 else if m = n + 3 then q3 else ad m
def nl_M (n : Nat) (M : Mem) (s t w : Int32) : Mem := fun m => if m = n then (fun k => if k = 0 then s else if k = 1 then t else if k = 2 then w else 0) else if m = n + 1 then (fun _ => 0) else M m
def nl_ad (n : Nat) (ad : Nat → Nat) (q q1 : Nat) : Nat → Nat := fun m => if m = n then q else if m = n + 1 then q1 else ad m
def nf_M (n : Nat) (M : Mem) (x y l : Int32) : Mem := fun m => if m = n then (fun k => if k = 0 then x else if k = 1 then y else if k = 2 then l else 0) else M m
def nf_ad (n : Nat) (ad : Nat → Nat) (q : Nat) : Nat → Nat := fun m => if m = n then q else ad m
theorem in_bd {z : Nat → Nat} {n : Nat} (h : n ∈ wd_nm z) : n < 100 ∨ (100 ≤ n ∧ n < 100 + 4 * z 0) ∨ (200 ≤ n ∧ n < 200 + 2 * z 1) ∨ (300 ≤ n ∧ n < 300 + z 2) := by
  rcases List.mem_append.mp h with h | h
  · have : ∀ n ∈ wd_f0, n < 100 := by decide
    exact Or.inl (this n h)
  · rcases List.mem_append.mp h with h | h
    · obtain ⟨x, hx, rfl⟩ := List.mem_map.mp h
      have hx := List.mem_range.mp hx
      exact Or.inr (Or.inl ⟨by omega, by omega⟩)
    · rcases List.mem_append.mp h with h | h
      · obtain ⟨x, hx, rfl⟩ := List.mem_map.mp h
        have hx := List.mem_range.mp hx
        exact Or.inr (Or.inr (Or.inl ⟨by omega, by omega⟩))
      · obtain ⟨x, hx, rfl⟩ := List.mem_map.mp h
        have hx := List.mem_range.mp hx
        exact Or.inr (Or.inr (Or.inr ⟨by omega, by omega⟩))
theorem rf_up {ad ad' : Nat → Nat} {b s n q : Nat} (h : ∀ j, j < n → ad' (b + s * j) = ad (b + s * j)) (hq : ad' (b + s * n) = q) : va_up (wd_rfs ad b s n) n (some q) = wd_rfs ad' b s (n + 1) := by
  funext j
  unfold va_up wd_rfs
  by_cases c : j = n
  · subst c; rw [if_pos rfl, if_pos (by omega), hq]
  · by_cases c2 : j < n
    · rw [if_neg c, if_pos c2, if_pos (by omega), h j c2]
    · rw [if_neg c, if_neg c2, if_neg (by omega)]
theorem pk_kite {G : GG} {z ad : Nat → Nat} {M : Mem} {A : Nat → Prop} {q q1 q2 q3 k : Nat} (hz : z 0 < 20 ∧ z 1 ≤ 10 ∧ z 2 ≤ 10) (hD : va_D A (wd_W G z ad M)) (hk : (wd_nm z)[k]? = some 52) : ((wd_W G z ad M ++ ([(q, .inr (2, [.ref q1, .ref q2, .ref q3, .int 0, .int 0, .int (-1), .int 0])), (q1, .inl (G.2.2.1, 6, .inl (fun _ => 0))), (q2, .inl (G.2.2.1, 6, .inl (fun _ => 0))), (q3, .inl (G.2.2.1, 6, .inl (fun _ => 0)))] : va_W)).set k (ad 52, .inl (G.2.2.2.2.1, 20, .inr (.inr (.inr (.inr (va_up (wd_rfs ad 100 4 (z 0)) (Int32.toNatClampNeg (nI (z 0))) (some q)))))))).Perm (wd_W G (va_up z 0 (z 0 + 1)) (nk_ad (100 + 4 * z 0) ad q q1 q2 q3) (nk_M (100 + 4 * z 0) M)) := by
  obtain ⟨hz0, hz1, hz2⟩ := hz
  have ha : ∀ n ∈ wd_nm z, nk_ad (100 + 4 * z 0) ad q q1 q2 q3 n = ad n := by
    intro n hn
    have := in_bd hn
    unfold nk_ad
    rw [if_neg (by omega), if_neg (by omega), if_neg (by omega), if_neg (by omega)]
  have hv : vK (va_up z 0 (z 0 + 1)) (100 + 4 * z 0) := ⟨z 0, Nat.lt_succ_self _, by omega, rfl⟩
  refine wd_grow (new := [100 + 4 * z 0, 100 + 4 * z 0 + 1, 100 + 4 * z 0 + 2, 100 + 4 * z 0 + 3]) hD hk ?_ ?_ ha ?_ pm_K
  · rw [nI_clamp (by omega), rf_up (ad' := nk_ad (100 + 4 * z 0) ad q q1 q2 q3) (fun j hj => ha _ (in_kite (n := 100 + 4 * j) ⟨j, hj, by omega, rfl⟩ 0 (by decide))) (by simp [nk_ad])]
    rfl
  · intro n hn ht
    have := in_bd hn
    refine wd_keep hn ?_ ha (fun h => absurd h ht) (fun _ => rfl) (fun _ => rfl) (by omega)
    unfold nk_M
    rw [if_neg (by omega), if_neg (by omega)]
  · simp only [List.map_cons, List.map_nil]
    rw [ce_kite hv, ce_kiteA hv 1 (by decide) (by decide), ce_kiteA hv 2 (by decide) (by decide), ce_kiteA hv 3 (by decide) (by decide)]
    simp [wd_kite, nk_ad, nk_M]
theorem pk_line {G : GG} {z ad : Nat → Nat} {M : Mem} {A : Nat → Prop} {q q1 k : Nat} {s t w : Int32} (hz : z 0 ≤ 20 ∧ z 1 < 10 ∧ z 2 ≤ 10) (hD : va_D A (wd_W G z ad M)) (hk : (wd_nm z)[k]? = some 55) : ((wd_W G z ad M ++ ([(q, .inr (3, [.int s, .int t, .int w, .ref q1, .int 0])), (q1, .inl (G.2.2.1, 10, .inl (fun _ => 0)))] : va_W)).set k (ad 55, .inl (G.2.2.2.2.2.1, 10, .inr (.inr (.inr (.inr (va_up (wd_rfs ad 200 2 (z 1)) (Int32.toNatClampNeg (nI (z 1))) (some q)))))))).Perm (wd_W G (va_up z 1 (z 1 + 1)) (nl_ad (200 + 2 * z 1) ad q q1) (nl_M (200 + 2 * z 1) M s t w)) := by
  obtain ⟨hz0, hz1, hz2⟩ := hz
  have ha : ∀ n ∈ wd_nm z, nl_ad (200 + 2 * z 1) ad q q1 n = ad n := by
    intro n hn
    have := in_bd hn
    unfold nl_ad
    rw [if_neg (by omega), if_neg (by omega)]
  have hv : vL (va_up z 1 (z 1 + 1)) (200 + 2 * z 1) := ⟨z 1, Nat.lt_succ_self _, by omega, rfl⟩
  refine wd_grow (new := [200 + 2 * z 1, 200 + 2 * z 1 + 1]) hD hk ?_ ?_ ha ?_ pm_L
  · rw [nI_clamp (by omega), rf_up (ad' := nl_ad (200 + 2 * z 1) ad q q1) (fun j hj => ha _ (in_line (n := 200 + 2 * j) ⟨j, hj, by omega, rfl⟩ 0 (by decide))) (by simp [nl_ad])]
    rfl
  · intro n hn ht
    have := in_bd hn
    refine wd_keep hn ?_ ha (fun _ => rfl) (fun h => absurd h ht) (fun _ => rfl) (by omega)
    unfold nl_M
    rw [if_neg (by omega), if_neg (by omega)]
  · simp only [List.map_cons, List.map_nil]
    rw [ce_line hv, ce_lineA hv]
    simp [wd_line, nl_ad, nl_M]
theorem pk_flyer {G : GG} {z ad : Nat → Nat} {M : Mem} {A : Nat → Prop} {q k : Nat} {x y l : Int32} (hz : z 0 ≤ 20 ∧ z 1 ≤ 10 ∧ z 2 < 10) (hD : va_D A (wd_W G z ad M)) (hk : (wd_nm z)[k]? = some 58) : ((wd_W G z ad M ++ ([(q, .inr (1, [.int x, .int y, .int l, .int 0]))] : va_W)).set k (ad 58, .inl (G.2.2.2.2.2.2, 10, .inr (.inr (.inr (.inr (va_up (wd_rfs ad 300 1 (z 2)) (Int32.toNatClampNeg (nI (z 2))) (some q)))))))).Perm (wd_W G (va_up z 2 (z 2 + 1)) (nf_ad (300 + z 2) ad q) (nf_M (300 + z 2) M x y l)) := by
  obtain ⟨hz0, hz1, hz2⟩ := hz
  have ha : ∀ n ∈ wd_nm z, nf_ad (300 + z 2) ad q n = ad n := by
    intro n hn
    have := in_bd hn
    unfold nf_ad
    rw [if_neg (by omega)]
  have hv : vF (va_up z 2 (z 2 + 1)) (300 + z 2) := ⟨z 2, Nat.lt_succ_self _, rfl⟩
  refine wd_grow (new := [300 + z 2]) hD hk ?_ ?_ ha ?_ pm_F
  · rw [nI_clamp (by omega), rf_up (ad' := nf_ad (300 + z 2) ad q) (fun j hj => ha _ (in_flyer (n := 300 + 1 * j) ⟨j, hj, by omega⟩)) (by simp [nf_ad])]
    rfl
  · intro n hn ht
    have := in_bd hn
    refine wd_keep hn ?_ ha (fun _ => rfl) (fun _ => rfl) (fun h => absurd h ht) (by omega)
    unfold nf_M
    rw [if_neg (by omega)]
  · simp only [List.map_cons, List.map_nil]
    rw [ce_flyer hv]
    simp [wd_4, nf_ad, nf_M]
