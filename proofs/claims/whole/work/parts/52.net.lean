/-! NET: what it is, purely: joints, members, places, fixed, loads, from, to, sort, pulls -/
abbrev NT : Type := Nat × Nat × (Nat → Nat → Int) × (Nat → Bool) × (Nat → Nat → Int) × (Nat → Nat) × (Nat → Nat) × (Nat → Nat) × (Nat → Int)
def nJ (n : NT) : Nat := n.1
def nM (n : NT) : Nat := n.2.1
def nP (n : NT) : Nat → Nat → Int := n.2.2.1
def nF (n : NT) : Nat → Bool := n.2.2.2.1
def nL (n : NT) : Nat → Nat → Int := n.2.2.2.2.1
def nA (n : NT) : Nat → Nat := n.2.2.2.2.2.1
def nB (n : NT) : Nat → Nat := n.2.2.2.2.2.2.1
def nS (n : NT) : Nat → Nat := n.2.2.2.2.2.2.2.1
def nU (n : NT) : Nat → Int := n.2.2.2.2.2.2.2.2
def cnt (fx : Nat → Bool) : Nat → Nat
  | 0 => 0
  | j + 1 => cnt fx j + (if fx j = true then 0 else 1)
def nFr (n : NT) : Nat := cnt (nF n) (nJ n)
def ordr (n : NT) (j : Nat) : Option Nat := if nF n j = true then none else some (cnt (nF n) j)
def spn (n : NT) (m ax : Nat) : Int := nP n ax (nB n m) - nP n ax (nA n m)
def far (n : NT) (m k ax : Nat) : Int := if nA n m = k then spn n m ax else if nB n m = k then - spn n m ax else 0
def NV (n : NT) : Prop := (1 ≤ nJ n ∧ nJ n ≤ 8 ∧ nM n ≤ 14) ∧ (∀ a j, j < nJ n → -20 ≤ nP n a j ∧ nP n a j ≤ 20) ∧ (∀ a j, j < nJ n → -1000 ≤ nL n a j ∧ nL n a j ≤ 1000) ∧ ∀ m, m < nM n → nA n m < nJ n ∧ nB n m < nJ n ∧ nA n m ≠ nB n m ∧ nS n m ≤ 2 ∧ -1000 ≤ nU n m ∧ nU n m ≤ 1000
theorem cnt_le (fx : Nat → Bool) : ∀ j, cnt fx j ≤ j := by
  intro j
  induction j with
  | zero => exact Nat.le_refl _
  | succ j ih =>
    show cnt fx j + (if fx j = true then 0 else 1) ≤ j + 1
    split <;> omega
theorem cnt_mono (fx : Nat → Bool) {i j : Nat} (h : i ≤ j) : cnt fx i ≤ cnt fx j := by
  induction h with
  | refl => exact Nat.le_refl _
  | step _ ih => exact Nat.le_trans ih (Nat.le_add_right _ _)
theorem cnt_lt {fx : Nat → Bool} {i j : Nat} (h : i < j) (hf : ¬ fx i = true) : cnt fx i < cnt fx j := by
  have h1 : cnt fx (i + 1) = cnt fx i + 1 := by
    show cnt fx i + (if fx i = true then 0 else 1) = _
    rw [if_neg hf]
  have := cnt_mono fx (i := i + 1) (j := j) h
  omega
theorem cnt_inj {fx : Nat → Bool} {i j : Nat} (hi : ¬ fx i = true) (hj : ¬ fx j = true) (h : cnt fx i = cnt fx j) : i = j := by
  rcases Nat.lt_trichotomy i j with q | q | q
  · have := cnt_lt q hi; omega
  · exact q
  · have := cnt_lt q hj; omega
theorem ordr_lt {n : NT} {j r : Nat} (hj : j < nJ n) (h : ordr n j = some r) : r < nFr n ∧ ¬ nF n j = true ∧ r = cnt (nF n) j := by
  unfold ordr at h
  by_cases q : nF n j = true
  · rw [if_pos q] at h; cases h
  · rw [if_neg q] at h
    cases h
    exact ⟨cnt_lt hj q, q, rfl⟩
/-! how arrays are read -/
def AR (h : eH) (i L k : Nat) (v : Nat → Int32) : Prop := ∃ f, h.1 i = .inl (0, L, .inl f) ∧ ∀ j, j < k → f j = v j
def RW (h : eH) (i b : Nat) : Prop := ∃ g, h.1 i = .inl (5, 2, .inr (.inr (.inr (.inr g)))) ∧ g 0 = some b ∧ g 1 = some (b + 1)
theorem AR.get {h : eH} {i L k j : Nat} {v : Nat → Int32} (x : AR h i L k v) (hj : j < k) (hk : k ≤ L) (hL : L < 2 ^ 31) {α : Type} : ∀ F : Int32 → Option α, aI (h.1 i) 0 (nI j) F = F (v j) := by
  intro F
  obtain ⟨f, x1, x2⟩ := x
  rw [x1, aI_nI (by omega) hL, x2 j hj]
theorem RW.get {h : eH} {i b j : Nat} (x : RW h i b) (hj : j < 2) {α : Type} : ∀ F : Nat → Option α, aQ (h.1 i) (nI j) F = F (b + j) := by
  intro F
  obtain ⟨g, x1, x2, x3⟩ := x
  rw [x1]
  have : g j = some (b + j) := by
    rcases (by omega : j = 0 ∨ j = 1) with e | e
    · rw [e]; exact x2
    · rw [e]; exact x3
  rw [aQ_nI (by decide) (by decide) hj (by decide) this]
theorem AR.keep {h h' : eH} {i L k : Nat} {v : Nat → Int32} (x : AR h i L k v) (e : h'.1 i = h.1 i) : AR h' i L k v := by
  obtain ⟨f, x1, x2⟩ := x
  exact ⟨f, e.trans x1, x2⟩
theorem RW.keep {h h' : eH} {i b : Nat} (x : RW h i b) (e : h'.1 i = h.1 i) : RW h' i b := by
  obtain ⟨f, x1, x2⟩ := x
  exact ⟨f, e.trans x1, x2⟩
/-- the net's object lies at a, its arrays behind it -/
def NO (h : eH) (a : Nat) (n : NT) : Prop := h.1 a = .inr (6, [.int (nI (nJ n)), .int (nI (nFr n)), .int (nI (nM n)), .ref (a + 1), .ref (a + 4), .ref (a + 7), .ref (a + 8), .ref (a + 9), .ref (a + 10), .ref (a + 11)]) ∧ RW h (a + 1) (a + 2) ∧ (∀ ax, ax < 2 → AR h (a + 2 + ax) 8 (nJ n) (fun j => iI (nP n ax j))) ∧ RW h (a + 4) (a + 5) ∧ (∀ ax, ax < 2 → AR h (a + 5 + ax) 8 (nJ n) (fun j => iI (nL n ax j))) ∧ AR h (a + 7) 8 (nJ n) (fun j => roI (ordr n j)) ∧ AR h (a + 8) 14 (nM n) (fun m => nI (nA n m)) ∧ AR h (a + 9) 14 (nM n) (fun m => nI (nB n m)) ∧ AR h (a + 10) 14 (nM n) (fun m => nI (nS n m)) ∧ AR h (a + 11) 14 (nM n) (fun m => iI (nU n m))
theorem NO.keep {h h' : eH} {a : Nat} {n : NT} (x : NO h a n) (e : ∀ i, a ≤ i → i ≤ a + 11 → h'.1 i = h.1 i) : NO h' a n := by
  obtain ⟨x0, x1, x2, x3, x4, x5, x6, x7, x8, x9⟩ := x
  exact ⟨(e _ (by omega) (by omega)).trans x0, x1.keep (e _ (by omega) (by omega)), fun ax hx => (x2 ax hx).keep (e _ (by omega) (by omega)), x3.keep (e _ (by omega) (by omega)), fun ax hx => (x4 ax hx).keep (e _ (by omega) (by omega)), x5.keep (e _ (by omega) (by omega)), x6.keep (e _ (by omega) (by omega)), x7.keep (e _ (by omega) (by omega)), x8.keep (e _ (by omega) (by omega)), x9.keep (e _ (by omega) (by omega))⟩
theorem roI_ordr {n : NT} {j : Nat} (hj : j < nJ n) (hv : NV n) : roI (ordr n j) = -1 ↔ nF n j = true := by
  rw [roI_m1]
  · unfold ordr
    by_cases q : nF n j = true
    · rw [if_pos q]; exact ⟨fun _ => q, fun _ => rfl⟩
    · rw [if_neg q]; exact ⟨fun e => (by cases e), fun e => absurd e q⟩
  · intro r hr
    have h1 := (ordr_lt hj hr).1
    have h2 := cnt_le (nF n) (nJ n)
    have h3 := hv.1
    unfold nFr at h1
    omega
section NE
variable {h : eH} {a : Nat} {n : NT}
theorem d107 {j : Nat} (o : NO h a n) (hv : NV n) (hj : j < nJ n) : den 107 [.ref a, .int (nI j)] h = some (some (.int (if nF n j = true then nI 1 else nI 0)), h) := by
  obtain ⟨x0, x1, x2, x3, x4, x5, x6, x7, x8, x9⟩ := o
  rw [E107 a _ x0]
  simp only [S107, gFs, pFs, okq, bls, bo_true, eUp_at, eUp_eUp, eKls, cl_some, Option.toList_some, Option.toList_none, List.cons_append, List.nil_append, x0, x5.get hj hv.1.2.1 (by decide)]
  by_cases q : nF n j = true
  · rw [if_pos ((roI_ordr hj hv).mpr q), if_pos q]
  · rw [if_neg (fun e => q ((roI_ordr hj hv).mp e)), if_neg q]
/-- a joint's row of its move; none of a fixed one -/
def mov (n : NT) (j ax : Nat) : Option Nat := if nF n j = true then none else some (2 * cnt (nF n) j + ax)
theorem d108 {j ax : Nat} (o : NO h a n) (hv : NV n) (hj : j < nJ n) : den 108 [.ref a, .int (nI j), .int (nI ax)] h = some (some (.int (roI (mov n j ax))), h) := by
  have e1 := d107 o hv hj
  obtain ⟨x0, x1, x2, x3, x4, x5, x6, x7, x8, x9⟩ := o
  rw [E108 a _ _ x0]
  simp only [S108, gFs, pFs, okq, bls, bo_true, eUp_at, eUp_eUp, eKls, cl_some, Option.toList_some, Option.toList_none, List.cons_append, List.nil_append, e1]
  unfold mov
  by_cases q : nF n j = true
  · rw [if_pos q, if_pos q, if_neg (by decide)]
    rfl
  · rw [if_neg q, if_neg q, if_pos (by decide)]
    simp only [S108, gFs, pFs, okq, bls, bo_true, eUp_at, eUp_eUp, eKls, cl_some, Option.toList_some, Option.toList_none, List.cons_append, List.nil_append, x0, x5.get hj hv.1.2.1 (by decide)]
    unfold ordr
    rw [if_neg q]
    show some (some (Value.int (nI 2 * nI (cnt (nF n) j) + nI ax)), h) = _
    rw [nI_mul, nI_add]
    rfl
theorem d109 {m ax : Nat} (o : NO h a n) (hv : NV n) (hm : m < nM n) (hx : ax < 2) : den 109 [.ref a, .int (nI m), .int (nI ax)] h = some (some (.int (iI (spn n m ax))), h) := by
  obtain ⟨x0, x1, x2, x3, x4, x5, x6, x7, x8, x9⟩ := o
  obtain ⟨v1, v2, v3, v4⟩ := hv
  obtain ⟨m1, m2, -⟩ := v4 m hm
  rw [E109 a _ _ x0]
  simp only [S109, gFs, pFs, okq, bls, bo_true, eUp_at, eUp_eUp, eKls, cl_some, Option.toList_some, Option.toList_none, List.cons_append, List.nil_append, x0, x1.get hx, x7.get hm v1.2.2 (by decide), x6.get hm v1.2.2 (by decide), (x2 ax hx).get m1 v1.2.1 (by decide), (x2 ax hx).get m2 v1.2.1 (by decide), iI_sub]
  rfl
theorem d124 {i : Int} (o : NO h a n) (hv : NV n) (hi : iok i) : den 124 [.ref a, .int (iI i)] h = some (some (.int (if 0 ≤ i ∧ i < nM n then nI 1 else nI 0)), h) := by
  have v1 := hv.1
  rw [E124 a _ o.1]
  simp only [S124, gFs, pFs, okq, bls, bo_true, eUp_at, eUp_eUp, eKls, cl_some, Option.toList_some, Option.toList_none, List.cons_append, List.nil_append, o.1]
  have l0 : iI i < 0 ↔ i < 0 := by rw [show (0 : Int32) = iI 0 from by decide]; exact iI_lt hi iok_0
  have l1 : nI (nM n) ≤ iI i ↔ (nM n : Int) ≤ i := by rw [nI_I]; exact iI_le (iok_nI (by omega)) hi
  by_cases q : i < 0
  · rw [if_pos (l0.mpr q), if_neg (by omega)]
  · rw [if_neg (fun e => q (l0.mp e))]
    by_cases q1 : (nM n : Int) ≤ i
    · rw [if_pos (l1.mpr q1), if_neg (by omega)]
    · rw [if_neg (fun e => q1 (l1.mp e)), if_pos (by omega)]
theorem d157 {i : Int} (o : NO h a n) (hv : NV n) (hi : iok i) : den 157 [.ref a, .int (iI i)] h = some (some (.int (if 0 ≤ i ∧ i < nJ n then nI 1 else nI 0)), h) := by
  have v1 := hv.1
  rw [E157 a _ o.1]
  simp only [S157, gFs, pFs, okq, bls, bo_true, eUp_at, eUp_eUp, eKls, cl_some, Option.toList_some, Option.toList_none, List.cons_append, List.nil_append, o.1]
  have l0 : iI i < 0 ↔ i < 0 := by rw [show (0 : Int32) = iI 0 from by decide]; exact iI_lt hi iok_0
  have l1 : nI (nJ n) ≤ iI i ↔ (nJ n : Int) ≤ i := by rw [nI_I]; exact iI_le (iok_nI (by omega)) hi
  by_cases q : i < 0
  · rw [if_pos (l0.mpr q), if_neg (by omega)]
  · rw [if_neg (fun e => q (l0.mp e))]
    by_cases q1 : (nJ n : Int) ≤ i
    · rw [if_pos (l1.mpr q1), if_neg (by omega)]
    · rw [if_neg (fun e => q1 (l1.mp e)), if_pos (by omega)]
theorem spn_le (hv : NV n) {m ax : Nat} (hm : m < nM n) : -40 ≤ spn n m ax ∧ spn n m ax ≤ 40 := by
  obtain ⟨v1, v2, v3, v4⟩ := hv
  obtain ⟨m1, m2, -⟩ := v4 m hm
  have h1 := v2 ax _ m1
  have h2 := v2 ax _ m2
  unfold spn
  omega
theorem mul_le40 {u s : Int} (h1 : -1000 ≤ u ∧ u ≤ 1000) (h2 : -40 ≤ s ∧ s ≤ 40) : -40000 ≤ u * s ∧ u * s ≤ 40000 := by
  have h3 : (u * s).natAbs ≤ 1000 * 40 := by
    rw [Int.natAbs_mul]
    exact Nat.mul_le_mul (by omega) (by omega)
  omega
/-- what the told pulls come to at a joint -/
def psum (n : NT) (k ax : Nat) : Nat → Int := su (fun m => nU n m * far n m k ax)
theorem psum_le (hv : NV n) (k ax : Nat) : ∀ t, t ≤ nM n → -(40000 * t : Int) ≤ psum n k ax t ∧ psum n k ax t ≤ 40000 * t := by
  intro t
  induction t with
  | zero => intro _; exact ⟨by show _ ≤ (0 : Int); omega, by show (0 : Int) ≤ _; omega⟩
  | succ t ih =>
    intro ht
    have h1 := ih (by omega)
    obtain ⟨-, -, -, -, u1, u2⟩ := hv.2.2.2 t (by omega)
    have h2 := spn_le hv (ax := ax) (show t < nM n by omega)
    have h3 : -40 ≤ far n t k ax ∧ far n t k ax ≤ 40 := by
      unfold far
      split
      · exact h2
      · split
        · omega
        · omega
    have h4 := mul_le40 ⟨u1, u2⟩ h3
    show _ ≤ psum n k ax t + nU n t * far n t k ax ∧ psum n k ax t + nU n t * far n t k ax ≤ _
    generalize nU n t * far n t k ax = q at h4
    omega
theorem d137_loop {k ax : Nat} (o : NO h a n) (hv : NV n) (hx : ax < 2) (hk : k < 2 ^ 31) : ∀ r t, t + r = nM n → ru 137 5 [some (.ref a), some (.int (nI k)), some (.int (nI ax)), some (.int (iI (psum n k ax t))), some (.int (nI t))] [] h = some (some (.int (iI (psum n k ax (nM n)))), h) := by
  have o' := o
  obtain ⟨x0, x1, x2, x3, x4, x5, x6, x7, x8, x9⟩ := o
  have v1 := hv.1
  intro r
  induction r with
  | zero =>
    intro t ht
    have : t = nM n := by omega
    rw [this, H137_5]
    simp only [S137, gFs, pFs, okq, bls, bo_true, eUp_at, eUp_eUp, eKls, cl_some, Option.toList_some, Option.toList_none, List.cons_append, List.nil_append, x0]
    rw [if_pos (nI_le (Nat.le_refl _) (by omega)), H137_78]
    simp only [S137, gFs, pFs, okq, bls, bo_true, eUp_at, eUp_eUp, eKls, cl_some, Option.toList_some, Option.toList_none, List.cons_append, List.nil_append]
  | succ r ih =>
    intro t ht
    obtain ⟨y1, y2, y3, y4, y5, y6⟩ := hv.2.2.2 t (by omega)
    rw [H137_5]
    simp only [S137, gFs, pFs, okq, bls, bo_true, eUp_at, eUp_eUp, eKls, cl_some, Option.toList_some, Option.toList_none, List.cons_append, List.nil_append, x0]
    rw [if_neg (nI_ge (by omega) (by omega))]
    simp only [S137, gFs, pFs, okq, bls, bo_true, eUp_at, eUp_eUp, eKls, cl_some, Option.toList_some, Option.toList_none, List.cons_append, List.nil_append, x6.get (show t < nM n by omega) v1.2.2 (by decide), x7.get (show t < nM n by omega) v1.2.2 (by decide), x9.get (show t < nM n by omega) v1.2.2 (by decide), d109 o' hv (show t < nM n by omega) hx, x0, iI_mul, iI_add, iI_sub]
    have hA : nI (nA n t) = nI k ↔ nA n t = k := nI_eq (by omega) hk
    have hB : nI (nB n t) = nI k ↔ nB n t = k := nI_eq (by omega) hk
    have hs : psum n k ax (t + 1) = psum n k ax t + nU n t * far n t k ax := rfl
    have := ih (t + 1) (by omega)
    by_cases q1 : nA n t = k
    · rw [if_pos (hA.mpr q1), if_neg (fun e => by have := hB.mp e; omega), nI_1]
      rw [hs] at this
      unfold far at this
      rw [if_pos q1] at this
      exact this
    · rw [if_neg (fun e => q1 (hA.mp e))]
      by_cases q2 : nB n t = k
      · rw [if_pos (hB.mpr q2), nI_1]
        rw [hs] at this
        unfold far at this
        rw [if_neg q1, if_pos q2, Int.mul_neg, ← Int.sub_eq_add_neg] at this
        exact this
      · rw [if_neg (fun e => q2 (hB.mp e)), nI_1]
        rw [hs] at this
        unfold far at this
        rw [if_neg q1, if_neg q2, Int.mul_zero, Int.add_zero] at this
        exact this
theorem d137 {k ax : Nat} (o : NO h a n) (hv : NV n) (hx : ax < 2) (hk : k < 2 ^ 31) : den 137 [.ref a, .int (nI k), .int (nI ax)] h = some (some (.int (iI (psum n k ax (nM n)))), h) := by
  rw [E137 a _ _ o.1]
  simp only [S137, gFs, pFs, okq, bls, bo_true, eUp_at, eUp_eUp, eKls, cl_some, Option.toList_some, Option.toList_none, List.cons_append, List.nil_append]
  exact d137_loop o hv hx hk (nM n) 0 (by omega)
end NE
