/-! THE REFERENCE: the net's arrays, small methods -/
def MNt (h : eH) (n : NT) : Prop := AR h 244 8 (nJ n) (fun j => iI (nP n 0 j)) ∧ AR h 245 8 (nJ n) (fun j => iI (nP n 1 j)) ∧ (∃ f, h.1 246 = .inl (2, 8, .inl f) ∧ ∀ j, j < nJ n → f j = ldI (nF n j)) ∧ AR h 247 8 (nJ n) (fun j => iI (nL n 0 j)) ∧ AR h 248 8 (nJ n) (fun j => iI (nL n 1 j)) ∧ AR h 249 14 (nM n) (fun m => nI (nA n m)) ∧ AR h 250 14 (nM n) (fun m => nI (nB n m)) ∧ AR h 251 14 (nM n) (fun m => nI (nS n m)) ∧ AR h 252 14 (nM n) (fun m => iI (nU n m))
theorem MNt.keep {h h' : eH} {n : NT} (x : MNt h n) (e : ∀ i, 244 ≤ i → i ≤ 252 → h'.1 i = h.1 i) : MNt h' n := by
  obtain ⟨x1, x2, ⟨f, x3, x3'⟩, x4, x5, x6, x7, x8, x9⟩ := x
  exact ⟨x1.keep (e _ (by omega) (by omega)), x2.keep (e _ (by omega) (by omega)), ⟨f, (e _ (by omega) (by omega)).trans x3, x3'⟩, x4.keep (e _ (by omega) (by omega)), x5.keep (e _ (by omega) (by omega)), x6.keep (e _ (by omega) (by omega)), x7.keep (e _ (by omega) (by omega)), x8.keep (e _ (by omega) (by omega)), x9.keep (e _ (by omega) (by omega))⟩
theorem MNt.x {h : eH} {n : NT} {j : Nat} (x : MNt h n) (hv : NV n) (hj : j < nJ n) {α : Type} : ∀ F : Int32 → Option α, aI (h.1 244) 0 (nI j) F = F (iI (nP n 0 j)) := x.1.get hj (by have := hv.1; omega) (by decide)
theorem MNt.y {h : eH} {n : NT} {j : Nat} (x : MNt h n) (hv : NV n) (hj : j < nJ n) {α : Type} : ∀ F : Int32 → Option α, aI (h.1 245) 0 (nI j) F = F (iI (nP n 1 j)) := x.2.1.get hj (by have := hv.1; omega) (by decide)
theorem MNt.fx {h : eH} {n : NT} {j : Nat} (x : MNt h n) (hv : NV n) (hj : j < nJ n) {α : Type} : ∀ F : Int32 → Option α, aI (h.1 246) 2 (nI j) F = F (ldI (nF n j)) := by
  intro F
  obtain ⟨f, x1, x2⟩ := x.2.2.1
  rw [x1, aI_nI (by have := hv.1; omega) (by decide), x2 j hj]
theorem MNt.lx {h : eH} {n : NT} {j : Nat} (x : MNt h n) (hv : NV n) (hj : j < nJ n) {α : Type} : ∀ F : Int32 → Option α, aI (h.1 247) 0 (nI j) F = F (iI (nL n 0 j)) := x.2.2.2.1.get hj (by have := hv.1; omega) (by decide)
theorem MNt.ly {h : eH} {n : NT} {j : Nat} (x : MNt h n) (hv : NV n) (hj : j < nJ n) {α : Type} : ∀ F : Int32 → Option α, aI (h.1 248) 0 (nI j) F = F (iI (nL n 1 j)) := x.2.2.2.2.1.get hj (by have := hv.1; omega) (by decide)
theorem MNt.a {h : eH} {n : NT} {m : Nat} (x : MNt h n) (hv : NV n) (hm : m < nM n) {α : Type} : ∀ F : Int32 → Option α, aI (h.1 249) 0 (nI m) F = F (nI (nA n m)) := x.2.2.2.2.2.1.get hm (by have := hv.1; omega) (by decide)
theorem MNt.b {h : eH} {n : NT} {m : Nat} (x : MNt h n) (hv : NV n) (hm : m < nM n) {α : Type} : ∀ F : Int32 → Option α, aI (h.1 250) 0 (nI m) F = F (nI (nB n m)) := x.2.2.2.2.2.2.1.get hm (by have := hv.1; omega) (by decide)
theorem MNt.s {h : eH} {n : NT} {m : Nat} (x : MNt h n) (hv : NV n) (hm : m < nM n) {α : Type} : ∀ F : Int32 → Option α, aI (h.1 251) 0 (nI m) F = F (nI (nS n m)) := x.2.2.2.2.2.2.2.1.get hm (by have := hv.1; omega) (by decide)
theorem MNt.u {h : eH} {n : NT} {m : Nat} (x : MNt h n) (hv : NV n) (hm : m < nM n) {α : Type} : ∀ F : Int32 → Option α, aI (h.1 252) 0 (nI m) F = F (iI (nU n m)) := x.2.2.2.2.2.2.2.2.get hm (by have := hv.1; omega) (by decide)
theorem nI_inj {a b : Nat} (ha : a < 2 ^ 31) (hb : b < 2 ^ 31) : nI a = nI b ↔ a = b := by
  rw [nI_I, nI_I, iI_eq (iok_nI ha) (iok_nI hb)]
  omega
section SM1
variable {h : eH} {jt mb hi wi rk co : Int32} {ro : Nat → Int32} {s : SC} {R : Nat → Int} {n : NT}
theorem m21 (i j : Nat) : den 21 [.ref 239, .int (nI i), .int (nI j)] (hK h jt mb hi wi rk co ro R s) = some (some (.int (nI (20 + 17 * i + j))), hK h jt mb hi wi rk co ro R s) := by
  rw [E21 239 _ _ hK_o]
  simp only [S21, gFs, pFs, okq, bls, bo_true, eUp_at, eUp_eUp, eKls, cl_some, Option.toList_some, Option.toList_none, List.cons_append, List.nil_append, nI_mul, nI_add]
theorem m14 (i j : Nat) : den 14 [.ref 239, .int (nI i), .int (nI j)] (hK h jt mb hi wi rk co ro R s) = some (some (.int (nI (292 + 16 * i + j))), hK h jt mb hi wi rk co ro R s) := by
  rw [E14 239 _ _ hK_o]
  simp only [S14, gFs, pFs, okq, bls, bo_true, eUp_at, eUp_eUp, eKls, cl_some, Option.toList_some, Option.toList_none, List.cons_append, List.nil_append, nI_mul, nI_add]
theorem m41 (i j : Nat) : den 41 [.ref 239, .int (nI i), .int (nI j)] (hK h jt mb hi wi rk co ro R s) = some (some (.int (nI (340 + 3 * i + j))), hK h jt mb hi wi rk co ro R s) := by
  rw [E41 239 _ _ hK_o]
  simp only [S41, gFs, pFs, okq, bls, bo_true, eUp_at, eUp_eUp, eKls, cl_some, Option.toList_some, Option.toList_none, List.cons_append, List.nil_append, nI_mul, nI_add]
theorem m51 (i j : Nat) : den 51 [.ref 239, .int (nI i), .int (nI j)] (hK h jt mb hi wi rk co ro R s) = some (some (.int (nI (382 + 3 * i + j))), hK h jt mb hi wi rk co ro R s) := by
  rw [E51 239 _ _ hK_o]
  simp only [S51, gFs, pFs, okq, bls, bo_true, eUp_at, eUp_eUp, eKls, cl_some, Option.toList_some, Option.toList_none, List.cons_append, List.nil_append, nI_mul, nI_add]
theorem m34 {i : Int} (hv : NV n) (hi' : iok i) : den 34 [.ref 239, .int (iI i)] (hK h jt (nI (nM n)) hi wi rk co ro R s) = some (some (.int (ldI (decide (0 ≤ i ∧ i < nM n)))), hK h jt (nI (nM n)) hi wi rk co ro R s) := by
  have v1 := hv.1
  rw [E34 239 _ hK_o]
  simp only [S34, gFs, pFs, okq, bls, bo_true, eUp_at, eUp_eUp, eKls, cl_some, Option.toList_some, Option.toList_none, List.cons_append, List.nil_append, hK_o]
  have l0 : iI i < 0 ↔ i < 0 := by rw [show (0 : Int32) = iI 0 from by decide]; exact iI_lt hi' iok_0
  have l1 : nI (nM n) ≤ iI i ↔ (nM n : Int) ≤ i := by rw [nI_I]; exact iI_le (iok_nI (by omega)) hi'
  by_cases q : i < 0
  · rw [if_pos (l0.mpr q), decide_eq_false (by omega)]; rfl
  · rw [if_neg (fun e => q (l0.mp e))]
    by_cases q1 : (nM n : Int) ≤ i
    · rw [if_pos (l1.mpr q1), decide_eq_false (by omega)]; rfl
    · rw [if_neg (fun e => q1 (l1.mp e)), decide_eq_true (by omega)]; rfl
theorem m55 {i : Int} (hv : NV n) (hi' : iok i) : den 55 [.ref 239, .int (iI i)] (hK h (nI (nJ n)) mb hi wi rk co ro R s) = some (some (.int (ldI (decide (0 ≤ i ∧ i < nJ n)))), hK h (nI (nJ n)) mb hi wi rk co ro R s) := by
  have v1 := hv.1
  rw [E55 239 _ hK_o]
  simp only [S55, gFs, pFs, okq, bls, bo_true, eUp_at, eUp_eUp, eKls, cl_some, Option.toList_some, Option.toList_none, List.cons_append, List.nil_append, hK_o]
  have l0 : iI i < 0 ↔ i < 0 := by rw [show (0 : Int32) = iI 0 from by decide]; exact iI_lt hi' iok_0
  have l1 : nI (nJ n) ≤ iI i ↔ (nJ n : Int) ≤ i := by rw [nI_I]; exact iI_le (iok_nI (by omega)) hi'
  by_cases q : i < 0
  · rw [if_pos (l0.mpr q), decide_eq_false (by omega)]; rfl
  · rw [if_neg (fun e => q (l0.mp e))]
    by_cases q1 : (nJ n : Int) ≤ i
    · rw [if_pos (l1.mpr q1), decide_eq_false (by omega)]; rfl
    · rw [if_neg (fun e => q1 (l1.mp e)), decide_eq_true (by omega)]; rfl
theorem m13_loop {k : Nat} (hv : NV n) (mn : MNt h n) (hk : k < nJ n) : ∀ r j, j + r = k → ru 13 4 [some (.ref 239), some (.int (nI k)), some (.int (nI (cnt (nF n) j))), some (.int (nI j))] [] (hK h jt mb hi wi rk co ro R s) = ru 13 32 [some (.ref 239), some (.int (nI k)), some (.int (nI (cnt (nF n) k))), some (.int (nI k))] [] (hK h jt mb hi wi rk co ro R s) := by
  have v1 := hv.1
  intro r
  induction r with
  | zero =>
    intro j hj
    have : j = k := by omega
    subst this
    rw [H13_4]
    simp only [S13, gFs, pFs, okq, bls, bo_true, eUp_at, eUp_eUp, eKls, cl_some, Option.toList_some, Option.toList_none, List.cons_append, List.nil_append]
    rw [if_pos (nI_le (Nat.le_refl _) (by omega))]
  | succ r ih =>
    intro j hj
    rw [H13_4]
    simp only [S13, gFs, pFs, okq, bls, bo_true, eUp_at, eUp_eUp, eKls, cl_some, Option.toList_some, Option.toList_none, List.cons_append, List.nil_append]
    rw [if_neg (nI_ge (by omega) (by omega))]
    simp only [S13, gFs, pFs, okq, bls, bo_true, eUp_at, eUp_eUp, eKls, cl_some, Option.toList_some, Option.toList_none, List.cons_append, List.nil_append, hK_o, hK_hs, mn.fx hv (show j < nJ n by omega)]
    have e : cnt (nF n) (j + 1) = cnt (nF n) j + (if nF n j = true then 0 else 1) := rfl
    cases q : nF n j with
    | true =>
      rw [q, if_pos rfl] at e
      rw [if_neg (show ¬ ldI true = 0 by decide)]
      rw [nI_add, nI_1, ← e]
      exact ih (j + 1) (by omega)
    | false =>
      rw [q, if_neg (fun x => by cases x)] at e
      rw [if_pos (show ldI false = 0 by decide)]
      rw [nI_add, nI_1, ← e]
      exact ih (j + 1) (by omega)
theorem m13 {k : Nat} (hv : NV n) (mn : MNt h n) (hk : k < nJ n) : den 13 [.ref 239, .int (nI k)] (hK h jt mb hi wi rk co ro R s) = some (some (.int (roI (ordr n k))), hK h jt mb hi wi rk co ro R s) := by
  rw [E13 239 _ hK_o]
  simp only [S13, gFs, pFs, okq, bls, bo_true, eUp_at, eUp_eUp, eKls, cl_some, Option.toList_some, Option.toList_none, List.cons_append, List.nil_append]
  have := m13_loop (h := h) (jt := jt) (mb := mb) (hi := hi) (wi := wi) (rk := rk) (co := co) (ro := ro) (s := s) (R := R) hv mn hk k 0 (by omega)
  rw [show cnt (nF n) 0 = 0 from rfl] at this
  rw [this, H13_32]
  simp only [S13, gFs, pFs, okq, bls, bo_true, eUp_at, eUp_eUp, eKls, cl_some, Option.toList_some, Option.toList_none, List.cons_append, List.nil_append, hK_o, hK_hs, mn.fx hv hk]
  unfold ordr
  cases q : nF n k with
  | true => rw [if_neg (show ¬ ldI true = 0 by decide), if_pos rfl]; rfl
  | false => rw [if_pos (show ldI false = 0 by decide), if_neg (fun x => by cases x)]; rfl
theorem m23_loop (hv : NV n) (mn : MNt h n) : ∀ r j, j + r = nJ n → ru 23 4 [some (.ref 239), some (.int (nI (cnt (nF n) j))), some (.int (nI j))] [] (hK h (nI (nJ n)) mb hi wi rk co ro R s) = some (some (.int (nI (nFr n))), hK h (nI (nJ n)) mb hi wi rk co ro R s) := by
  have v1 := hv.1
  intro r
  induction r with
  | zero =>
    intro j hj
    have : j = nJ n := by omega
    subst this
    rw [H23_4]
    simp only [S23, gFs, pFs, okq, bls, bo_true, eUp_at, eUp_eUp, eKls, cl_some, Option.toList_some, Option.toList_none, List.cons_append, List.nil_append, hK_o]
    rw [if_pos (nI_le (Nat.le_refl _) (by omega)), H23_35]
    simp only [S23, gFs, pFs, okq, bls, bo_true, eUp_at, eUp_eUp, eKls, cl_some, Option.toList_some, Option.toList_none, List.cons_append, List.nil_append]
    rfl
  | succ r ih =>
    intro j hj
    rw [H23_4]
    simp only [S23, gFs, pFs, okq, bls, bo_true, eUp_at, eUp_eUp, eKls, cl_some, Option.toList_some, Option.toList_none, List.cons_append, List.nil_append, hK_o]
    rw [if_neg (nI_ge (by omega) (by omega))]
    simp only [S23, gFs, pFs, okq, bls, bo_true, eUp_at, eUp_eUp, eKls, cl_some, Option.toList_some, Option.toList_none, List.cons_append, List.nil_append, hK_o, hK_hs, mn.fx hv (show j < nJ n by omega)]
    have e : cnt (nF n) (j + 1) = cnt (nF n) j + (if nF n j = true then 0 else 1) := rfl
    cases q : nF n j with
    | true =>
      rw [q, if_pos rfl] at e
      rw [if_neg (show ¬ ldI true = 0 by decide)]
      rw [nI_add, nI_1, ← e]
      exact ih (j + 1) (by omega)
    | false =>
      rw [q, if_neg (fun x => by cases x)] at e
      rw [if_pos (show ldI false = 0 by decide)]
      rw [nI_add, nI_1, ← e]
      exact ih (j + 1) (by omega)
theorem m23 (hv : NV n) (mn : MNt h n) : den 23 [.ref 239] (hK h (nI (nJ n)) mb hi wi rk co ro R s) = some (some (.int (nI (nFr n))), hK h (nI (nJ n)) mb hi wi rk co ro R s) := by
  rw [E23 239 hK_o]
  simp only [S23, gFs, pFs, okq, bls, bo_true, eUp_at, eUp_eUp, eKls, cl_some, Option.toList_some, Option.toList_none, List.cons_append, List.nil_append]
  have := m23_loop (h := h) (mb := mb) (hi := hi) (wi := wi) (rk := rk) (co := co) (ro := ro) (s := s) (R := R) hv mn (nJ n) 0 (by omega)
  rw [show cnt (nF n) 0 = 0 from rfl] at this
  exact this
theorem m24 {m k ax : Nat} (hv : NV n) (mn : MNt h n) (hm : m < nM n) (hk : k < 2 ^ 31) (hx : ax < 2) : den 24 [.ref 239, .int (nI m), .int (nI k), .int (nI ax)] (hK h jt mb hi wi rk co ro R s) = some (some (.int (iI (far n m k ax))), hK h jt mb hi wi rk co ro R s) := by
  have v1 := hv.1
  obtain ⟨w1, w2, w3, -⟩ := hv.2.2.2 m hm
  have g1 := MNt.a (α := eR) mn hv hm
  have g2 := MNt.b (α := eR) mn hv hm
  have t : ru 24 53 [some (.ref 239), some (.int (nI m)), some (.int (nI k)), some (.int (nI ax)), some (.int (nI (nA n m))), some (.int (nI (nB n m))), none] [.int (iI (spn n m ax))] (hK h jt mb hi wi rk co ro R s) = some (some (.int (iI (far n m k ax))), hK h jt mb hi wi rk co ro R s) := by
    simp only [S24, gFs, pFs, okq, bls, bo_true, eUp_at, eUp_eUp, eKls, cl_some, Option.toList_some, Option.toList_none, List.cons_append, List.nil_append]
    unfold far
    by_cases q1 : nA n m = k
    · rw [if_pos (by rw [q1]), if_pos q1]
    · rw [if_neg (fun e => q1 ((nI_inj (by omega) (by omega)).mp e).symm), if_neg q1]
      by_cases q2 : nB n m = k
      · rw [if_pos (by rw [q2]), if_pos q2, iI_neg]
      · rw [if_neg (fun e => q2 ((nI_inj (by omega) (by omega)).mp e).symm), if_neg q2]
        rfl
  rw [E24 239 _ _ _ hK_o, ← t]
  simp only [S24, gFs, pFs, okq, bls, bo_true, eUp_at, eUp_eUp, eKls, cl_some, Option.toList_some, Option.toList_none, List.cons_append, List.nil_append, hK_o, hK_hs, g1, g2]
  rcases (by omega : ax = 0 ∨ ax = 1) with e | e
  · subst e
    rw [if_pos (show nI 0 = 0 by decide)]
    simp only [S24, gFs, pFs, okq, bls, bo_true, eUp_at, eUp_eUp, eKls, cl_some, Option.toList_some, Option.toList_none, List.cons_append, List.nil_append, hK_o, hK_hs, MNt.x (α := eR) mn hv w2, MNt.x (α := eR) mn hv w1, iI_sub]
    rfl
  · subst e
    rw [if_neg (show ¬ nI 1 = 0 by decide)]
    simp only [S24, gFs, pFs, okq, bls, bo_true, eUp_at, eUp_eUp, eKls, cl_some, Option.toList_some, Option.toList_none, List.cons_append, List.nil_append, hK_o, hK_hs, MNt.y (α := eR) mn hv w2, MNt.y (α := eR) mn hv w1, iI_sub]
    rfl
end SM1
