/-! THE CLASS: constructors of net and slots -/
/-- rows of rows -/
def mwI (h : eH) (n k : Nat) : eH := (fun i => if i = h.2.1 then .inl (5, n, .inr (.inr (.inr (.inr (fun j => if j < n then some (h.2.1 + 1 + j) else none))))) else if h.2.1 < i ∧ i < h.2.1 + 1 + n then .inl (0, k, .inl (fun _ => 0)) else h.1 i, h.2.1 + 1 + n, h.2.2 + n + n * k)
theorem mwI_eq (h : eH) (n k : Nat) : ((fun i => if i = h.2.1 then .inl (5, n, .inr (.inr (.inr (.inr (fun j => if j < n then some (h.2.1 + 1 + j) else none))))) else if h.2.1 < i ∧ i < h.2.1 + 1 + n then .inl (0, k, .inl (fun _ => 0)) else h.1 i, h.2.1 + 1 + n, h.2.2 + n + n * k) : eH) = mwI h n k := rfl
theorem mwI_sp {h : eH} {c : Nat} (hc : h.2.1 = c) : (mwI h 2 8).2.1 = c + 3 ∧ (mwI h 2 8).2.2 = h.2.2 + 18 ∧ RW (mwI h 2 8) c (c + 1) ∧ (∀ ax, ax < 2 → AR (mwI h 2 8) (c + 1 + ax) 8 8 (fun _ => 0)) ∧ ∀ i, i < c → (mwI h 2 8).1 i = h.1 i := by
  subst hc
  refine ⟨rfl, rfl, ⟨fun j => if j < 2 then some (h.2.1 + 1 + j) else none, ?_, rfl, rfl⟩, fun ax hx => ⟨fun _ => 0, ?_, fun _ _ => rfl⟩, fun i hi => ?_⟩
  · show (if h.2.1 = h.2.1 then _ else _) = _
    rw [if_pos rfl]
  · show (if h.2.1 + 1 + ax = h.2.1 then _ else if h.2.1 < h.2.1 + 1 + ax ∧ h.2.1 + 1 + ax < h.2.1 + 1 + 2 then _ else _) = _
    rw [if_neg (by omega), if_pos (by omega)]
  · show (if i = h.2.1 then _ else if h.2.1 < i ∧ i < h.2.1 + 1 + 2 then _ else _) = _
    rw [if_neg (by omega), if_neg (by omega)]
def st0 : ST := (fun _ => none, fun _ => 0, fun _ _ => 0)
def nt0 : NT := (1, 0, fun _ _ => 0, fun _ => false, fun _ _ => 0, fun _ => 0, fun _ => 0, fun _ => 0, fun _ => 0)
theorem d147 {h : eH} {a : Nat} (ha : h.1 a = .inr (6, [.int 0, .int 0, .int 0, .null, .null, .null, .null, .null, .null, .null])) (hc : h.2.1 = a + 1) : ∃ h', den 147 [.ref a] h = some (none, h') ∧ h'.2.1 = a + 12 ∧ h'.2.2 = h.2.2 + 100 ∧ (∀ j, j < a → h'.1 j = h.1 j) ∧ NO h' a nt0 := by
  have c2 : (nI 2).toNatClampNeg = 2 := by decide
  have c8 : (nI 8).toNatClampNeg = 8 := by decide
  have c14 : (nI 14).toNatClampNeg = 14 := by decide
  obtain ⟨h0, hh0⟩ : ∃ h0, h0 = eUp h a (.inr (6, [.int (nI 1), .int (nI 1), .int 0, .null, .null, .null, .null, .null, .null, .null])) := ⟨_, rfl⟩
  have o0 : h0.1 a = .inr (6, [.int (nI 1), .int (nI 1), .int 0, .null, .null, .null, .null, .null, .null, .null]) := by rw [hh0]; exact eUp_at ..
  have hc0 : h0.2.1 = a + 1 := by rw [hh0]; exact hc
  have m0 : ∀ j, j < a → h0.1 j = h.1 j := fun j hj => by rw [hh0]; exact eUp_ne (by omega)
  have s0 : h0.2.2 = h.2.2 := by rw [hh0]; rfl
  obtain ⟨x1, x2, x3, x4, x5⟩ := mwI_sp hc0
  obtain ⟨q1, hq1⟩ : ∃ q, q = mwI h0 2 8 := ⟨_, rfl⟩
  rw [← hq1] at x1 x2 x3 x4 x5
  have qo1 := (x5 a (by omega)).trans o0
  obtain ⟨h1, hh1⟩ : ∃ h1, h1 = eUp q1 a (.inr (6, [.int (nI 1), .int (nI 1), .int 0, .ref h0.2.1, .null, .null, .null, .null, .null, .null])) := ⟨_, rfl⟩
  have o1 : h1.1 a = .inr (6, [.int (nI 1), .int (nI 1), .int 0, .ref h0.2.1, .null, .null, .null, .null, .null, .null]) := by rw [hh1]; exact eUp_at ..
  have k1 : ∀ j, j ≠ a → h1.1 j = q1.1 j := fun j hj => by rw [hh1]; exact eUp_ne hj
  have hc1 : h1.2.1 = a + 4 := by rw [hh1]; exact x1
  have s1 : h1.2.2 = h.2.2 + 18 := by rw [hh1]; show q1.2.2 = _; omega
  have m1 : ∀ j, j < a → h1.1 j = h.1 j := fun j hj => (k1 j (by omega)).trans ((x5 j (by omega)).trans (m0 j hj))
  have r1 : RW h1 (a + 1) (a + 2) := x3.keep (k1 _ (by omega))
  have p1 : ∀ ax, ax < 2 → AR h1 (a + 2 + ax) 8 8 (fun _ => 0) := fun ax hx => (show AR q1 (a + 2 + ax) 8 8 (fun _ => 0) from x4 ax hx).keep (k1 _ (by omega))
  clear x1 x2 x3 x4 x5 s0 m0
  obtain ⟨y1, y2, y3, y4, y5⟩ := mwI_sp hc1
  obtain ⟨q2, hq2⟩ : ∃ q, q = mwI h1 2 8 := ⟨_, rfl⟩
  rw [← hq2] at y1 y2 y3 y4 y5
  have qo2 := (y5 a (by omega)).trans o1
  obtain ⟨h2, hh2⟩ : ∃ h2, h2 = eUp q2 a (.inr (6, [.int (nI 1), .int (nI 1), .int 0, .ref h0.2.1, .ref h1.2.1, .null, .null, .null, .null, .null])) := ⟨_, rfl⟩
  have o2 : h2.1 a = .inr (6, [.int (nI 1), .int (nI 1), .int 0, .ref h0.2.1, .ref h1.2.1, .null, .null, .null, .null, .null]) := by rw [hh2]; exact eUp_at ..
  have k2 : ∀ j, j ≠ a → h2.1 j = q2.1 j := fun j hj => by rw [hh2]; exact eUp_ne hj
  have hc2 : h2.2.1 = a + 7 := by rw [hh2]; exact y1
  have s2 : h2.2.2 = h.2.2 + 36 := by rw [hh2]; show q2.2.2 = _; omega
  have n2 : ∀ j, j < a + 4 → j ≠ a → h2.1 j = h1.1 j := fun j j1 j2 => (k2 j j2).trans (y5 j j1)
  have r2 : RW h2 (a + 4) (a + 5) := y3.keep (k2 _ (by omega))
  have p2 : ∀ ax, ax < 2 → AR h2 (a + 5 + ax) 8 8 (fun _ => 0) := fun ax hx => (show AR q2 (a + 5 + ax) 8 8 (fun _ => 0) from y4 ax hx).keep (k2 _ (by omega))
  have m2 : ∀ j, j < a → h2.1 j = h.1 j := fun j hj => (n2 j (by omega) (by omega)).trans (m1 j hj)
  have r1' : RW h2 (a + 1) (a + 2) := r1.keep (n2 _ (by omega) (by omega))
  have p1' : ∀ ax, ax < 2 → AR h2 (a + 2 + ax) 8 8 (fun _ => 0) := fun ax hx => (p1 ax hx).keep (n2 _ (by omega) (by omega))
  clear y1 y2 y3 y4 y5 s1 m1 r1 p1 n2
  have arr : ∀ (g : eH) (c L : Nat) (fs : List Value) (f : Nat), g.2.1 = c → g.1 a = .inr (6, fs) → a < c → ∃ q k, q = nw g (.inl (0, L, .inl (fun _ => 0))) L ∧ q.1 a = .inr (6, fs) ∧ k = eUp q a (.inr (6, fs.set f (.ref g.2.1))) ∧ k.1 a = .inr (6, fs.set f (.ref g.2.1)) ∧ k.2.1 = c + 1 ∧ k.2.2 = g.2.2 + L ∧ AR k c L L (fun _ => 0) ∧ ∀ j, j < c → j ≠ a → k.1 j = g.1 j := by
    intro g c L fs f hc ho hac
    refine ⟨_, _, rfl, (nw_ne (by omega)).trans ho, rfl, eUp_at .., by rw [← hc]; rfl, rfl, ⟨fun _ => 0, ?_, fun _ _ => rfl⟩, fun j j1 j2 => (eUp_ne j2).trans (nw_ne (by omega))⟩
    rw [eUp_ne (by omega), ← hc]
    exact nw_at ..
  obtain ⟨q3, h3, hq3, qo3, hh3, o3, hc3, s3, a3, n3⟩ := arr h2 (a + 7) 8 _ 5 hc2 o2 (by omega)
  have hh3 : h3 = eUp q3 a (.inr (6, [.int (nI 1), .int (nI 1), .int 0, .ref h0.2.1, .ref h1.2.1, .ref h2.2.1, .null, .null, .null, .null])) := hh3
  have o3 : h3.1 a = .inr (6, [.int (nI 1), .int (nI 1), .int 0, .ref h0.2.1, .ref h1.2.1, .ref h2.2.1, .null, .null, .null, .null]) := o3
  obtain ⟨q4, h4, hq4, qo4, hh4, o4, hc4, s4, a4, n4⟩ := arr h3 (a + 8) 14 _ 6 hc3 o3 (by omega)
  have hh4 : h4 = eUp q4 a (.inr (6, [.int (nI 1), .int (nI 1), .int 0, .ref h0.2.1, .ref h1.2.1, .ref h2.2.1, .ref h3.2.1, .null, .null, .null])) := hh4
  have o4 : h4.1 a = .inr (6, [.int (nI 1), .int (nI 1), .int 0, .ref h0.2.1, .ref h1.2.1, .ref h2.2.1, .ref h3.2.1, .null, .null, .null]) := o4
  obtain ⟨q5, h5, hq5, qo5, hh5, o5, hc5, s5, a5, n5⟩ := arr h4 (a + 9) 14 _ 7 hc4 o4 (by omega)
  have hh5 : h5 = eUp q5 a (.inr (6, [.int (nI 1), .int (nI 1), .int 0, .ref h0.2.1, .ref h1.2.1, .ref h2.2.1, .ref h3.2.1, .ref h4.2.1, .null, .null])) := hh5
  have o5 : h5.1 a = .inr (6, [.int (nI 1), .int (nI 1), .int 0, .ref h0.2.1, .ref h1.2.1, .ref h2.2.1, .ref h3.2.1, .ref h4.2.1, .null, .null]) := o5
  obtain ⟨q6, h6, hq6, qo6, hh6, o6, hc6, s6, a6, n6⟩ := arr h5 (a + 10) 14 _ 8 hc5 o5 (by omega)
  have hh6 : h6 = eUp q6 a (.inr (6, [.int (nI 1), .int (nI 1), .int 0, .ref h0.2.1, .ref h1.2.1, .ref h2.2.1, .ref h3.2.1, .ref h4.2.1, .ref h5.2.1, .null])) := hh6
  have o6 : h6.1 a = .inr (6, [.int (nI 1), .int (nI 1), .int 0, .ref h0.2.1, .ref h1.2.1, .ref h2.2.1, .ref h3.2.1, .ref h4.2.1, .ref h5.2.1, .null]) := o6
  obtain ⟨q7, h7, hq7, qo7, hh7, o7, hc7, s7, a7, n7⟩ := arr h6 (a + 11) 14 _ 9 hc6 o6 (by omega)
  have hh7 : h7 = eUp q7 a (.inr (6, [.int (nI 1), .int (nI 1), .int 0, .ref h0.2.1, .ref h1.2.1, .ref h2.2.1, .ref h3.2.1, .ref h4.2.1, .ref h5.2.1, .ref h6.2.1])) := hh7
  have o7 : h7.1 a = .inr (6, [.int (nI 1), .int (nI 1), .int 0, .ref (a + 1), .ref (a + 4), .ref (a + 7), .ref (a + 8), .ref (a + 9), .ref (a + 10), .ref (a + 11)]) := by
    rw [hh7, eUp_at, hc0, hc1, hc2, hc3, hc4, hc5, hc6]
  have sz : h7.2.2 = h.2.2 + 100 := by omega
  clear arr s2 s3 s4 s5 s6 s7
  have nn : ∀ j, j < a + 7 → j ≠ a → h7.1 j = h2.1 j := fun j j1 j2 => (n7 j (by omega) j2).trans ((n6 j (by omega) j2).trans ((n5 j (by omega) j2).trans ((n4 j (by omega) j2).trans (n3 j (by omega) j2))))
  have b3 : AR h7 (a + 7) 8 8 (fun _ => 0) := (((a3.keep (n4 _ (by omega) (by omega))).keep (n5 _ (by omega) (by omega))).keep (n6 _ (by omega) (by omega))).keep (n7 _ (by omega) (by omega))
  have b4 : AR h7 (a + 8) 14 14 (fun _ => 0) := ((a4.keep (n5 _ (by omega) (by omega))).keep (n6 _ (by omega) (by omega))).keep (n7 _ (by omega) (by omega))
  have b5 : AR h7 (a + 9) 14 14 (fun _ => 0) := (a5.keep (n6 _ (by omega) (by omega))).keep (n7 _ (by omega) (by omega))
  have b6 : AR h7 (a + 10) 14 14 (fun _ => 0) := a6.keep (n7 _ (by omega) (by omega))
  refine ⟨h7, ?_, hc7, sz, fun j hj => (nn j (by omega) (by omega)).trans (m2 j hj), ⟨o7, r1'.keep (nn _ (by omega) (by omega)), fun ax hx => ((p1' ax hx).keep (nn _ (by omega) (by omega))).le (by decide) (fun _ _ => rfl), r2.keep (nn _ (by omega) (by omega)), fun ax hx => ((p2 ax hx).keep (nn _ (by omega) (by omega))).le (by decide) (fun _ _ => rfl), b3.le (by decide) (fun j hj => ?_), b4.le (by decide) (fun _ _ => rfl), b5.le (by decide) (fun _ _ => rfl), b6.le (by decide) (fun _ _ => rfl), a7.le (by decide) (fun _ _ => rfl)⟩⟩
  · rw [E147 a ha]
    simp only [S147, gFs, pFs, okq, bls, bo_true, eUp_at, eUp_eUp, eKls, cl_some, Option.toList_some, Option.toList_none, List.cons_append, List.nil_append, ha, c2, c8, c14, nw_eq, mwI_eq]
    rw [← hh0, if_neg (show ¬ (nI 2 < 0 ∨ nI 8 < 0 ∨ 1000 < 2 ∨ 1000 < 8) by decide), ← hq1]
    simp only [S147, gFs, pFs, okq, bls, bo_true, eUp_at, eUp_eUp, eKls, cl_some, Option.toList_some, Option.toList_none, List.cons_append, List.nil_append, qo1]
    rw [← hh1, if_neg (show ¬ (nI 2 < 0 ∨ nI 8 < 0 ∨ 1000 < 2 ∨ 1000 < 8) by decide), ← hq2]
    simp only [S147, gFs, pFs, okq, bls, bo_true, eUp_at, eUp_eUp, eKls, cl_some, Option.toList_some, Option.toList_none, List.cons_append, List.nil_append, qo2]
    rw [← hh2, if_neg (show ¬ (nI 8 < 0 ∨ 1000000 < 8) by decide), ← hq3]
    simp only [S147, gFs, pFs, okq, bls, bo_true, eUp_at, eUp_eUp, eKls, cl_some, Option.toList_some, Option.toList_none, List.cons_append, List.nil_append, qo3]
    rw [← hh3, if_neg (show ¬ (nI 14 < 0 ∨ 1000000 < 14) by decide), ← hq4]
    simp only [S147, gFs, pFs, okq, bls, bo_true, eUp_at, eUp_eUp, eKls, cl_some, Option.toList_some, Option.toList_none, List.cons_append, List.nil_append, qo4]
    rw [← hh4, if_neg (show ¬ (nI 14 < 0 ∨ 1000000 < 14) by decide), ← hq5]
    simp only [S147, gFs, pFs, okq, bls, bo_true, eUp_at, eUp_eUp, eKls, cl_some, Option.toList_some, Option.toList_none, List.cons_append, List.nil_append, qo5]
    rw [← hh5, if_neg (show ¬ (nI 14 < 0 ∨ 1000000 < 14) by decide), ← hq6]
    simp only [S147, gFs, pFs, okq, bls, bo_true, eUp_at, eUp_eUp, eKls, cl_some, Option.toList_some, Option.toList_none, List.cons_append, List.nil_append, qo6]
    rw [← hh6, if_neg (show ¬ (nI 14 < 0 ∨ 1000000 < 14) by decide), ← hq7]
    simp only [S147, gFs, pFs, okq, bls, bo_true, eUp_at, eUp_eUp, eKls, cl_some, Option.toList_some, Option.toList_none, List.cons_append, List.nil_append, qo7]
    rw [← hh7]
  · have : j = 0 := by have : j < 1 := hj; omega
    subst this
    decide
