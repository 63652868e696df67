/-! THE CLASS: constructors, with many numbers -/
def AW (h : eH) (l : List Nat) : Prop := ∀ e, e ∈ l → WV h e 36 0
theorem stepW {h : eH} {a c K f : Nat} {fs : List Value} {l : List Nat} (o : h.1 a = .inr (K, fs)) (hc : h.2.1 = c) (hac : a < c) (aw : AW h l) (hl : ∀ e, e ∈ l → a < e ∧ e + 1 < c) : ∃ g h', den 90 [.ref h.2.1, .int (nI 36)] (nw h (.inr (9, [.null, .int 0, .int 0])) 3) = some (none, g) ∧ g.1 a = .inr (K, fs) ∧ h' = eUp g a (.inr (K, fs.set f (.ref h.2.1))) ∧ h'.2.1 = c + 2 ∧ h'.2.2 = h.2.2 + 39 ∧ h'.1 a = .inr (K, fs.set f (.ref h.2.1)) ∧ (∀ j, j < c → j ≠ a → h'.1 j = h.1 j) ∧ AW h' (c :: l) ∧ ∀ e, e ∈ c :: l → a < e ∧ e + 1 < c + 2 := by
  obtain ⟨g, e1, c1, s1, n1, w1⟩ := mkW (N := 36) hc (by decide) (by decide)
  refine ⟨g, _, e1, (n1 a hac).trans o, rfl, c1, s1, eUp_at .., fun j j1 j2 => (eUp_ne j2).trans (n1 j j1), fun e he => ?_, fun e he => ?_⟩
  · rcases List.mem_cons.mp he with q | q
    · rw [q]
      exact w1.keep (eUp_ne (by omega)) (eUp_ne (by omega))
    · obtain ⟨l1, l2⟩ := hl e q
      exact (aw e q).keep ((eUp_ne (by omega)).trans (n1 _ (by omega))) ((eUp_ne (by omega)).trans (n1 _ (by omega)))
  · rcases List.mem_cons.mp he with q | q
    · omega
    · have := hl e q
      omega
theorem lta (a n : Nat) : a < a + (n + 1) := by omega

theorem d144 {h : eH} {a : Nat} (ha : h.1 a = .inr (1, [.null, .null, .null, .null, .null, .null, .null])) (hc : h.2.1 = a + 1) : ∃ h', den 144 [.ref a] h = some (none, h') ∧ h'.2.1 = a + 22 ∧ h'.2.2 = h.2.2 + 394 ∧ (∀ j, j < a → h'.1 j = h.1 j) ∧ h'.1 a = .inr (1, [.ref (a + 1), .ref (a + 10), .ref (a + 12), .ref (a + 14), .ref (a + 16), .ref (a + 18), .ref (a + 20)]) ∧ h'.1 (a + 1) = .inr (2, [.ref (a + 2), .ref (a + 4), .ref (a + 6), .ref (a + 8)]) ∧ AW h' [a + 20, a + 18, a + 16, a + 14, a + 12, a + 10, a + 8, a + 6, a + 4, a + 2] := by
  have a0 := nw_at h (.inr (2, [.null, .null, .null, .null])) 4
  obtain ⟨q, hq⟩ : ∃ q, q = nw h (.inr (2, [.null, .null, .null, .null])) 4 := ⟨_, rfl⟩
  rw [← hq, hc] at a0
  have qc : q.2.1 = a + 1 + 1 := by rw [hq, ← hc]; rfl
  have qs : q.2.2 = h.2.2 + 4 := by rw [hq]; rfl
  have qk : ∀ i, i ≠ a + 1 → q.1 i = h.1 i := fun i hi => by rw [hq]; exact nw_ne (by omega)
  obtain ⟨g0, e0, c0, s0, n0, og0, x1, x2, x3, x4⟩ := d143 a0 qc
  have og0a := (n0 a (by omega)).trans ((qk a (by omega)).trans ha)
  have e0' : den 143 [.ref h.2.1] (nw h (.inr (2, [.null, .null, .null, .null])) 4) = some (none, g0) := by rw [← hq, hc]; exact e0
  have nn : ∀ j, j < a → g0.1 j = h.1 j := fun j hj => (n0 j (by omega)).trans (qk j (by omega))
  obtain ⟨h0, hh0⟩ : ∃ h0, h0 = eUp g0 a (.inr (1, [.ref h.2.1, .null, .null, .null, .null, .null, .null])) := ⟨_, rfl⟩
  have hc0 : h0.2.1 = a + 10 := by rw [hh0]; show g0.2.1 = _; omega
  have hs0 : h0.2.2 = h.2.2 + 160 := by rw [hh0]; show g0.2.2 = _; omega
  have o0 : h0.1 a = .inr (1, [.ref h.2.1, .null, .null, .null, .null, .null, .null]) := by rw [hh0]; exact eUp_at ..
  have k0 : ∀ j, j ≠ a → h0.1 j = g0.1 j := fun j j2 => by rw [hh0]; exact eUp_ne j2
  have og1' : h0.1 (a + 1) = .inr (2, [.ref (a + 2), .ref (a + 4), .ref (a + 6), .ref (a + 8)]) := (k0 _ (by omega)).trans og0
  have aw0 : AW h0 [a + 8, a + 6, a + 4, a + 2] := by
    intro e he
    simp only [List.mem_cons, List.not_mem_nil, or_false] at he
    rcases he with e1 | e1 | e1 | e1
    · rw [e1]; exact (show WV g0 (a + 8) 36 0 from x4).keep (k0 _ (by omega)) (k0 _ (by omega))
    · rw [e1]; exact (show WV g0 (a + 6) 36 0 from x3).keep (k0 _ (by omega)) (k0 _ (by omega))
    · rw [e1]; exact (show WV g0 (a + 4) 36 0 from x2).keep (k0 _ (by omega)) (k0 _ (by omega))
    · rw [e1]; exact (show WV g0 (a + 2) 36 0 from x1).keep (k0 _ (by omega)) (k0 _ (by omega))
  have hl0 : ∀ e, e ∈ [a + 8, a + 6, a + 4, a + 2] → a < e ∧ e + 1 < a + 10 := by
    intro e he
    simp only [List.mem_cons, List.not_mem_nil, or_false] at he
    omega
  clear x1 x2 x3 x4 a0 qc qs qk c0 s0 n0
  obtain ⟨g1, h1, e1, og1, hh1, hc1, hs1, o1, k1, aw1, hl1⟩ := stepW (f := 1) o0 hc0 (lta a 9) aw0 hl0
  have hh1 : h1 = eUp g1 a (.inr (1, [.ref h.2.1, .ref h0.2.1, .null, .null, .null, .null, .null])) := hh1
  have o1 : h1.1 a = .inr (1, [.ref h.2.1, .ref h0.2.1, .null, .null, .null, .null, .null]) := o1
  have hc1 : h1.2.1 = a + 12 := hc1
  obtain ⟨g2, h2, e2, og2, hh2, hc2, hs2, o2, k2, aw2, hl2⟩ := stepW (f := 2) o1 hc1 (lta a 11) aw1 hl1
  have hh2 : h2 = eUp g2 a (.inr (1, [.ref h.2.1, .ref h0.2.1, .ref h1.2.1, .null, .null, .null, .null])) := hh2
  have o2 : h2.1 a = .inr (1, [.ref h.2.1, .ref h0.2.1, .ref h1.2.1, .null, .null, .null, .null]) := o2
  have hc2 : h2.2.1 = a + 14 := hc2
  obtain ⟨g3, h3, e3, og3, hh3, hc3, hs3, o3, k3, aw3, hl3⟩ := stepW (f := 3) o2 hc2 (lta a 13) aw2 hl2
  have hh3 : h3 = eUp g3 a (.inr (1, [.ref h.2.1, .ref h0.2.1, .ref h1.2.1, .ref h2.2.1, .null, .null, .null])) := hh3
  have o3 : h3.1 a = .inr (1, [.ref h.2.1, .ref h0.2.1, .ref h1.2.1, .ref h2.2.1, .null, .null, .null]) := o3
  have hc3 : h3.2.1 = a + 16 := hc3
  obtain ⟨g4, h4, e4, og4, hh4, hc4, hs4, o4, k4, aw4, hl4⟩ := stepW (f := 4) o3 hc3 (lta a 15) aw3 hl3
  have hh4 : h4 = eUp g4 a (.inr (1, [.ref h.2.1, .ref h0.2.1, .ref h1.2.1, .ref h2.2.1, .ref h3.2.1, .null, .null])) := hh4
  have o4 : h4.1 a = .inr (1, [.ref h.2.1, .ref h0.2.1, .ref h1.2.1, .ref h2.2.1, .ref h3.2.1, .null, .null]) := o4
  have hc4 : h4.2.1 = a + 18 := hc4
  obtain ⟨g5, h5, e5, og5, hh5, hc5, hs5, o5, k5, aw5, hl5⟩ := stepW (f := 5) o4 hc4 (lta a 17) aw4 hl4
  have hh5 : h5 = eUp g5 a (.inr (1, [.ref h.2.1, .ref h0.2.1, .ref h1.2.1, .ref h2.2.1, .ref h3.2.1, .ref h4.2.1, .null])) := hh5
  have o5 : h5.1 a = .inr (1, [.ref h.2.1, .ref h0.2.1, .ref h1.2.1, .ref h2.2.1, .ref h3.2.1, .ref h4.2.1, .null]) := o5
  have hc5 : h5.2.1 = a + 20 := hc5
  obtain ⟨g6, h6, e6, og6, hh6, hc6, hs6, o6, k6, aw6, hl6⟩ := stepW (f := 6) o5 hc5 (lta a 19) aw5 hl5
  have hh6 : h6 = eUp g6 a (.inr (1, [.ref h.2.1, .ref h0.2.1, .ref h1.2.1, .ref h2.2.1, .ref h3.2.1, .ref h4.2.1, .ref h5.2.1])) := hh6
  have o6 : h6.1 a = .inr (1, [.ref h.2.1, .ref h0.2.1, .ref h1.2.1, .ref h2.2.1, .ref h3.2.1, .ref h4.2.1, .ref h5.2.1]) := o6
  have hc6 : h6.2.1 = a + 22 := hc6
  have kk : ∀ j, j < a + 10 → j ≠ a → h6.1 j = h0.1 j := fun j j1 j2 => (k6 j (Nat.lt_of_lt_of_le j1 (Nat.add_le_add_left (by decide) a)) j2).trans ((k5 j (Nat.lt_of_lt_of_le j1 (Nat.add_le_add_left (by decide) a)) j2).trans ((k4 j (Nat.lt_of_lt_of_le j1 (Nat.add_le_add_left (by decide) a)) j2).trans ((k3 j (Nat.lt_of_lt_of_le j1 (Nat.add_le_add_left (by decide) a)) j2).trans ((k2 j (Nat.lt_of_lt_of_le j1 (Nat.add_le_add_left (by decide) a)) j2).trans (k1 j j1 j2)))))
  have hsz : h6.2.2 = h.2.2 + 394 := by rw [hs6, hs5, hs4, hs3, hs2, hs1, hs0]
  have oo : h6.1 a = .inr (1, [.ref (a + 1), .ref (a + 10), .ref (a + 12), .ref (a + 14), .ref (a + 16), .ref (a + 18), .ref (a + 20)]) := by rw [o6, hc, hc0, hc1, hc2, hc3, hc4, hc5]
  refine ⟨h6, ?_, hc6, hsz, fun j hj => (kk j (Nat.lt_of_lt_of_le hj (Nat.le_add_right a 10)) (Nat.ne_of_lt hj)).trans ((k0 j (Nat.ne_of_lt hj)).trans (nn j hj)), oo, (kk _ (Nat.add_lt_add_left (by decide) a) (Nat.ne_of_gt (Nat.lt_succ_self a))).trans og1', aw6⟩
  rw [E144 a ha]
  simp only [S144, gFs, pFs, okq, bls, bo_true, eUp_at, eUp_eUp, eKls, cl_some, Option.toList_some, Option.toList_none, List.cons_append, List.nil_append, nw_eq, e0', og0a]
  rw [← hh0]
  simp only [S144, gFs, pFs, okq, bls, bo_true, eUp_at, eUp_eUp, eKls, cl_some, Option.toList_some, Option.toList_none, List.cons_append, List.nil_append, nw_eq, e1, og1]
  rw [← hh1]
  simp only [S144, gFs, pFs, okq, bls, bo_true, eUp_at, eUp_eUp, eKls, cl_some, Option.toList_some, Option.toList_none, List.cons_append, List.nil_append, nw_eq, e2, og2]
  rw [← hh2]
  simp only [S144, gFs, pFs, okq, bls, bo_true, eUp_at, eUp_eUp, eKls, cl_some, Option.toList_some, Option.toList_none, List.cons_append, List.nil_append, nw_eq, e3, og3]
  rw [← hh3]
  simp only [S144, gFs, pFs, okq, bls, bo_true, eUp_at, eUp_eUp, eKls, cl_some, Option.toList_some, Option.toList_none, List.cons_append, List.nil_append, nw_eq, e4, og4]
  rw [← hh4]
  simp only [S144, gFs, pFs, okq, bls, bo_true, eUp_at, eUp_eUp, eKls, cl_some, Option.toList_some, Option.toList_none, List.cons_append, List.nil_append, nw_eq, e5, og5]
  rw [← hh5]
  simp only [S144, gFs, pFs, okq, bls, bo_true, eUp_at, eUp_eUp, eKls, cl_some, Option.toList_some, Option.toList_none, List.cons_append, List.nil_append, nw_eq, e6, og6]
  rw [← hh6]
theorem d146 {h : eH} {a : Nat} (ha : h.1 a = .inr (3, [.null, .null, .null, .null, .null, .null])) (hc : h.2.1 = a + 1) : ∃ h', den 146 [.ref a, .ref 20] h = some (none, h') ∧ h'.2.1 = a + 17 ∧ h'.2.2 = h.2.2 + 475 ∧ (∀ j, j < a → h'.1 j = h.1 j) ∧ h'.1 a = .inr (3, [.ref (a + 11), .ref (a + 1), .ref (a + 3), .ref (a + 5), .ref (a + 7), .ref (a + 9)]) ∧ AW h' [a + 9, a + 7, a + 5, a + 3, a + 1] ∧ h'.1 (a + 11) = .inr (5, [.int (nI 3), .int (nI 3), .int (nI 24), .ref (a + 14), .ref (a + 15), .ref 20, .int 0, .int 0, .int 0, .int 0, .ref (a + 16), .ref (a + 12), .int 0]) ∧ WV h' (a + 12) 36 0 ∧ h'.1 (a + 14) = .inl (0, 216, .inl (fun _ => 0)) ∧ h'.1 (a + 15) = .inl (0, 9, .inl (fun _ => 0)) ∧ h'.1 (a + 16) = .inl (0, 3, .inl (fun _ => 0)) := by
  have aw0 : AW h [] := fun e he => absurd he (List.not_mem_nil)
  have hl0 : ∀ e, e ∈ ([] : List Nat) → a < e ∧ e + 1 < a + 1 := fun e he => absurd he (List.not_mem_nil)
  obtain ⟨g1, h1, e1, og1, hh1, hc1, hs1, o1, k1, aw1, hl1⟩ := stepW (f := 1) ha hc (lta a 0) aw0 hl0
  have hh1 : h1 = eUp g1 a (.inr (3, [.null, .ref h.2.1, .null, .null, .null, .null])) := hh1
  have o1 : h1.1 a = .inr (3, [.null, .ref h.2.1, .null, .null, .null, .null]) := o1
  have hc1 : h1.2.1 = a + 3 := hc1
  obtain ⟨g2, h2, e2, og2, hh2, hc2, hs2, o2, k2, aw2, hl2⟩ := stepW (f := 2) o1 hc1 (lta a 2) aw1 hl1
  have hh2 : h2 = eUp g2 a (.inr (3, [.null, .ref h.2.1, .ref h1.2.1, .null, .null, .null])) := hh2
  have o2 : h2.1 a = .inr (3, [.null, .ref h.2.1, .ref h1.2.1, .null, .null, .null]) := o2
  have hc2 : h2.2.1 = a + 5 := hc2
  obtain ⟨g3, h3, e3, og3, hh3, hc3, hs3, o3, k3, aw3, hl3⟩ := stepW (f := 3) o2 hc2 (lta a 4) aw2 hl2
  have hh3 : h3 = eUp g3 a (.inr (3, [.null, .ref h.2.1, .ref h1.2.1, .ref h2.2.1, .null, .null])) := hh3
  have o3 : h3.1 a = .inr (3, [.null, .ref h.2.1, .ref h1.2.1, .ref h2.2.1, .null, .null]) := o3
  have hc3 : h3.2.1 = a + 7 := hc3
  obtain ⟨g4, h4, e4, og4, hh4, hc4, hs4, o4, k4, aw4, hl4⟩ := stepW (f := 4) o3 hc3 (lta a 6) aw3 hl3
  have hh4 : h4 = eUp g4 a (.inr (3, [.null, .ref h.2.1, .ref h1.2.1, .ref h2.2.1, .ref h3.2.1, .null])) := hh4
  have o4 : h4.1 a = .inr (3, [.null, .ref h.2.1, .ref h1.2.1, .ref h2.2.1, .ref h3.2.1, .null]) := o4
  have hc4 : h4.2.1 = a + 9 := hc4
  obtain ⟨g5, h5, e5, og5, hh5, hc5, hs5, o5, k5, aw5, hl5⟩ := stepW (f := 5) o4 hc4 (lta a 8) aw4 hl4
  have hh5 : h5 = eUp g5 a (.inr (3, [.null, .ref h.2.1, .ref h1.2.1, .ref h2.2.1, .ref h3.2.1, .ref h4.2.1])) := hh5
  have o5 : h5.1 a = .inr (3, [.null, .ref h.2.1, .ref h1.2.1, .ref h2.2.1, .ref h3.2.1, .ref h4.2.1]) := o5
  have hc5 : h5.2.1 = a + 11 := hc5
  have kk : ∀ j, j < a → h5.1 j = h.1 j := fun j j1 => (k5 j (Nat.lt_of_lt_of_le j1 (Nat.le_add_right a 9)) (Nat.ne_of_lt j1)).trans ((k4 j (Nat.lt_of_lt_of_le j1 (Nat.le_add_right a 7)) (Nat.ne_of_lt j1)).trans ((k3 j (Nat.lt_of_lt_of_le j1 (Nat.le_add_right a 5)) (Nat.ne_of_lt j1)).trans ((k2 j (Nat.lt_of_lt_of_le j1 (Nat.le_add_right a 3)) (Nat.ne_of_lt j1)).trans (k1 j (Nat.lt_of_lt_of_le j1 (Nat.le_add_right a 1)) (Nat.ne_of_lt j1)))))
  have hsz : h5.2.2 = h.2.2 + 195 := by rw [hs5, hs4, hs3, hs2, hs1]
  have a0 := nw_at h5 (.inr (5, [.int 0, .int 0, .int 0, .null, .null, .null, .int 0, .int 0, .int 0, .int 0, .null, .null, .int 0])) 13
  obtain ⟨q, hq⟩ : ∃ q, q = nw h5 (.inr (5, [.int 0, .int 0, .int 0, .null, .null, .null, .int 0, .int 0, .int 0, .int 0, .null, .null, .int 0])) 13 := ⟨_, rfl⟩
  have qk : ∀ i, i ≠ a + 11 → q.1 i = h5.1 i := fun i hi => by rw [hq]; exact nw_ne (by rw [hc5]; exact hi)
  have qs : q.2.2 = h5.2.2 + 13 := by rw [hq]; rfl
  have qc : q.2.1 = a + 11 + 1 := by rw [hq, ← hc5]; rfl
  rw [← hq, hc5] at a0
  obtain ⟨g6, e6, c6, s6, n6, og6, w6, p1, p2, p3⟩ := d145 (H := 3) (W := 3) (C := 24) (d := 20) a0 qc (by decide) (by decide) (by decide)
  have e6' : den 145 [.ref h5.2.1, .int (nI 3), .int (nI 3), .int (nI 24), .ref 20] (nw h5 (.inr (5, [.int 0, .int 0, .int 0, .null, .null, .null, .int 0, .int 0, .int 0, .int 0, .null, .null, .int 0])) 13) = some (none, g6) := by rw [← hq, hc5]; exact e6
  have og6a : g6.1 a = _ := (n6 a (lta a 10)).trans ((qk a (Nat.ne_of_lt (lta a 10))).trans o5)
  obtain ⟨h6, hh6⟩ : ∃ h6, h6 = eUp g6 a (.inr (3, [.ref h5.2.1, .ref h.2.1, .ref h1.2.1, .ref h2.2.1, .ref h3.2.1, .ref h4.2.1])) := ⟨_, rfl⟩
  have o6 : h6.1 a = .inr (3, [.ref h5.2.1, .ref h.2.1, .ref h1.2.1, .ref h2.2.1, .ref h3.2.1, .ref h4.2.1]) := by rw [hh6]; exact eUp_at ..
  have k6 : ∀ j, j ≠ a → h6.1 j = g6.1 j := fun j hj => by rw [hh6]; exact eUp_ne hj
  have oo : h6.1 a = .inr (3, [.ref (a + 11), .ref (a + 1), .ref (a + 3), .ref (a + 5), .ref (a + 7), .ref (a + 9)]) := by rw [o6, hc5, hc, hc1, hc2, hc3, hc4]
  have z6 : h6.2.1 = a + 17 := by rw [hh6]; exact c6
  have y6 : h6.2.2 = h.2.2 + 475 := by rw [hh6]; show g6.2.2 = _; rw [s6, qs, hsz]
  clear hs1 hs2 hs3 hs4 hs5 s6 qs hsz c6 qc
  have aw6 : AW h6 [a + 9, a + 7, a + 5, a + 3, a + 1] := fun e he => by
    obtain ⟨l1, l2⟩ := hl5 e he
    exact (aw5 e he).keep ((k6 _ (by omega)).trans ((n6 _ (by omega)).trans (qk _ (by omega)))) ((k6 _ (by omega)).trans ((n6 _ (by omega)).trans (qk _ (by omega))))
  refine ⟨h6, ?_, z6, y6, fun j hj => (k6 j (Nat.ne_of_lt hj)).trans ((n6 j (Nat.lt_of_lt_of_le hj (Nat.le_add_right a 11))).trans ((qk j (Nat.ne_of_lt (Nat.lt_of_lt_of_le hj (Nat.le_add_right a 11)))).trans (kk j hj))), oo, aw6, (k6 _ (Nat.ne_of_gt (lta a 10))).trans og6, (show WV g6 (a + 12) 36 0 from w6).keep (k6 _ (Nat.ne_of_gt (lta a 11))) (k6 _ (Nat.ne_of_gt (lta a 12))), (k6 _ (Nat.ne_of_gt (lta a 13))).trans p1, (k6 _ (Nat.ne_of_gt (lta a 14))).trans p2, (k6 _ (Nat.ne_of_gt (lta a 15))).trans p3⟩
  rw [E146 a _ ha]
  simp only [S146, gFs, pFs, okq, bls, bo_true, eUp_at, eUp_eUp, eKls, cl_some, Option.toList_some, Option.toList_none, List.cons_append, List.nil_append, nw_eq, e1, og1]
  rw [← hh1]
  simp only [S146, gFs, pFs, okq, bls, bo_true, eUp_at, eUp_eUp, eKls, cl_some, Option.toList_some, Option.toList_none, List.cons_append, List.nil_append, nw_eq, e2, og2]
  rw [← hh2]
  simp only [S146, gFs, pFs, okq, bls, bo_true, eUp_at, eUp_eUp, eKls, cl_some, Option.toList_some, Option.toList_none, List.cons_append, List.nil_append, nw_eq, e3, og3]
  rw [← hh3]
  simp only [S146, gFs, pFs, okq, bls, bo_true, eUp_at, eUp_eUp, eKls, cl_some, Option.toList_some, Option.toList_none, List.cons_append, List.nil_append, nw_eq, e4, og4]
  rw [← hh4]
  simp only [S146, gFs, pFs, okq, bls, bo_true, eUp_at, eUp_eUp, eKls, cl_some, Option.toList_some, Option.toList_none, List.cons_append, List.nil_append, nw_eq, e5, og5]
  rw [← hh5]
  simp only [S146, gFs, pFs, okq, bls, bo_true, eUp_at, eUp_eUp, eKls, cl_some, Option.toList_some, Option.toList_none, List.cons_append, List.nil_append, nw_eq, e6', og6a]
  rw [← hh6]
