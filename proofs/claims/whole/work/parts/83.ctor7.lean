/-! THE CLASS: its own constructor -/
theorem d148 {h : eH} (ha : h.1 0 = .inr (10, [.null, .null, .null, .null, .null, .null, .null, .null, .null, .null, .null, .int 0, .int 0, .int 0, .int 0, .int 0, .int 0])) (hc : h.2.1 = 1) : ∃ h', den 148 [.ref 0] h = some (none, h') ∧ h'.2.1 = 239 ∧ h'.2.2 ≤ h.2.2 + 6000 ∧ CI h' (st0, nt0, 0, 1) := by
  have a1 := nw_at h (.inr (7, [.null, .null, .null, .int 0, .int 0, .int 0])) 6
  obtain ⟨q1, hq1⟩ : ∃ q, q = nw h (.inr (7, [.null, .null, .null, .int 0, .int 0, .int 0])) 6 := ⟨_, rfl⟩
  have qk1 : ∀ j, j < 1 → q1.1 j = h.1 j := fun j hj => by rw [hq1]; exact nw_ne (by rw [hc]; exact Nat.ne_of_lt hj)
  have qs1 : q1.2.2 = h.2.2 + 6 := by rw [hq1]; rfl
  have qc1 : q1.2.1 = 1 + 1 := by rw [hq1]; show h.2.1 + 1 = _; rw [hc]
  rw [← hq1, hc] at a1
  obtain ⟨g1, e1, c1, s1, n1, sl⟩ := d141 a1 qc1
  have e1' : den 141 [.ref h.2.1] (nw h (.inr (7, [.null, .null, .null, .int 0, .int 0, .int 0])) 6) = some (none, g1) := by rw [← hq1, hc]; exact e1
  have og1 := (n1 0 (by decide)).trans ((qk1 0 (by decide)).trans ha)
  have s1 : g1.2.2 = h.2.2 + 510 := by rw [s1, qs1]
  obtain ⟨h1, hh1⟩ : ∃ h1, h1 = eUp g1 0 (.inr (10, [.ref h.2.1, .null, .null, .null, .null, .null, .null, .null, .null, .null, .null, .int 0, .int 0, .int 0, .int 0, .int 0, .int 0])) := ⟨_, rfl⟩
  have o1 : h1.1 0 = .inr (10, [.ref h.2.1, .null, .null, .null, .null, .null, .null, .null, .null, .null, .null, .int 0, .int 0, .int 0, .int 0, .int 0, .int 0]) := by rw [hh1]; exact eUp_at ..
  have hc1 : h1.2.1 = 13 := by rw [hh1]; exact c1
  have t1 : h1.2.2 = h.2.2 + 510 := by rw [hh1]; exact s1
  have k1 : ∀ j, j ≠ 0 → h1.1 j = g1.1 j := fun j hj => by rw [hh1]; exact eUp_ne hj
  have z1 : ∀ j, j < 1 → j ≠ 0 → h1.1 j = h.1 j := fun j hj j0 => (k1 j j0).trans ((n1 j hj).trans (qk1 j hj))
  have a2 := nw_at h1 (.inr (4, [.null, .null, .null])) 3
  obtain ⟨q2, hq2⟩ : ∃ q, q = nw h1 (.inr (4, [.null, .null, .null])) 3 := ⟨_, rfl⟩
  have qk2 : ∀ j, j < 13 → q2.1 j = h1.1 j := fun j hj => by rw [hq2]; exact nw_ne (by rw [hc1]; exact Nat.ne_of_lt hj)
  have qs2 : q2.2.2 = h1.2.2 + 3 := by rw [hq2]; rfl
  have qc2 : q2.2.1 = 13 + 1 := by rw [hq2]; show h1.2.1 + 1 = _; rw [hc1]
  rw [← hq2, hc1] at a2
  obtain ⟨g2, e2, c2, s2, n2, fr1, fr2, fr3, fr4⟩ := d142 (a := 13) a2 qc2
  have e2' : den 142 [.ref h1.2.1] (nw h1 (.inr (4, [.null, .null, .null])) 3) = some (none, g2) := by rw [← hq2, hc1]; exact e2
  have og2 := (n2 0 (by decide)).trans ((qk2 0 (by decide)).trans o1)
  have s2 : g2.2.2 = h1.2.2 + 120 := by rw [s2, qs2]
  obtain ⟨h2, hh2⟩ : ∃ h2, h2 = eUp g2 0 (.inr (10, [.ref h.2.1, .ref h1.2.1, .null, .null, .null, .null, .null, .null, .null, .null, .null, .int 0, .int 0, .int 0, .int 0, .int 0, .int 0])) := ⟨_, rfl⟩
  have o2 : h2.1 0 = .inr (10, [.ref h.2.1, .ref h1.2.1, .null, .null, .null, .null, .null, .null, .null, .null, .null, .int 0, .int 0, .int 0, .int 0, .int 0, .int 0]) := by rw [hh2]; exact eUp_at ..
  have hc2 : h2.2.1 = 20 := by rw [hh2]; exact c2
  have t2 : h2.2.2 = h1.2.2 + 120 := by rw [hh2]; exact s2
  have k2 : ∀ j, j ≠ 0 → h2.1 j = g2.1 j := fun j hj => by rw [hh2]; exact eUp_ne hj
  have z2 : ∀ j, j < 13 → j ≠ 0 → h2.1 j = h1.1 j := fun j hj j0 => (k2 j j0).trans ((n2 j hj).trans (qk2 j hj))
  have a3 := nw_at h2 (.inr (1, [.null, .null, .null, .null, .null, .null, .null])) 7
  obtain ⟨q3, hq3⟩ : ∃ q, q = nw h2 (.inr (1, [.null, .null, .null, .null, .null, .null, .null])) 7 := ⟨_, rfl⟩
  have qk3 : ∀ j, j < 20 → q3.1 j = h2.1 j := fun j hj => by rw [hq3]; exact nw_ne (by rw [hc2]; exact Nat.ne_of_lt hj)
  have qs3 : q3.2.2 = h2.2.2 + 7 := by rw [hq3]; rfl
  have qc3 : q3.2.1 = 20 + 1 := by rw [hq3]; show h2.2.1 + 1 = _; rw [hc2]
  rw [← hq3, hc2] at a3
  obtain ⟨g3, e3, c3, s3, n3, dk1, dk2, dk3⟩ := d144 (a := 20) a3 qc3
  have e3' : den 144 [.ref h2.2.1] (nw h2 (.inr (1, [.null, .null, .null, .null, .null, .null, .null])) 7) = some (none, g3) := by rw [← hq3, hc2]; exact e3
  have og3 := (n3 0 (by decide)).trans ((qk3 0 (by decide)).trans o2)
  have s3 : g3.2.2 = h2.2.2 + 401 := by rw [s3, qs3]
  obtain ⟨h3, hh3⟩ : ∃ h3, h3 = eUp g3 0 (.inr (10, [.ref h.2.1, .ref h1.2.1, .ref h2.2.1, .null, .null, .null, .null, .null, .null, .null, .null, .int 0, .int 0, .int 0, .int 0, .int 0, .int 0])) := ⟨_, rfl⟩
  have o3 : h3.1 0 = .inr (10, [.ref h.2.1, .ref h1.2.1, .ref h2.2.1, .null, .null, .null, .null, .null, .null, .null, .null, .int 0, .int 0, .int 0, .int 0, .int 0, .int 0]) := by rw [hh3]; exact eUp_at ..
  have hc3 : h3.2.1 = 42 := by rw [hh3]; exact c3
  have t3 : h3.2.2 = h2.2.2 + 401 := by rw [hh3]; exact s3
  have k3 : ∀ j, j ≠ 0 → h3.1 j = g3.1 j := fun j hj => by rw [hh3]; exact eUp_ne hj
  have z3 : ∀ j, j < 20 → j ≠ 0 → h3.1 j = h2.1 j := fun j hj j0 => (k3 j j0).trans ((n3 j hj).trans (qk3 j hj))
  have a4 := nw_at h3 (.inr (5, [.int 0, .int 0, .int 0, .null, .null, .null, .int 0, .int 0, .int 0, .int 0, .null, .null, .int 0])) 13
  obtain ⟨q4, hq4⟩ : ∃ q, q = nw h3 (.inr (5, [.int 0, .int 0, .int 0, .null, .null, .null, .int 0, .int 0, .int 0, .int 0, .null, .null, .int 0])) 13 := ⟨_, rfl⟩
  have qk4 : ∀ j, j < 42 → q4.1 j = h3.1 j := fun j hj => by rw [hq4]; exact nw_ne (by rw [hc3]; exact Nat.ne_of_lt hj)
  have qs4 : q4.2.2 = h3.2.2 + 13 := by rw [hq4]; rfl
  have qc4 : q4.2.1 = 42 + 1 := by rw [hq4]; show h3.2.1 + 1 = _; rw [hc3]
  rw [← hq4, hc3] at a4
  obtain ⟨g4, e4, c4, s4, n4, ga1, ga2, ga3, ga4, ga5⟩ := d145 (a := 42) (H := 16) (W := 15) (C := 5) (d := 20) a4 qc4 (by decide) (by decide) (by decide)
  have e4' : den 145 [.ref h3.2.1, .int (nI 16), .int (nI 15), .int (nI 5), .ref h2.2.1] (nw h3 (.inr (5, [.int 0, .int 0, .int 0, .null, .null, .null, .int 0, .int 0, .int 0, .int 0, .null, .null, .int 0])) 13) = some (none, g4) := by rw [← hq4, hc3, hc2]; exact e4
  have qo4 := (show (nw h3 (.inr (5, [.int 0, .int 0, .int 0, .null, .null, .null, .int 0, .int 0, .int 0, .int 0, .null, .null, .int 0])) 13).1 0 = h3.1 0 from nw_ne (by rw [hc3]; decide)).trans o3
  have og4 := (n4 0 (by decide)).trans ((qk4 0 (by decide)).trans o3)
  have s4 : g4.2.2 = h3.2.2 + 1507 := by rw [s4, qs4]
  obtain ⟨h4, hh4⟩ : ∃ h4, h4 = eUp g4 0 (.inr (10, [.ref h.2.1, .ref h1.2.1, .ref h2.2.1, .ref h3.2.1, .null, .null, .null, .null, .null, .null, .null, .int 0, .int 0, .int 0, .int 0, .int 0, .int 0])) := ⟨_, rfl⟩
  have o4 : h4.1 0 = .inr (10, [.ref h.2.1, .ref h1.2.1, .ref h2.2.1, .ref h3.2.1, .null, .null, .null, .null, .null, .null, .null, .int 0, .int 0, .int 0, .int 0, .int 0, .int 0]) := by rw [hh4]; exact eUp_at ..
  have hc4 : h4.2.1 = 48 := by rw [hh4]; exact c4
  have t4 : h4.2.2 = h3.2.2 + 1507 := by rw [hh4]; exact s4
  have k4 : ∀ j, j ≠ 0 → h4.1 j = g4.1 j := fun j hj => by rw [hh4]; exact eUp_ne hj
  have z4 : ∀ j, j < 42 → j ≠ 0 → h4.1 j = h3.1 j := fun j hj j0 => (k4 j j0).trans ((n4 j hj).trans (qk4 j hj))
  have a5 := nw_at h4 (.inr (5, [.int 0, .int 0, .int 0, .null, .null, .null, .int 0, .int 0, .int 0, .int 0, .null, .null, .int 0])) 13
  obtain ⟨q5, hq5⟩ : ∃ q, q = nw h4 (.inr (5, [.int 0, .int 0, .int 0, .null, .null, .null, .int 0, .int 0, .int 0, .int 0, .null, .null, .int 0])) 13 := ⟨_, rfl⟩
  have qk5 : ∀ j, j < 48 → q5.1 j = h4.1 j := fun j hj => by rw [hq5]; exact nw_ne (by rw [hc4]; exact Nat.ne_of_lt hj)
  have qs5 : q5.2.2 = h4.2.2 + 13 := by rw [hq5]; rfl
  have qc5 : q5.2.1 = 48 + 1 := by rw [hq5]; show h4.2.1 + 1 = _; rw [hc4]
  rw [← hq5, hc4] at a5
  obtain ⟨g5, e5, c5, s5, n5, gb1, gb2, gb3, gb4, gb5⟩ := d145 (a := 48) (H := 14) (W := 16) (C := 5) (d := 20) a5 qc5 (by decide) (by decide) (by decide)
  have e5' : den 145 [.ref h4.2.1, .int (nI 14), .int (nI 16), .int (nI 5), .ref h2.2.1] (nw h4 (.inr (5, [.int 0, .int 0, .int 0, .null, .null, .null, .int 0, .int 0, .int 0, .int 0, .null, .null, .int 0])) 13) = some (none, g5) := by rw [← hq5, hc4, hc2]; exact e5
  have qo5 := (show (nw h4 (.inr (5, [.int 0, .int 0, .int 0, .null, .null, .null, .int 0, .int 0, .int 0, .int 0, .null, .null, .int 0])) 13).1 0 = h4.1 0 from nw_ne (by rw [hc4]; decide)).trans o4
  have og5 := (n5 0 (by decide)).trans ((qk5 0 (by decide)).trans o4)
  have s5 : g5.2.2 = h4.2.2 + 1412 := by rw [s5, qs5]
  obtain ⟨h5, hh5⟩ : ∃ h5, h5 = eUp g5 0 (.inr (10, [.ref h.2.1, .ref h1.2.1, .ref h2.2.1, .ref h3.2.1, .ref h4.2.1, .null, .null, .null, .null, .null, .null, .int 0, .int 0, .int 0, .int 0, .int 0, .int 0])) := ⟨_, rfl⟩
  have o5 : h5.1 0 = .inr (10, [.ref h.2.1, .ref h1.2.1, .ref h2.2.1, .ref h3.2.1, .ref h4.2.1, .null, .null, .null, .null, .null, .null, .int 0, .int 0, .int 0, .int 0, .int 0, .int 0]) := by rw [hh5]; exact eUp_at ..
  have hc5 : h5.2.1 = 54 := by rw [hh5]; exact c5
  have t5 : h5.2.2 = h4.2.2 + 1412 := by rw [hh5]; exact s5
  have k5 : ∀ j, j ≠ 0 → h5.1 j = g5.1 j := fun j hj => by rw [hh5]; exact eUp_ne hj
  have z5 : ∀ j, j < 48 → j ≠ 0 → h5.1 j = h4.1 j := fun j hj j0 => (k5 j j0).trans ((n5 j hj).trans (qk5 j hj))
  have a6 := nw_at h5 (.inr (5, [.int 0, .int 0, .int 0, .null, .null, .null, .int 0, .int 0, .int 0, .int 0, .null, .null, .int 0])) 13
  obtain ⟨q6, hq6⟩ : ∃ q, q = nw h5 (.inr (5, [.int 0, .int 0, .int 0, .null, .null, .null, .int 0, .int 0, .int 0, .int 0, .null, .null, .int 0])) 13 := ⟨_, rfl⟩
  have qk6 : ∀ j, j < 54 → q6.1 j = h5.1 j := fun j hj => by rw [hq6]; exact nw_ne (by rw [hc5]; exact Nat.ne_of_lt hj)
  have qs6 : q6.2.2 = h5.2.2 + 13 := by rw [hq6]; rfl
  have qc6 : q6.2.1 = 54 + 1 := by rw [hq6]; show h5.2.1 + 1 = _; rw [hc5]
  rw [← hq6, hc5] at a6
  obtain ⟨g6, e6, c6, s6, n6, gc1, gc2, gc3, gc4, gc5⟩ := d145 (a := 54) (H := 8) (W := 10) (C := 5) (d := 20) a6 qc6 (by decide) (by decide) (by decide)
  have e6' : den 145 [.ref h5.2.1, .int (nI 8), .int (nI 10), .int (nI 5), .ref h2.2.1] (nw h5 (.inr (5, [.int 0, .int 0, .int 0, .null, .null, .null, .int 0, .int 0, .int 0, .int 0, .null, .null, .int 0])) 13) = some (none, g6) := by rw [← hq6, hc5, hc2]; exact e6
  have qo6 := (show (nw h5 (.inr (5, [.int 0, .int 0, .int 0, .null, .null, .null, .int 0, .int 0, .int 0, .int 0, .null, .null, .int 0])) 13).1 0 = h5.1 0 from nw_ne (by rw [hc5]; decide)).trans o5
  have og6 := (n6 0 (by decide)).trans ((qk6 0 (by decide)).trans o5)
  have s6 : g6.2.2 = h5.2.2 + 542 := by rw [s6, qs6]
  obtain ⟨h6, hh6⟩ : ∃ h6, h6 = eUp g6 0 (.inr (10, [.ref h.2.1, .ref h1.2.1, .ref h2.2.1, .ref h3.2.1, .ref h4.2.1, .ref h5.2.1, .null, .null, .null, .null, .null, .int 0, .int 0, .int 0, .int 0, .int 0, .int 0])) := ⟨_, rfl⟩
  have o6 : h6.1 0 = .inr (10, [.ref h.2.1, .ref h1.2.1, .ref h2.2.1, .ref h3.2.1, .ref h4.2.1, .ref h5.2.1, .null, .null, .null, .null, .null, .int 0, .int 0, .int 0, .int 0, .int 0, .int 0]) := by rw [hh6]; exact eUp_at ..
  have hc6 : h6.2.1 = 60 := by rw [hh6]; exact c6
  have t6 : h6.2.2 = h5.2.2 + 542 := by rw [hh6]; exact s6
  have k6 : ∀ j, j ≠ 0 → h6.1 j = g6.1 j := fun j hj => by rw [hh6]; exact eUp_ne hj
  have z6 : ∀ j, j < 54 → j ≠ 0 → h6.1 j = h5.1 j := fun j hj j0 => (k6 j j0).trans ((n6 j hj).trans (qk6 j hj))
  have a7 := nw_at h6 (.inr (0, [.null, .null, .null, .null, .null, .null, .null, .int 0])) 8
  obtain ⟨q7, hq7⟩ : ∃ q, q = nw h6 (.inr (0, [.null, .null, .null, .null, .null, .null, .null, .int 0])) 8 := ⟨_, rfl⟩
  have qk7 : ∀ j, j < 60 → q7.1 j = h6.1 j := fun j hj => by rw [hq7]; exact nw_ne (by rw [hc6]; exact Nat.ne_of_lt hj)
  have qs7 : q7.2.2 = h6.2.2 + 8 := by rw [hq7]; rfl
  have qc7 : q7.2.1 = 60 + 1 := by rw [hq7]; show h6.2.1 + 1 = _; rw [hc6]
  rw [← hq7, hc6] at a7
  obtain ⟨g7, e7, c7, s7, n7, co1, co2, co3, co4, co5, co6, co7⟩ := d92 (a := 60) a7 qc7
  have e7' : den 92 [.ref h6.2.1] (nw h6 (.inr (0, [.null, .null, .null, .null, .null, .null, .null, .int 0])) 8) = some (none, g7) := by rw [← hq7, hc6]; exact e7
  have og7 := (n7 0 (by decide)).trans ((qk7 0 (by decide)).trans o6)
  have s7 : g7.2.2 = h6.2.2 + 762 := by rw [s7, qs7]
  obtain ⟨h7, hh7⟩ : ∃ h7, h7 = eUp g7 0 (.inr (10, [.ref h.2.1, .ref h1.2.1, .ref h2.2.1, .ref h3.2.1, .ref h4.2.1, .ref h5.2.1, .ref h6.2.1, .null, .null, .null, .null, .int 0, .int 0, .int 0, .int 0, .int 0, .int 0])) := ⟨_, rfl⟩
  have o7 : h7.1 0 = .inr (10, [.ref h.2.1, .ref h1.2.1, .ref h2.2.1, .ref h3.2.1, .ref h4.2.1, .ref h5.2.1, .ref h6.2.1, .null, .null, .null, .null, .int 0, .int 0, .int 0, .int 0, .int 0, .int 0]) := by rw [hh7]; exact eUp_at ..
  have hc7 : h7.2.1 = 196 := by rw [hh7]; exact c7
  have t7 : h7.2.2 = h6.2.2 + 762 := by rw [hh7]; exact s7
  have k7 : ∀ j, j ≠ 0 → h7.1 j = g7.1 j := fun j hj => by rw [hh7]; exact eUp_ne hj
  have z7 : ∀ j, j < 60 → j ≠ 0 → h7.1 j = h6.1 j := fun j hj j0 => (k7 j j0).trans ((n7 j hj).trans (qk7 j hj))
  have a8 := nw_at h7 (.inr (3, [.null, .null, .null, .null, .null, .null])) 6
  obtain ⟨q8, hq8⟩ : ∃ q, q = nw h7 (.inr (3, [.null, .null, .null, .null, .null, .null])) 6 := ⟨_, rfl⟩
  have qk8 : ∀ j, j < 196 → q8.1 j = h7.1 j := fun j hj => by rw [hq8]; exact nw_ne (by rw [hc7]; exact Nat.ne_of_lt hj)
  have qs8 : q8.2.2 = h7.2.2 + 6 := by rw [hq8]; rfl
  have qc8 : q8.2.1 = 196 + 1 := by rw [hq8]; show h7.2.1 + 1 = _; rw [hc7]
  rw [← hq8, hc7] at a8
  obtain ⟨g8, e8, c8, s8, n8, fo1, fo2, fo3, fo4, fo5, fo6, fo7⟩ := d146 (a := 196) a8 qc8
  have e8' : den 146 [.ref h7.2.1, .ref h2.2.1] (nw h7 (.inr (3, [.null, .null, .null, .null, .null, .null])) 6) = some (none, g8) := by rw [← hq8, hc7, hc2]; exact e8
  have qo8 := (show (nw h7 (.inr (3, [.null, .null, .null, .null, .null, .null])) 6).1 0 = h7.1 0 from nw_ne (by rw [hc7]; decide)).trans o7
  have og8 := (n8 0 (by decide)).trans ((qk8 0 (by decide)).trans o7)
  have s8 : g8.2.2 = h7.2.2 + 481 := by rw [s8, qs8]
  obtain ⟨h8, hh8⟩ : ∃ h8, h8 = eUp g8 0 (.inr (10, [.ref h.2.1, .ref h1.2.1, .ref h2.2.1, .ref h3.2.1, .ref h4.2.1, .ref h5.2.1, .ref h6.2.1, .ref h7.2.1, .null, .null, .null, .int 0, .int 0, .int 0, .int 0, .int 0, .int 0])) := ⟨_, rfl⟩
  have o8 : h8.1 0 = .inr (10, [.ref h.2.1, .ref h1.2.1, .ref h2.2.1, .ref h3.2.1, .ref h4.2.1, .ref h5.2.1, .ref h6.2.1, .ref h7.2.1, .null, .null, .null, .int 0, .int 0, .int 0, .int 0, .int 0, .int 0]) := by rw [hh8]; exact eUp_at ..
  have hc8 : h8.2.1 = 213 := by rw [hh8]; exact c8
  have t8 : h8.2.2 = h7.2.2 + 481 := by rw [hh8]; exact s8
  have k8 : ∀ j, j ≠ 0 → h8.1 j = g8.1 j := fun j hj => by rw [hh8]; exact eUp_ne hj
  have z8 : ∀ j, j < 196 → j ≠ 0 → h8.1 j = h7.1 j := fun j hj j0 => (k8 j j0).trans ((n8 j hj).trans (qk8 j hj))
  have a9 := nw_at h8 (.inr (9, [.null, .int 0, .int 0])) 3
  obtain ⟨q9, hq9⟩ : ∃ q, q = nw h8 (.inr (9, [.null, .int 0, .int 0])) 3 := ⟨_, rfl⟩
  have qk9 : ∀ j, j < 213 → q9.1 j = h8.1 j := fun j hj => by rw [hq9]; exact nw_ne (by rw [hc8]; exact Nat.ne_of_lt hj)
  have qs9 : q9.2.2 = h8.2.2 + 3 := by rw [hq9]; rfl
  have qc9 : q9.2.1 = 213 + 1 := by rw [hq9]; show h8.2.1 + 1 = _; rw [hc8]
  obtain ⟨g9, e9, c9, s9, n9, tp⟩ := mkW (N := 36) hc8 (by decide) (by decide)
  have e9' := e9
  have og9 := (n9 0 (by decide)).trans o8
  have s9 : g9.2.2 = h8.2.2 + 39 := by rw [s9]
  obtain ⟨h9, hh9⟩ : ∃ h9, h9 = eUp g9 0 (.inr (10, [.ref h.2.1, .ref h1.2.1, .ref h2.2.1, .ref h3.2.1, .ref h4.2.1, .ref h5.2.1, .ref h6.2.1, .ref h7.2.1, .ref h8.2.1, .null, .null, .int 0, .int 0, .int 0, .int 0, .int 0, .int 0])) := ⟨_, rfl⟩
  have o9 : h9.1 0 = .inr (10, [.ref h.2.1, .ref h1.2.1, .ref h2.2.1, .ref h3.2.1, .ref h4.2.1, .ref h5.2.1, .ref h6.2.1, .ref h7.2.1, .ref h8.2.1, .null, .null, .int 0, .int 0, .int 0, .int 0, .int 0, .int 0]) := by rw [hh9]; exact eUp_at ..
  have hc9 : h9.2.1 = 215 := by rw [hh9]; exact c9
  have t9 : h9.2.2 = h8.2.2 + 39 := by rw [hh9]; exact s9
  have k9 : ∀ j, j ≠ 0 → h9.1 j = g9.1 j := fun j hj => by rw [hh9]; exact eUp_ne hj
  have z9 : ∀ j, j < 213 → j ≠ 0 → h9.1 j = h8.1 j := fun j hj j0 => (k9 j j0).trans (n9 j hj)
  have a10 := nw_at h9 (.inr (6, [.int 0, .int 0, .int 0, .null, .null, .null, .null, .null, .null, .null])) 10
  obtain ⟨q10, hq10⟩ : ∃ q, q = nw h9 (.inr (6, [.int 0, .int 0, .int 0, .null, .null, .null, .null, .null, .null, .null])) 10 := ⟨_, rfl⟩
  have qk10 : ∀ j, j < 215 → q10.1 j = h9.1 j := fun j hj => by rw [hq10]; exact nw_ne (by rw [hc9]; exact Nat.ne_of_lt hj)
  have qs10 : q10.2.2 = h9.2.2 + 10 := by rw [hq10]; rfl
  have qc10 : q10.2.1 = 215 + 1 := by rw [hq10]; show h9.2.1 + 1 = _; rw [hc9]
  rw [← hq10, hc9] at a10
  obtain ⟨g10, e10, c10, s10, n10, ne⟩ := d147 (a := 215) a10 qc10
  have e10' : den 147 [.ref h9.2.1] (nw h9 (.inr (6, [.int 0, .int 0, .int 0, .null, .null, .null, .null, .null, .null, .null])) 10) = some (none, g10) := by rw [← hq10, hc9]; exact e10
  have og10 := (n10 0 (by decide)).trans ((qk10 0 (by decide)).trans o9)
  have s10 : g10.2.2 = h9.2.2 + 110 := by rw [s10, qs10]
  obtain ⟨h10, hh10⟩ : ∃ h10, h10 = eUp g10 0 (.inr (10, [.ref h.2.1, .ref h1.2.1, .ref h2.2.1, .ref h3.2.1, .ref h4.2.1, .ref h5.2.1, .ref h6.2.1, .ref h7.2.1, .ref h8.2.1, .ref h9.2.1, .null, .int 0, .int 0, .int 0, .int 0, .int 0, .int 0])) := ⟨_, rfl⟩
  have o10 : h10.1 0 = .inr (10, [.ref h.2.1, .ref h1.2.1, .ref h2.2.1, .ref h3.2.1, .ref h4.2.1, .ref h5.2.1, .ref h6.2.1, .ref h7.2.1, .ref h8.2.1, .ref h9.2.1, .null, .int 0, .int 0, .int 0, .int 0, .int 0, .int 0]) := by rw [hh10]; exact eUp_at ..
  have hc10 : h10.2.1 = 227 := by rw [hh10]; exact c10
  have t10 : h10.2.2 = h9.2.2 + 110 := by rw [hh10]; exact s10
  have k10 : ∀ j, j ≠ 0 → h10.1 j = g10.1 j := fun j hj => by rw [hh10]; exact eUp_ne hj
  have z10 : ∀ j, j < 215 → j ≠ 0 → h10.1 j = h9.1 j := fun j hj j0 => (k10 j j0).trans ((n10 j hj).trans (qk10 j hj))
  have a11 := nw_at h10 (.inr (6, [.int 0, .int 0, .int 0, .null, .null, .null, .null, .null, .null, .null])) 10
  obtain ⟨q11, hq11⟩ : ∃ q, q = nw h10 (.inr (6, [.int 0, .int 0, .int 0, .null, .null, .null, .null, .null, .null, .null])) 10 := ⟨_, rfl⟩
  have qk11 : ∀ j, j < 227 → q11.1 j = h10.1 j := fun j hj => by rw [hq11]; exact nw_ne (by rw [hc10]; exact Nat.ne_of_lt hj)
  have qs11 : q11.2.2 = h10.2.2 + 10 := by rw [hq11]; rfl
  have qc11 : q11.2.1 = 227 + 1 := by rw [hq11]; show h10.2.1 + 1 = _; rw [hc10]
  rw [← hq11, hc10] at a11
  obtain ⟨g11, e11, c11, s11, n11, sp⟩ := d147 (a := 227) a11 qc11
  have e11' : den 147 [.ref h10.2.1] (nw h10 (.inr (6, [.int 0, .int 0, .int 0, .null, .null, .null, .null, .null, .null, .null])) 10) = some (none, g11) := by rw [← hq11, hc10]; exact e11
  have og11 := (n11 0 (by decide)).trans ((qk11 0 (by decide)).trans o10)
  have s11 : g11.2.2 = h10.2.2 + 110 := by rw [s11, qs11]
  obtain ⟨h11, hh11⟩ : ∃ h11, h11 = eUp g11 0 (.inr (10, [.ref h.2.1, .ref h1.2.1, .ref h2.2.1, .ref h3.2.1, .ref h4.2.1, .ref h5.2.1, .ref h6.2.1, .ref h7.2.1, .ref h8.2.1, .ref h9.2.1, .ref h10.2.1, .int 0, .int 0, .int 0, .int 0, .int 0, .int 0])) := ⟨_, rfl⟩
  have o11 : h11.1 0 = .inr (10, [.ref h.2.1, .ref h1.2.1, .ref h2.2.1, .ref h3.2.1, .ref h4.2.1, .ref h5.2.1, .ref h6.2.1, .ref h7.2.1, .ref h8.2.1, .ref h9.2.1, .ref h10.2.1, .int 0, .int 0, .int 0, .int 0, .int 0, .int 0]) := by rw [hh11]; exact eUp_at ..
  have hc11 : h11.2.1 = 239 := by rw [hh11]; exact c11
  have t11 : h11.2.2 = h10.2.2 + 110 := by rw [hh11]; exact s11
  have k11 : ∀ j, j ≠ 0 → h11.1 j = g11.1 j := fun j hj => by rw [hh11]; exact eUp_ne hj
  have z11 : ∀ j, j < 227 → j ≠ 0 → h11.1 j = h10.1 j := fun j hj j0 => (k11 j j0).trans ((n11 j hj).trans (qk11 j hj))
  have tt : h11.2.2 = h.2.2 + 5994 := by rw [t11, t10, t9, t8, t7, t6, t5, t4, t3, t2, t1]
  clear t1 t2 t3 t4 t5 t6 t7 t8 t9 t10 t11 s1 s2 s3 s4 s5 s6 s7 s8 s9 s10 s11 qs1 qs2 qs3 qs4 qs5 qs6 qs7 qs8 qs9 qs10 qs11 qc1 qc2 qc3 qc4 qc5 qc6 qc7 qc8 qc9 qc10 qc11 c1 c2 c3 c4 c5 c6 c7 c8 c9 c10 c11 n1 n2 n3 n4 n5 n6 n7 n8 n9 n10 n11 qk1 qk2 qk3 qk4 qk5 qk6 qk7 qk8 qk9 qk10 qk11
  have f11 : ∀ j, j ≠ 0 → h11.1 j = g11.1 j := k11
  have y10 : ∀ j, j < 227 → j ≠ 0 → h11.1 j = h10.1 j := z11
  have f10 : ∀ j, j < 227 → j ≠ 0 → h11.1 j = g10.1 j := fun j hj j0 => (y10 j hj j0).trans (k10 j j0)
  have y9 : ∀ j, j < 215 → j ≠ 0 → h11.1 j = h9.1 j := fun j hj j0 => (y10 j (Nat.lt_of_lt_of_le hj (by decide)) j0).trans (z10 j hj j0)
  have f9 : ∀ j, j < 215 → j ≠ 0 → h11.1 j = g9.1 j := fun j hj j0 => (y9 j hj j0).trans (k9 j j0)
  have y8 : ∀ j, j < 213 → j ≠ 0 → h11.1 j = h8.1 j := fun j hj j0 => (y9 j (Nat.lt_of_lt_of_le hj (by decide)) j0).trans (z9 j hj j0)
  have f8 : ∀ j, j < 213 → j ≠ 0 → h11.1 j = g8.1 j := fun j hj j0 => (y8 j hj j0).trans (k8 j j0)
  have y7 : ∀ j, j < 196 → j ≠ 0 → h11.1 j = h7.1 j := fun j hj j0 => (y8 j (Nat.lt_of_lt_of_le hj (by decide)) j0).trans (z8 j hj j0)
  have f7 : ∀ j, j < 196 → j ≠ 0 → h11.1 j = g7.1 j := fun j hj j0 => (y7 j hj j0).trans (k7 j j0)
  have y6 : ∀ j, j < 60 → j ≠ 0 → h11.1 j = h6.1 j := fun j hj j0 => (y7 j (Nat.lt_of_lt_of_le hj (by decide)) j0).trans (z7 j hj j0)
  have f6 : ∀ j, j < 60 → j ≠ 0 → h11.1 j = g6.1 j := fun j hj j0 => (y6 j hj j0).trans (k6 j j0)
  have y5 : ∀ j, j < 54 → j ≠ 0 → h11.1 j = h5.1 j := fun j hj j0 => (y6 j (Nat.lt_of_lt_of_le hj (by decide)) j0).trans (z6 j hj j0)
  have f5 : ∀ j, j < 54 → j ≠ 0 → h11.1 j = g5.1 j := fun j hj j0 => (y5 j hj j0).trans (k5 j j0)
  have y4 : ∀ j, j < 48 → j ≠ 0 → h11.1 j = h4.1 j := fun j hj j0 => (y5 j (Nat.lt_of_lt_of_le hj (by decide)) j0).trans (z5 j hj j0)
  have f4 : ∀ j, j < 48 → j ≠ 0 → h11.1 j = g4.1 j := fun j hj j0 => (y4 j hj j0).trans (k4 j j0)
  have y3 : ∀ j, j < 42 → j ≠ 0 → h11.1 j = h3.1 j := fun j hj j0 => (y4 j (Nat.lt_of_lt_of_le hj (by decide)) j0).trans (z4 j hj j0)
  have f3 : ∀ j, j < 42 → j ≠ 0 → h11.1 j = g3.1 j := fun j hj j0 => (y3 j hj j0).trans (k3 j j0)
  have y2 : ∀ j, j < 20 → j ≠ 0 → h11.1 j = h2.1 j := fun j hj j0 => (y3 j (Nat.lt_of_lt_of_le hj (by decide)) j0).trans (z3 j hj j0)
  have f2 : ∀ j, j < 20 → j ≠ 0 → h11.1 j = g2.1 j := fun j hj j0 => (y2 j hj j0).trans (k2 j j0)
  have y1 : ∀ j, j < 13 → j ≠ 0 → h11.1 j = h1.1 j := fun j hj j0 => (y2 j (Nat.lt_of_lt_of_le hj (by decide)) j0).trans (z2 j hj j0)
  have f1 : ∀ j, j < 13 → j ≠ 0 → h11.1 j = g1.1 j := fun j hj j0 => (y1 j hj j0).trans (k1 j j0)
  clear z1 z2 z3 z4 z5 z6 z7 z8 z9 z10 z11 y1 y2 y3 y4 y5 y6 y7 y8 y9 y10
  have sl' : SLO h11 st0 0 0 0 := sl.keep (fun i i1 i2 => f1 i (by omega) (by omega))
  have w14 : WV h11 14 36 0 := (show WV g2 14 36 0 from fr2).keep (f2 14 (by decide) (by decide)) (f2 15 (by decide) (by decide))
  have w16 : WV h11 16 36 1 := (show WV g2 16 36 1 from fr3).keep (f2 16 (by decide) (by decide)) (f2 17 (by decide) (by decide))
  have w18 : WV h11 18 36 0 := (show WV g2 18 36 0 from fr4).keep (f2 18 (by decide) (by decide)) (f2 19 (by decide) (by decide))
  have frx : FRX h11 := ⟨(f2 13 (by decide) (by decide)).trans fr1, w14.x, w16.x, w18.x⟩
  have w22 : WX h11 22 36 := ((show WV g3 22 36 0 from dk3 22 (by decide)).keep (f3 22 (by decide) (by decide)) (f3 23 (by decide) (by decide))).x
  have w24 : WX h11 24 36 := ((show WV g3 24 36 0 from dk3 24 (by decide)).keep (f3 24 (by decide) (by decide)) (f3 25 (by decide) (by decide))).x
  have w26 : WX h11 26 36 := ((show WV g3 26 36 0 from dk3 26 (by decide)).keep (f3 26 (by decide) (by decide)) (f3 27 (by decide) (by decide))).x
  have w28 : WX h11 28 36 := ((show WV g3 28 36 0 from dk3 28 (by decide)).keep (f3 28 (by decide) (by decide)) (f3 29 (by decide) (by decide))).x
  have w30 : WX h11 30 36 := ((show WV g3 30 36 0 from dk3 30 (by decide)).keep (f3 30 (by decide) (by decide)) (f3 31 (by decide) (by decide))).x
  have w32 : WX h11 32 36 := ((show WV g3 32 36 0 from dk3 32 (by decide)).keep (f3 32 (by decide) (by decide)) (f3 33 (by decide) (by decide))).x
  have w34 : WX h11 34 36 := ((show WV g3 34 36 0 from dk3 34 (by decide)).keep (f3 34 (by decide) (by decide)) (f3 35 (by decide) (by decide))).x
  have w36 : WX h11 36 36 := ((show WV g3 36 36 0 from dk3 36 (by decide)).keep (f3 36 (by decide) (by decide)) (f3 37 (by decide) (by decide))).x
  have w38 : WX h11 38 36 := ((show WV g3 38 36 0 from dk3 38 (by decide)).keep (f3 38 (by decide) (by decide)) (f3 39 (by decide) (by decide))).x
  have w40 : WX h11 40 36 := ((show WV g3 40 36 0 from dk3 40 (by decide)).keep (f3 40 (by decide) (by decide)) (f3 41 (by decide) (by decide))).x
  have dv : DV h11 := (f3 21 (by decide) (by decide)).trans dk2
  have dk : DK h11 := ⟨(f3 20 (by decide) (by decide)).trans dk1, dv, w22, w24, w32, w34, w36, w38, w40⟩
  have dd : DD h11 := ⟨dv, w22, w24, w26, w28⟩
  have gx42 : GX h11 42 16 15 5 := ⟨⟨0, 0, 0, 0, 0, (f4 42 (by decide) (by decide)).trans ga1⟩, ⟨_, _, (f4 45 (by decide) (by decide)).trans ga3, (f4 46 (by decide) (by decide)).trans ga4⟩, ((show WV g4 43 36 0 from ga2).keep (f4 43 (by decide) (by decide)) (f4 44 (by decide) (by decide))).x, _, (f4 47 (by decide) (by decide)).trans ga5⟩
  have gx48 : GX h11 48 14 16 5 := ⟨⟨0, 0, 0, 0, 0, (f5 48 (by decide) (by decide)).trans gb1⟩, ⟨_, _, (f5 51 (by decide) (by decide)).trans gb3, (f5 52 (by decide) (by decide)).trans gb4⟩, ((show WV g5 49 36 0 from gb2).keep (f5 49 (by decide) (by decide)) (f5 50 (by decide) (by decide))).x, _, (f5 53 (by decide) (by decide)).trans gb5⟩
  have gx54 : GX h11 54 8 10 5 := ⟨⟨0, 0, 0, 0, 0, (f6 54 (by decide) (by decide)).trans gc1⟩, ⟨_, _, (f6 57 (by decide) (by decide)).trans gc3, (f6 58 (by decide) (by decide)).trans gc4⟩, ((show WV g6 55 36 0 from gc2).keep (f6 55 (by decide) (by decide)) (f6 56 (by decide) (by decide))).x, _, (f6 59 (by decide) (by decide)).trans gc5⟩
  obtain ⟨-, cp2, ⟨gg, cp3, cp4⟩, cp5⟩ := co1
  have cx : CXo h11 := ⟨⟨0, (f7 60 (by decide) (by decide)).trans cp2⟩, ⟨gg, (f7 61 (by decide) (by decide)).trans cp3, cp4⟩, fun m hm => (cp5 m hm).x.keep (fun i i1 i2 => f7 i (by omega) (by omega)), co2.x.keep (fun i i1 i2 => f7 i (by omega) (by omega)), co3.x.keep (fun i i1 i2 => f7 i (by omega) (by omega)), ((show WV g7 78 36 0 from co4).keep (f7 78 (by decide) (by decide)) (f7 79 (by decide) (by decide))).x, ((show WV g7 80 36 0 from co5).keep (f7 80 (by decide) (by decide)) (f7 81 (by decide) (by decide))).x, ⟨_, (f7 82 (by decide) (by decide)).trans co6, fun j hj => absurd hj (Nat.not_lt_zero _)⟩, fun _ => false, _, (f7 83 (by decide) (by decide)).trans co7, fun j hj => absurd hj (Nat.not_lt_zero _)⟩
  have w197 : WX h11 197 36 := ((show WV g8 197 36 0 from fo2 197 (by decide)).keep (f8 197 (by decide) (by decide)) (f8 198 (by decide) (by decide))).x
  have w199 : WX h11 199 36 := ((show WV g8 199 36 0 from fo2 199 (by decide)).keep (f8 199 (by decide) (by decide)) (f8 200 (by decide) (by decide))).x
  have w201 : WX h11 201 36 := ((show WV g8 201 36 0 from fo2 201 (by decide)).keep (f8 201 (by decide) (by decide)) (f8 202 (by decide) (by decide))).x
  have w203 : WX h11 203 36 := ((show WV g8 203 36 0 from fo2 203 (by decide)).keep (f8 203 (by decide) (by decide)) (f8 204 (by decide) (by decide))).x
  have w205 : WX h11 205 36 := ((show WV g8 205 36 0 from fo2 205 (by decide)).keep (f8 205 (by decide) (by decide)) (f8 206 (by decide) (by decide))).x
  have gx207 : GX h11 207 3 3 24 := ⟨⟨0, 0, 0, 0, 0, (f8 207 (by decide) (by decide)).trans fo3⟩, ⟨_, _, (f8 210 (by decide) (by decide)).trans fo5, (f8 211 (by decide) (by decide)).trans fo6⟩, ((show WV g8 208 36 0 from fo4).keep (f8 208 (by decide) (by decide)) (f8 209 (by decide) (by decide))).x, _, (f8 212 (by decide) (by decide)).trans fo7⟩
  have fx : FX h11 := ⟨⟨(f8 196 (by decide) (by decide)).trans fo1, w199, w201, w203⟩, w197, w205, gx207⟩
  have w213 : WX h11 213 36 := (tp.keep (f9 213 (by decide) (by decide)) (f9 214 (by decide) (by decide))).x
  have no : NO h11 215 nt0 := ne.keep (fun i i1 i2 => f10 i (by omega) (by omega))
  have nx : NX h11 227 := (sp.keep (fun i i1 i2 => f11 i (by omega))).x
  have oo : h11.1 0 = .inr (10, [.ref 1, .ref 13, .ref 20, .ref 42, .ref 48, .ref 54, .ref 60, .ref 196, .ref 213, .ref 215, .ref 227, .int 0, .int 0, .int 0, .int 0, .int 0, .int 0]) := by rw [o11, hc, hc1, hc2, hc3, hc4, hc5, hc6, hc7, hc8, hc9, hc10]
  have sv : SV st0 := fun s hs => ⟨by show 0 < 4; decide, fun k hk => by cases hk⟩
  refine ⟨h11, ?_, hc11, by rw [tt]; exact Nat.add_le_add_left (by decide) _, 215, 227, false, false, false, false, false, false, ⟨oo, Or.inl ⟨rfl, rfl⟩⟩, ⟨0, 0, 0, sl'⟩, sv, ⟨frx, w14, w16, dd, dk, w30, w213, cx, fx⟩, ⟨gx42, gx48, gx54, (fun q => by cases q), (fun q => by cases q), (fun q => by cases q), (fun q => by cases q)⟩, no, nx, nt0_nv, (fun q => by cases q)⟩
  rw [E148 0 ha]
  simp only [S148, gFs, pFs, okq, bls, bo_true, eUp_at, eUp_eUp, eKls, cl_some, Option.toList_some, Option.toList_none, List.cons_append, List.nil_append, nw_eq, e1', og1]
  rw [← hh1]
  simp only [S148, gFs, pFs, okq, bls, bo_true, eUp_at, eUp_eUp, eKls, cl_some, Option.toList_some, Option.toList_none, List.cons_append, List.nil_append, nw_eq, e2', og2]
  rw [← hh2]
  simp only [S148, gFs, pFs, okq, bls, bo_true, eUp_at, eUp_eUp, eKls, cl_some, Option.toList_some, Option.toList_none, List.cons_append, List.nil_append, nw_eq, e3', og3]
  rw [← hh3]
  simp only [S148, gFs, pFs, okq, bls, bo_true, eUp_at, eUp_eUp, eKls, cl_some, Option.toList_some, Option.toList_none, List.cons_append, List.nil_append, nw_eq, e4', og4, qo4]
  rw [← hh4]
  simp only [S148, gFs, pFs, okq, bls, bo_true, eUp_at, eUp_eUp, eKls, cl_some, Option.toList_some, Option.toList_none, List.cons_append, List.nil_append, nw_eq, e5', og5, qo5]
  rw [← hh5]
  simp only [S148, gFs, pFs, okq, bls, bo_true, eUp_at, eUp_eUp, eKls, cl_some, Option.toList_some, Option.toList_none, List.cons_append, List.nil_append, nw_eq, e6', og6, qo6]
  rw [← hh6]
  simp only [S148, gFs, pFs, okq, bls, bo_true, eUp_at, eUp_eUp, eKls, cl_some, Option.toList_some, Option.toList_none, List.cons_append, List.nil_append, nw_eq, e7', og7]
  rw [← hh7]
  simp only [S148, gFs, pFs, okq, bls, bo_true, eUp_at, eUp_eUp, eKls, cl_some, Option.toList_some, Option.toList_none, List.cons_append, List.nil_append, nw_eq, e8', og8, qo8]
  rw [← hh8]
  simp only [S148, gFs, pFs, okq, bls, bo_true, eUp_at, eUp_eUp, eKls, cl_some, Option.toList_some, Option.toList_none, List.cons_append, List.nil_append, nw_eq, e9', og9]
  rw [← hh9]
  simp only [S148, gFs, pFs, okq, bls, bo_true, eUp_at, eUp_eUp, eKls, cl_some, Option.toList_some, Option.toList_none, List.cons_append, List.nil_append, nw_eq, e10', og10]
  rw [← hh10]
  simp only [S148, gFs, pFs, okq, bls, bo_true, eUp_at, eUp_eUp, eKls, cl_some, Option.toList_some, Option.toList_none, List.cons_append, List.nil_append, nw_eq, e11', og11]
  rw [← hh11]
