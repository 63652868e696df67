/-! THE CLASS: constructors of cone, net, slots -/
theorem d92 {h : eH} {a : Nat} (ha : h.1 a = .inr (0, [.null, .null, .null, .null, .null, .null, .null, .int 0])) (hc : h.2.1 = a + 1) : ∃ h', den 92 [.ref a] h = some (none, h') ∧ h'.2.1 = a + 136 ∧ h'.2.2 = h.2.2 + 754 ∧ (∀ j, j < a → h'.1 j = h.1 j) ∧ CP9 h' a 14 ∧ TR h' (a + 2) 36 (fun _ => 0) ∧ TR h' (a + 10) 36 (fun _ => 0) ∧ WV h' (a + 18) 36 0 ∧ WV h' (a + 20) 36 0 ∧ h'.1 (a + 22) = .inl (0, 14, .inl (fun _ => 0)) ∧ h'.1 (a + 23) = .inl (2, 14, .inl (fun _ => 0)) := by
  obtain ⟨q1, hq1⟩ : ∃ q, q = nw h (.inl (4, 14, .inr (.inr (.inr (.inr (fun _ => none)))))) 14 := ⟨_, rfl⟩
  have qo1 := (show q1.1 a = h.1 a by rw [hq1]; exact nw_ne (by omega)).trans ha
  have qa1 : q1.1 (a + 1) = .inl (4, 14, .inr (.inr (.inr (.inr (fun _ => none))))) := by rw [hq1, ← hc]; exact nw_at ..
  obtain ⟨h1, hh1⟩ : ∃ h1, h1 = eUp q1 a (.inr (0, [.ref h.2.1, .null, .null, .null, .null, .null, .null, .int 0])) := ⟨_, rfl⟩
  have o1 : h1.1 a = .inr (0, [.ref h.2.1, .null, .null, .null, .null, .null, .null, .int 0]) := by rw [hh1]; exact eUp_at ..
  have c1 : h1.2.1 = a + 2 := by rw [hh1, hq1]; show h.2.1 + 1 = _; omega
  have s1 : h1.2.2 = h.2.2 + 14 := by rw [hh1, hq1]; rfl
  have a1 : h1.1 (a + 1) = .inl (4, 14, .inr (.inr (.inr (.inr (fun _ => none))))) := by rw [hh1, eUp_ne (by omega)]; exact qa1
  have n1 : ∀ j, j < a → h1.1 j = h.1 j := fun j hj => by rw [hh1, eUp_ne (by omega), hq1]; exact nw_ne (by omega)
  obtain ⟨q2, e2, qc2, qs2, qn2, t2⟩ := mkT c1
  have qo2 := (qn2 a (by omega)).trans o1
  obtain ⟨h2, hh2⟩ : ∃ h2, h2 = eUp q2 a (.inr (0, [.ref h.2.1, .ref h1.2.1, .null, .null, .null, .null, .null, .int 0])) := ⟨_, rfl⟩
  have o2 : h2.1 a = .inr (0, [.ref h.2.1, .ref h1.2.1, .null, .null, .null, .null, .null, .int 0]) := by rw [hh2]; exact eUp_at ..
  have c2 : h2.2.1 = a + 10 := by rw [hh2]; exact qc2
  have s2 : h2.2.2 = h1.2.2 + 121 := by rw [hh2]; exact qs2
  have k2 : ∀ j, j ≠ a → h2.1 j = q2.1 j := fun j hj => by rw [hh2]; exact eUp_ne hj
  have t2' : TR h2 (a + 2) 36 (fun _ => 0) := t2.keep (fun j j1 j2 => k2 j (by omega))
  have n2 : ∀ j, j < a + 2 → j ≠ a → h2.1 j = h1.1 j := fun j j1 j2 => (k2 j j2).trans (qn2 j j1)
  obtain ⟨q3, e3, qc3, qs3, qn3, t3⟩ := mkT c2
  have qo3 := (qn3 a (by omega)).trans o2
  obtain ⟨h3, hh3⟩ : ∃ h3, h3 = eUp q3 a (.inr (0, [.ref h.2.1, .ref h1.2.1, .ref h2.2.1, .null, .null, .null, .null, .int 0])) := ⟨_, rfl⟩
  have o3 : h3.1 a = .inr (0, [.ref h.2.1, .ref h1.2.1, .ref h2.2.1, .null, .null, .null, .null, .int 0]) := by rw [hh3]; exact eUp_at ..
  have c3 : h3.2.1 = a + 18 := by rw [hh3]; exact qc3
  have s3 : h3.2.2 = h2.2.2 + 121 := by rw [hh3]; exact qs3
  have k3 : ∀ j, j ≠ a → h3.1 j = q3.1 j := fun j hj => by rw [hh3]; exact eUp_ne hj
  have t3' : TR h3 (a + 10) 36 (fun _ => 0) := t3.keep (fun j j1 j2 => k3 j (by omega))
  have n3 : ∀ j, j < a + 10 → j ≠ a → h3.1 j = h2.1 j := fun j j1 j2 => (k3 j j2).trans (qn3 j j1)
  have u3 : TR h3 (a + 2) 36 (fun _ => 0) := t2'.keep (fun j j1 j2 => n3 j (by omega) (by omega))
  have a3 : h3.1 (a + 1) = .inl (4, 14, .inr (.inr (.inr (.inr (fun _ => none))))) := (n3 _ (by omega) (by omega)).trans ((n2 _ (by omega) (by omega)).trans a1)
  have m3 : ∀ j, j < a → h3.1 j = h.1 j := fun j hj => (n3 j (by omega) (by omega)).trans ((n2 j (by omega) (by omega)).trans (n1 j hj))
  have hs3 : h3.2.2 = h.2.2 + 256 := by omega
  clear t2 t3 t2' qc2 qs2 qn2 qc3 qs3 qn3 n1 n2 n3 k2 k3 s1 s2 s3 a1 qa1
  obtain ⟨q4, e4, qc4, qs4, qn4, w4⟩ := mkW (N := 36) c3 (by decide) (by decide)
  have qo4 := (qn4 a (by omega)).trans o3
  obtain ⟨h4, hh4⟩ : ∃ h4, h4 = eUp q4 a (.inr (0, [.ref h.2.1, .ref h1.2.1, .ref h2.2.1, .ref h3.2.1, .null, .null, .null, .int 0])) := ⟨_, rfl⟩
  have o4 : h4.1 a = .inr (0, [.ref h.2.1, .ref h1.2.1, .ref h2.2.1, .ref h3.2.1, .null, .null, .null, .int 0]) := by rw [hh4]; exact eUp_at ..
  have c4 : h4.2.1 = a + 20 := by rw [hh4]; exact qc4
  have s4 : h4.2.2 = h3.2.2 + 39 := by rw [hh4]; exact qs4
  have k4 : ∀ j, j ≠ a → h4.1 j = q4.1 j := fun j hj => by rw [hh4]; exact eUp_ne hj
  have w4' : WV h4 (a + 18) 36 0 := w4.keep (k4 _ (by omega)) (k4 _ (by omega))
  have n4 : ∀ j, j < a + 18 → j ≠ a → h4.1 j = h3.1 j := fun j j1 j2 => (k4 j j2).trans (qn4 j j1)
  obtain ⟨q5, e5, qc5, qs5, qn5, w5⟩ := mkW (N := 36) c4 (by decide) (by decide)
  have qo5 := (qn5 a (by omega)).trans o4
  obtain ⟨h5, hh5⟩ : ∃ h5, h5 = eUp q5 a (.inr (0, [.ref h.2.1, .ref h1.2.1, .ref h2.2.1, .ref h3.2.1, .ref h4.2.1, .null, .null, .int 0])) := ⟨_, rfl⟩
  have o5 : h5.1 a = .inr (0, [.ref h.2.1, .ref h1.2.1, .ref h2.2.1, .ref h3.2.1, .ref h4.2.1, .null, .null, .int 0]) := by rw [hh5]; exact eUp_at ..
  have c5 : h5.2.1 = a + 22 := by rw [hh5]; exact qc5
  have s5 : h5.2.2 = h4.2.2 + 39 := by rw [hh5]; exact qs5
  have k5 : ∀ j, j ≠ a → h5.1 j = q5.1 j := fun j hj => by rw [hh5]; exact eUp_ne hj
  have w5' : WV h5 (a + 20) 36 0 := w5.keep (k5 _ (by omega)) (k5 _ (by omega))
  have n5 : ∀ j, j < a + 20 → j ≠ a → h5.1 j = h4.1 j := fun j j1 j2 => (k5 j j2).trans (qn5 j j1)
  have n35 : ∀ j, j < a + 18 → j ≠ a → h5.1 j = h3.1 j := fun j j1 j2 => (n5 j (by omega) j2).trans (n4 j j1 j2)
  have w4'' := w4'.keep (n5 _ (by omega) (by omega)) (n5 _ (by omega) (by omega))
  clear qc4 qs4 qn4 qc5 qs5 qn5 n4 n5 k4 k5 w4 w5 w4'
  obtain ⟨q6, hq6⟩ : ∃ q, q = nw h5 (.inl (0, 14, .inl (fun _ => 0))) 14 := ⟨_, rfl⟩
  have qo6 := (show q6.1 a = h5.1 a by rw [hq6]; exact nw_ne (by omega)).trans o5
  obtain ⟨h6, hh6⟩ : ∃ h6, h6 = eUp q6 a (.inr (0, [.ref h.2.1, .ref h1.2.1, .ref h2.2.1, .ref h3.2.1, .ref h4.2.1, .ref h5.2.1, .null, .int 0])) := ⟨_, rfl⟩
  have o6 : h6.1 a = .inr (0, [.ref h.2.1, .ref h1.2.1, .ref h2.2.1, .ref h3.2.1, .ref h4.2.1, .ref h5.2.1, .null, .int 0]) := by rw [hh6]; exact eUp_at ..
  have c6 : h6.2.1 = a + 23 := by rw [hh6, hq6]; show h5.2.1 + 1 = _; omega
  have s6 : h6.2.2 = h5.2.2 + 14 := by rw [hh6, hq6]; rfl
  have a6 : h6.1 (a + 22) = .inl (0, 14, .inl (fun _ => 0)) := by rw [hh6, eUp_ne (by omega), hq6, ← c5]; exact nw_at ..
  have n6 : ∀ j, j < a + 22 → j ≠ a → h6.1 j = h5.1 j := fun j j1 j2 => by rw [hh6, eUp_ne j2, hq6]; exact nw_ne (by omega)
  obtain ⟨q7, hq7⟩ : ∃ q, q = nw h6 (.inl (2, 14, .inl (fun _ => 0))) 14 := ⟨_, rfl⟩
  have qo7 := (show q7.1 a = h6.1 a by rw [hq7]; exact nw_ne (by omega)).trans o6
  obtain ⟨h7, hh7⟩ : ∃ h7, h7 = eUp q7 a (.inr (0, [.ref h.2.1, .ref h1.2.1, .ref h2.2.1, .ref h3.2.1, .ref h4.2.1, .ref h5.2.1, .ref h6.2.1, .int 0])) := ⟨_, rfl⟩
  have o7 : h7.1 a = .inr (0, [.ref (a + 1), .ref (a + 2), .ref (a + 10), .ref (a + 18), .ref (a + 20), .ref (a + 22), .ref (a + 23), .int 0]) := by rw [hh7, eUp_at, hc, c1, c2, c3, c4, c5, c6]
  have c7 : h7.2.1 = a + 24 := by rw [hh7, hq7]; show h6.2.1 + 1 = _; omega
  have s7 : h7.2.2 = h6.2.2 + 14 := by rw [hh7, hq7]; rfl
  have a7 : h7.1 (a + 23) = .inl (2, 14, .inl (fun _ => 0)) := by rw [hh7, eUp_ne (by omega), hq7, ← c6]; exact nw_at ..
  have n7 : ∀ j, j < a + 23 → j ≠ a → h7.1 j = h6.1 j := fun j j1 j2 => by rw [hh7, eUp_ne j2, hq7]; exact nw_ne (by omega)
  have n57 : ∀ j, j < a + 22 → j ≠ a → h7.1 j = h5.1 j := fun j j1 j2 => (n7 j (by omega) j2).trans (n6 j j1 j2)
  have cp : CP9 h7 a 0 := ⟨c7, o7, ⟨_, (n57 _ (by omega) (by omega)).trans ((n35 _ (by omega) (by omega)).trans a3), fun j hj => absurd hj (Nat.not_lt_zero _)⟩, fun j hj => absurd hj (Nat.not_lt_zero _)⟩
  obtain ⟨h8, e8, cp8, s8, n8⟩ := d92_loop 14 0 h7 (by omega) cp
  have n78 : ∀ j, j < a + 18 → j ≠ a → j ≠ a + 1 → h8.1 j = h3.1 j := fun j j1 j2 j3 => (n8 j (by omega) j3).trans ((n57 j (by omega) j2).trans (n35 j j1 j2))
  refine ⟨h8, ?_, cp8.1, by omega, fun j hj => (n78 j (by omega) (by omega) (by omega)).trans (m3 j hj), cp8, u3.keep (fun j j1 j2 => n78 j (by omega) (by omega) (by omega)), t3'.keep (fun j j1 j2 => n78 j (by omega) (by omega) (by omega)), w4''.keep ((n8 _ (by omega) (by omega)).trans (n57 _ (by omega) (by omega))) ((n8 _ (by omega) (by omega)).trans (n57 _ (by omega) (by omega))), w5'.keep ((n8 _ (by omega) (by omega)).trans (n57 _ (by omega) (by omega))) ((n8 _ (by omega) (by omega)).trans (n57 _ (by omega) (by omega))), (n8 _ (by omega) (by omega)).trans ((n7 _ (by omega) (by omega)).trans a6), (n8 _ (by omega) (by omega)).trans a7⟩
  have cl14 : (nI 14).toNatClampNeg = 14 := by decide
  rw [E92 a ha]
  simp only [S92, gFs, pFs, okq, bls, bo_true, eUp_at, eUp_eUp, eKls, cl_some, Option.toList_some, Option.toList_none, List.cons_append, List.nil_append, nw_eq]
  rw [if_neg (nIneg (by decide)), cl14, ← hq1]
  simp only [S92, gFs, pFs, okq, bls, bo_true, eUp_at, eUp_eUp, eKls, cl_some, Option.toList_some, Option.toList_none, List.cons_append, List.nil_append, qo1]
  rw [← hh1]
  simp only [S92, gFs, pFs, okq, bls, bo_true, eUp_at, eUp_eUp, eKls, cl_some, Option.toList_some, Option.toList_none, List.cons_append, List.nil_append, nw_eq, e2, qo2]
  rw [← hh2]
  simp only [S92, gFs, pFs, okq, bls, bo_true, eUp_at, eUp_eUp, eKls, cl_some, Option.toList_some, Option.toList_none, List.cons_append, List.nil_append, nw_eq, e3, qo3]
  rw [← hh3]
  simp only [S92, gFs, pFs, okq, bls, bo_true, eUp_at, eUp_eUp, eKls, cl_some, Option.toList_some, Option.toList_none, List.cons_append, List.nil_append, nw_eq, e4, qo4]
  rw [← hh4]
  simp only [S92, gFs, pFs, okq, bls, bo_true, eUp_at, eUp_eUp, eKls, cl_some, Option.toList_some, Option.toList_none, List.cons_append, List.nil_append, nw_eq, e5, qo5]
  rw [← hh5, if_neg (nIneg (by decide)), cl14, ← hq6]
  simp only [S92, gFs, pFs, okq, bls, bo_true, eUp_at, eUp_eUp, eKls, cl_some, Option.toList_some, Option.toList_none, List.cons_append, List.nil_append, qo6]
  rw [← hh6, if_neg (show ¬ (nI 14 < 0 ∨ 1000000 < 14) by decide), ← hq7]
  simp only [S92, gFs, pFs, okq, bls, bo_true, eUp_at, eUp_eUp, eKls, cl_some, Option.toList_some, Option.toList_none, List.cons_append, List.nil_append, qo7]
  rw [← hh7]
  exact e8
