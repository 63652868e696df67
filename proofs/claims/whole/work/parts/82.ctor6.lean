/-! THE CLASS: constructors of slots and of itself -/
def mwL (h : eH) (n k : Nat) : eH := (fun i => if i = h.2.1 then .inl (6, n, .inr (.inr (.inr (.inr (fun j => if j < n then some (h.2.1 + 1 + j) else none))))) else if h.2.1 < i ∧ i < h.2.1 + 1 + n then .inl (1, k, .inr (.inl (fun _ => 0))) else h.1 i, h.2.1 + 1 + n, h.2.2 + n + n * k)
theorem mwL_eq (h : eH) (n k : Nat) : ((fun i => if i = h.2.1 then .inl (6, n, .inr (.inr (.inr (.inr (fun j => if j < n then some (h.2.1 + 1 + j) else none))))) else if h.2.1 < i ∧ i < h.2.1 + 1 + n then .inl (1, k, .inr (.inl (fun _ => 0))) else h.1 i, h.2.1 + 1 + n, h.2.2 + n + n * k) : eH) = mwL h n k := rfl
theorem d141 {h : eH} (ha : h.1 1 = .inr (7, [.null, .null, .null, .int 0, .int 0, .int 0])) (hc : h.2.1 = 2) : ∃ h', den 141 [.ref 1] h = some (none, h') ∧ h'.2.1 = 13 ∧ h'.2.2 = h.2.2 + 504 ∧ (∀ j, j < 1 → h'.1 j = h.1 j) ∧ SLO h' st0 0 0 0 := by
  have c8 : (nI 8).toNatClampNeg = 8 := by decide
  have c60 : (nI 60).toNatClampNeg = 60 := by decide
  obtain ⟨q1, hq1⟩ : ∃ q, q = mwL h 8 60 := ⟨_, rfl⟩
  have q2 : q1.1 2 = .inl (6, 8, .inr (.inr (.inr (.inr (fun j => if j < 8 then some (2 + 1 + j) else none))))) := by
    rw [hq1]
    show (if 2 = h.2.1 then _ else _) = _
    rw [if_pos hc.symm, hc]
  have q3 : ∀ s, s < 8 → q1.1 (3 + s) = .inl (1, 60, .inr (.inl (fun _ => 0))) := fun s hs => by
    rw [hq1]
    show (if 3 + s = h.2.1 then _ else if h.2.1 < 3 + s ∧ 3 + s < h.2.1 + 1 + 8 then _ else _) = _
    rw [if_neg (by omega), if_pos (by omega)]
  have q0 : ∀ j, j < 2 → q1.1 j = h.1 j := fun j hj => by
    rw [hq1]
    show (if j = h.2.1 then _ else if h.2.1 < j ∧ j < h.2.1 + 1 + 8 then _ else _) = _
    rw [if_neg (by omega), if_neg (by omega)]
  have qo1 := (q0 1 (by decide)).trans ha
  obtain ⟨h1, hh1⟩ : ∃ h1, h1 = eUp q1 1 (.inr (7, [.ref h.2.1, .null, .null, .int 0, .int 0, .int 0])) := ⟨_, rfl⟩
  have o1 : h1.1 1 = .inr (7, [.ref h.2.1, .null, .null, .int 0, .int 0, .int 0]) := by rw [hh1]; exact eUp_at ..
  have k1 : ∀ j, j ≠ 1 → h1.1 j = q1.1 j := fun j hj => by rw [hh1]; exact eUp_ne hj
  have hc1 : h1.2.1 = 11 := by rw [hh1, hq1]; show h.2.1 + 1 + 8 = _; omega
  have s1 : h1.2.2 = h.2.2 + 488 := by rw [hh1, hq1]; rfl
  obtain ⟨q4, hq4⟩ : ∃ q, q = nw h1 (.inl (0, 8, .inl (fun _ => 0))) 8 := ⟨_, rfl⟩
  have qo4 := (show q4.1 1 = h1.1 1 by rw [hq4]; exact nw_ne (by omega)).trans o1
  obtain ⟨h2, hh2⟩ : ∃ h2, h2 = eUp q4 1 (.inr (7, [.ref h.2.1, .ref h1.2.1, .null, .int 0, .int 0, .int 0])) := ⟨_, rfl⟩
  have o2 : h2.1 1 = .inr (7, [.ref h.2.1, .ref h1.2.1, .null, .int 0, .int 0, .int 0]) := by rw [hh2]; exact eUp_at ..
  have k2 : ∀ j, j ≠ 1 → j ≠ 11 → h2.1 j = h1.1 j := fun j j1 j2 => by rw [hh2, eUp_ne j1, hq4]; exact nw_ne (by omega)
  have a2 : h2.1 11 = .inl (0, 8, .inl (fun _ => 0)) := by rw [hh2, eUp_ne (by decide), hq4, ← hc1]; exact nw_at ..
  have hc2 : h2.2.1 = 12 := by rw [hh2, hq4]; show h1.2.1 + 1 = _; omega
  have s2 : h2.2.2 = h.2.2 + 496 := by rw [hh2, hq4]; show h1.2.2 + 8 = _; omega
  obtain ⟨q5, hq5⟩ : ∃ q, q = nw h2 (.inl (0, 8, .inl (fun _ => 0))) 8 := ⟨_, rfl⟩
  have qo5 := (show q5.1 1 = h2.1 1 by rw [hq5]; exact nw_ne (by omega)).trans o2
  obtain ⟨h3, hh3⟩ : ∃ h3, h3 = eUp q5 1 (.inr (7, [.ref h.2.1, .ref h1.2.1, .ref h2.2.1, .int 0, .int 0, .int 0])) := ⟨_, rfl⟩
  have o3 : h3.1 1 = .inr (7, [.ref 2, .ref 11, .ref 12, .int 0, .int 0, .int 0]) := by rw [hh3, eUp_at, hc, hc1, hc2]
  have k3 : ∀ j, j ≠ 1 → j ≠ 12 → h3.1 j = h2.1 j := fun j j1 j2 => by rw [hh3, eUp_ne j1, hq5]; exact nw_ne (by omega)
  have a3 : h3.1 12 = .inl (0, 8, .inl (fun _ => 0)) := by rw [hh3, eUp_ne (by decide), hq5, ← hc2]; exact nw_at ..
  have hc3 : h3.2.1 = 13 := by rw [hh3, hq5]; show h2.2.1 + 1 = _; omega
  have s3 : h3.2.2 = h.2.2 + 504 := by rw [hh3, hq5]; show h2.2.2 + 8 = _; omega
  have e4 := d1 (v := -1) a3 (by decide)
  obtain ⟨h4, hh4⟩ : ∃ h4, h4 = eUp h3 12 (.inl (0, 8, .inl (fl (fun _ => 0) (-1) 0 8))) := ⟨_, rfl⟩
  have k4 : ∀ j, j ≠ 12 → h4.1 j = h3.1 j := fun j hj => by rw [hh4]; exact eUp_ne hj
  rw [← hh4] at e4
  have nn : ∀ j, j ≠ 1 → j ≠ 11 → j ≠ 12 → h4.1 j = q1.1 j := fun j j1 j2 j3 => (k4 j j3).trans ((k3 j j1 j3).trans ((k2 j j1 j2).trans (k1 j j1)))
  refine ⟨h4, ?_, by rw [hh4]; exact hc3, by rw [hh4]; exact s3, fun j hj => (nn j (by omega) (by omega) (by omega)).trans (q0 j (by omega)), (k4 1 (by decide)).trans o3, ⟨_, (nn 2 (by decide) (by decide) (by decide)).trans q2, fun s hs => ?_⟩, fun s hs => ⟨fun _ => 0, (nn _ (by omega) (by omega) (by omega)).trans (q3 s hs), fun i hi => rfl⟩, ⟨fun _ => 0, (k4 _ (by decide)).trans ((k3 _ (by decide) (by decide)).trans a2), fun j hj => rfl⟩, ⟨_, by rw [hh4]; exact eUp_at .., fun j hj => ?_⟩⟩
  · rw [E141 1 ha]
    simp only [S141, gFs, pFs, okq, bls, bo_true, eUp_at, eUp_eUp, eKls, cl_some, Option.toList_some, Option.toList_none, List.cons_append, List.nil_append, c8, c60, nw_eq, mwL_eq]
    rw [if_neg (show ¬ (nI 8 < 0 ∨ nI 60 < 0 ∨ 1000 < 8 ∨ 1000 < 60) by decide), ← hq1]
    simp only [S141, gFs, pFs, okq, bls, bo_true, eUp_at, eUp_eUp, eKls, cl_some, Option.toList_some, Option.toList_none, List.cons_append, List.nil_append, qo1]
    rw [← hh1, if_neg (show ¬ (nI 8 < 0 ∨ 1000000 < 8) by decide), ← hq4]
    simp only [S141, gFs, pFs, okq, bls, bo_true, eUp_at, eUp_eUp, eKls, cl_some, Option.toList_some, Option.toList_none, List.cons_append, List.nil_append, qo4]
    rw [← hh2, if_neg (show ¬ (nI 8 < 0 ∨ 1000000 < 8) by decide), ← hq5]
    simp only [S141, gFs, pFs, okq, bls, bo_true, eUp_at, eUp_eUp, eKls, cl_some, Option.toList_some, Option.toList_none, List.cons_append, List.nil_append, qo5]
    rw [← hh3, hc2, e4]
    simp only [S141, gFs, pFs, okq, bls, bo_true, eUp_at, eUp_eUp, eKls, cl_some, Option.toList_some, Option.toList_none, List.cons_append, List.nil_append]
  · rw [if_pos hs]
  · unfold fl
    rw [if_pos ⟨Nat.zero_le _, hj⟩]
    rfl
theorem nt0_nv : NV nt0 := ⟨⟨by decide, by decide, by decide⟩, fun a j _ => ⟨by show (-20 : Int) ≤ 0; decide, by show (0 : Int) ≤ 20; decide⟩, fun a j _ => ⟨by show (-1000 : Int) ≤ 0; decide, by show (0 : Int) ≤ 1000; decide⟩, fun m hm => absurd hm (Nat.not_lt_zero _)⟩

