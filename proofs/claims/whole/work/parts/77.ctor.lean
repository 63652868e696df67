/-! THE CLASS: constructors -/
def nw (h : eH) (e : va_E) (k : Nat) : eH := (va_up h.1 h.2.1 e, h.2.1 + 1, h.2.2 + k)
theorem nw_eq (h : eH) (e : va_E) (k : Nat) : ((va_up h.1 h.2.1 e, h.2.1 + 1, h.2.2 + k) : eH) = nw h e k := rfl
theorem nw_at (h : eH) (e : va_E) (k : Nat) : (nw h e k).1 h.2.1 = e := by
  show va_up h.1 h.2.1 e h.2.1 = e
  simp [va_up]
theorem nw_ne {h : eH} {e : va_E} {k i : Nat} (hi : i ≠ h.2.1) : (nw h e k).1 i = h.1 i := by
  show va_up h.1 h.2.1 e i = h.1 i
  simp [va_up, hi]
theorem nIneg {n : Nat} (hn : n < 1000000) : ¬ (nI n < 0 ∨ 1000000 < (nI n).toNatClampNeg) := by
  rw [nI_clamp (by omega)]
  rintro (e | e)
  · exact nI_pos (by omega) e
  · omega
theorem mkW {h : eH} {c N : Nat} (hc : h.2.1 = c) (h1 : 1 ≤ N) (h2 : N ≤ 100) : ∃ h', den 90 [.ref h.2.1, .int (nI N)] (nw h (.inr (9, [.null, .int 0, .int 0])) 3) = some (none, h') ∧ h'.2.1 = c + 2 ∧ h'.2.2 = h.2.2 + 3 + N ∧ (∀ i, i < c → h'.1 i = h.1 i) ∧ WV h' c N 0 := by
  subst hc
  have a0 := nw_at h (.inr (9, [.null, .int 0, .int 0])) 3
  obtain ⟨g, hg⟩ : ∃ g, g = nw h (.inr (9, [.null, .int 0, .int 0])) 3 := ⟨_, rfl⟩
  rw [← hg] at a0 ⊢
  have gc : g.2.1 = h.2.1 + 1 := by rw [hg]; rfl
  have gs : g.2.2 = h.2.2 + 3 := by rw [hg]; rfl
  have gk : ∀ i, i ≠ h.2.1 → g.1 i = h.1 i := fun i hi => by rw [hg]; exact nw_ne hi
  have mx : (if nI 1 < nI N then nI N else nI 1) = nI N := by
    by_cases q : N = 1
    · rw [q]; decide
    · rw [if_pos (nI_lt (by omega) (by omega))]
  obtain ⟨k, hk⟩ : ∃ k, k = nw g (.inl (0, N, .inl (fun _ => 0))) N := ⟨_, rfl⟩
  have k0 : k.1 h.2.1 = .inr (9, [.null, .int 0, .int 0]) := by rw [hk, nw_ne (by omega)]; exact a0
  have k1 : k.1 (h.2.1 + 1) = .inl (0, N, .inl (fun _ => 0)) := by rw [hk, ← gc]; exact nw_at ..
  refine ⟨eUp k h.2.1 (.inr (9, [.ref (h.2.1 + 1), .int (nI 0), .int 0])), ?_, by rw [hk]; show g.2.1 + 1 = _; omega, by rw [hk]; show g.2.2 + N = _; omega, fun i hi => by rw [eUp_ne (by omega), hk, nw_ne (by omega)]; exact gk i (by omega), fun _ => 0, ⟨?_, ?_⟩, ?_, ?_⟩
  · rw [E90 _ _ a0]
    simp only [S90, gFs, pFs, okq, bls, bo_true, eUp_at, eUp_eUp, eKls, cl_some, Option.toList_some, Option.toList_none, List.cons_append, List.nil_append, d8, mx]
    rw [if_neg (nIneg (by omega)), nI_clamp (by omega)]
    simp only [nw_eq]
    rw [← hk, show va_up g.1 g.2.1 (.inl (0, N, .inl (fun _ => 0))) h.2.1 = .inr (9, [.null, .int 0, .int 0]) from by rw [hk] at k0; exact k0]
    simp only [S90, gFs, pFs, okq, bls, bo_true, eUp_at, eUp_eUp, eKls, cl_some, Option.toList_some, Option.toList_none, List.cons_append, List.nil_append]
    rw [gc]
    rfl
  · rw [eUp_at, Int.natAbs_zero, nd_0]
    rfl
  · rw [eUp_ne (by omega)]
    exact k1
  · rw [Int.natAbs_zero, nd_0]; exact Nat.zero_le _
  · intro i hi
    rw [Int.natAbs_zero, nd_0] at hi
    exact absurd hi (Nat.not_lt_zero _)

theorem d142 {h : eH} {a : Nat} (ha : h.1 a = .inr (4, [.null, .null, .null])) (hc : h.2.1 = a + 1) : ∃ h', den 142 [.ref a] h = some (none, h') ∧ h'.2.1 = a + 7 ∧ h'.2.2 = h.2.2 + 117 ∧ (∀ j, j < a → h'.1 j = h.1 j) ∧ h'.1 a = .inr (4, [.ref (a + 1), .ref (a + 3), .ref (a + 5)]) ∧ WV h' (a + 1) 36 0 ∧ WV h' (a + 3) 36 1 ∧ WV h' (a + 5) 36 0 := by
  obtain ⟨g1, e1, c1, s1, n1, w1⟩ := mkW (N := 36) (c := a + 1) hc (by decide) (by decide)
  have og1 := (n1 a (by omega)).trans ha
  obtain ⟨h1, hh1⟩ : ∃ h1, h1 = eUp g1 a (.inr (4, [.ref h.2.1, .null, .null])) := ⟨_, rfl⟩
  have hc1 : h1.2.1 = a + 3 := by rw [hh1]; exact c1
  have hs1 : h1.2.2 = h.2.2 + 39 := by rw [hh1]; show g1.2.2 = _; omega
  have o1 : h1.1 a = .inr (4, [.ref h.2.1, .null, .null]) := by rw [hh1]; exact eUp_at ..
  have k1 : ∀ j, j < a + 1 → j ≠ a → h1.1 j = h.1 j := fun j j1 j2 => by rw [hh1, eUp_ne j2]; exact n1 j (by omega)
  have v1 : WV h1 (a + 1) 36 0 := w1.keep (by rw [hh1]; exact eUp_ne (by omega)) (by rw [hh1]; exact eUp_ne (by omega))
  obtain ⟨g2, e2, c2, s2, n2, w2⟩ := mkW (N := 36) (c := a + 3) hc1 (by decide) (by decide)
  have og2 := (n2 a (by omega)).trans o1
  obtain ⟨h2, hh2⟩ : ∃ h2, h2 = eUp g2 a (.inr (4, [.ref h.2.1, .ref h1.2.1, .null])) := ⟨_, rfl⟩
  have hc2 : h2.2.1 = a + 5 := by rw [hh2]; exact c2
  have hs2 : h2.2.2 = h1.2.2 + 39 := by rw [hh2]; show g2.2.2 = _; omega
  have o2 : h2.1 a = .inr (4, [.ref h.2.1, .ref h1.2.1, .null]) := by rw [hh2]; exact eUp_at ..
  have k2 : ∀ j, j < a + 3 → j ≠ a → h2.1 j = h1.1 j := fun j j1 j2 => by rw [hh2, eUp_ne j2]; exact n2 j (by omega)
  have v2 : WV h2 (a + 3) 36 0 := w2.keep (by rw [hh2]; exact eUp_ne (by omega)) (by rw [hh2]; exact eUp_ne (by omega))
  obtain ⟨g3, e3, c3, s3, n3, w3⟩ := mkW (N := 36) (c := a + 5) hc2 (by decide) (by decide)
  have og3 := (n3 a (by omega)).trans o2
  obtain ⟨h3, hh3⟩ : ∃ h3, h3 = eUp g3 a (.inr (4, [.ref h.2.1, .ref h1.2.1, .ref h2.2.1])) := ⟨_, rfl⟩
  have hc3 : h3.2.1 = a + 7 := by rw [hh3]; exact c3
  have hs3 : h3.2.2 = h2.2.2 + 39 := by rw [hh3]; show g3.2.2 = _; omega
  have o3 : h3.1 a = .inr (4, [.ref h.2.1, .ref h1.2.1, .ref h2.2.1]) := by rw [hh3]; exact eUp_at ..
  have k3 : ∀ j, j < a + 5 → j ≠ a → h3.1 j = h2.1 j := fun j j1 j2 => by rw [hh3, eUp_ne j2]; exact n3 j (by omega)
  have v3 : WV h3 (a + 5) 36 0 := w3.keep (by rw [hh3]; exact eUp_ne (by omega)) (by rw [hh3]; exact eUp_ne (by omega))
  obtain ⟨ff, rr, -, -⟩ := (v2.keep (k3 _ (by omega) (by omega)) (k3 _ (by omega) (by omega)))
  obtain ⟨h4, e4, f4, w4⟩ := d112 rr (by decide) (by decide) (nI 1) (by decide)
  rw [hc, hc1, hc2] at o3
  refine ⟨h4, ?_, by rw [f4.1]; exact hc3, by rw [f4.1]; omega, fun j hj => (f4.2 j (by omega) (by omega)).trans ((k3 j (by omega) (by omega)).trans ((k2 j (by omega) (by omega)).trans (k1 j (by omega) (by omega)))), (f4.2 a (by omega) (by omega)).trans o3, ((v1.keep (k2 _ (by omega) (by omega)) (k2 _ (by omega) (by omega))).keep (k3 _ (by omega) (by omega)) (k3 _ (by omega) (by omega))).kept f4 (by omega) (by omega) (by omega), w4, v3.kept f4 (by omega) (by omega) (by omega)⟩
  rw [E142 a ha]
  simp only [S142, gFs, pFs, okq, bls, bo_true, eUp_at, eUp_eUp, eKls, cl_some, Option.toList_some, Option.toList_none, List.cons_append, List.nil_append, nw_eq, e1, og1]
  rw [← hh1]
  simp only [S142, gFs, pFs, okq, bls, bo_true, eUp_at, eUp_eUp, eKls, cl_some, Option.toList_some, Option.toList_none, List.cons_append, List.nil_append, nw_eq, e2, og2]
  rw [← hh2]
  simp only [S142, gFs, pFs, okq, bls, bo_true, eUp_at, eUp_eUp, eKls, cl_some, Option.toList_some, Option.toList_none, List.cons_append, List.nil_append, nw_eq, e3, og3]
  rw [← hh3]
  rw [hc1, e4]
  simp only [S142, gFs, pFs, okq, bls, bo_true, eUp_at, eUp_eUp, eKls, cl_some, Option.toList_some, Option.toList_none, List.cons_append, List.nil_append]
theorem d143 {h : eH} {a : Nat} (ha : h.1 a = .inr (2, [.null, .null, .null, .null])) (hc : h.2.1 = a + 1) : ∃ h', den 143 [.ref a] h = some (none, h') ∧ h'.2.1 = a + 9 ∧ h'.2.2 = h.2.2 + 156 ∧ (∀ j, j < a → h'.1 j = h.1 j) ∧ h'.1 a = .inr (2, [.ref (a + 1), .ref (a + 3), .ref (a + 5), .ref (a + 7)]) ∧ WV h' (a + 1) 36 0 ∧ WV h' (a + 3) 36 0 ∧ WV h' (a + 5) 36 0 ∧ WV h' (a + 7) 36 0 := by
  obtain ⟨g1, e1, c1, s1, n1, w1⟩ := mkW (N := 36) (c := a + 1) hc (by decide) (by decide)
  have og1 := (n1 a (by omega)).trans ha
  obtain ⟨h1, hh1⟩ : ∃ h1, h1 = eUp g1 a (.inr (2, [.ref h.2.1, .null, .null, .null])) := ⟨_, rfl⟩
  have hc1 : h1.2.1 = a + 3 := by rw [hh1]; exact c1
  have hs1 : h1.2.2 = h.2.2 + 39 := by rw [hh1]; show g1.2.2 = _; omega
  have o1 : h1.1 a = .inr (2, [.ref h.2.1, .null, .null, .null]) := by rw [hh1]; exact eUp_at ..
  have k1 : ∀ j, j < a + 1 → j ≠ a → h1.1 j = h.1 j := fun j j1 j2 => by rw [hh1, eUp_ne j2]; exact n1 j (by omega)
  have v1 : WV h1 (a + 1) 36 0 := w1.keep (by rw [hh1]; exact eUp_ne (by omega)) (by rw [hh1]; exact eUp_ne (by omega))
  obtain ⟨g2, e2, c2, s2, n2, w2⟩ := mkW (N := 36) (c := a + 3) hc1 (by decide) (by decide)
  have og2 := (n2 a (by omega)).trans o1
  obtain ⟨h2, hh2⟩ : ∃ h2, h2 = eUp g2 a (.inr (2, [.ref h.2.1, .ref h1.2.1, .null, .null])) := ⟨_, rfl⟩
  have hc2 : h2.2.1 = a + 5 := by rw [hh2]; exact c2
  have hs2 : h2.2.2 = h1.2.2 + 39 := by rw [hh2]; show g2.2.2 = _; omega
  have o2 : h2.1 a = .inr (2, [.ref h.2.1, .ref h1.2.1, .null, .null]) := by rw [hh2]; exact eUp_at ..
  have k2 : ∀ j, j < a + 3 → j ≠ a → h2.1 j = h1.1 j := fun j j1 j2 => by rw [hh2, eUp_ne j2]; exact n2 j (by omega)
  have v2 : WV h2 (a + 3) 36 0 := w2.keep (by rw [hh2]; exact eUp_ne (by omega)) (by rw [hh2]; exact eUp_ne (by omega))
  obtain ⟨g3, e3, c3, s3, n3, w3⟩ := mkW (N := 36) (c := a + 5) hc2 (by decide) (by decide)
  have og3 := (n3 a (by omega)).trans o2
  obtain ⟨h3, hh3⟩ : ∃ h3, h3 = eUp g3 a (.inr (2, [.ref h.2.1, .ref h1.2.1, .ref h2.2.1, .null])) := ⟨_, rfl⟩
  have hc3 : h3.2.1 = a + 7 := by rw [hh3]; exact c3
  have hs3 : h3.2.2 = h2.2.2 + 39 := by rw [hh3]; show g3.2.2 = _; omega
  have o3 : h3.1 a = .inr (2, [.ref h.2.1, .ref h1.2.1, .ref h2.2.1, .null]) := by rw [hh3]; exact eUp_at ..
  have k3 : ∀ j, j < a + 5 → j ≠ a → h3.1 j = h2.1 j := fun j j1 j2 => by rw [hh3, eUp_ne j2]; exact n3 j (by omega)
  have v3 : WV h3 (a + 5) 36 0 := w3.keep (by rw [hh3]; exact eUp_ne (by omega)) (by rw [hh3]; exact eUp_ne (by omega))
  obtain ⟨g4, e4, c4, s4, n4, w4⟩ := mkW (N := 36) (c := a + 7) hc3 (by decide) (by decide)
  have og4 := (n4 a (by omega)).trans o3
  obtain ⟨h4, hh4⟩ : ∃ h4, h4 = eUp g4 a (.inr (2, [.ref h.2.1, .ref h1.2.1, .ref h2.2.1, .ref h3.2.1])) := ⟨_, rfl⟩
  have hc4 : h4.2.1 = a + 9 := by rw [hh4]; exact c4
  have hs4 : h4.2.2 = h3.2.2 + 39 := by rw [hh4]; show g4.2.2 = _; omega
  have o4 : h4.1 a = .inr (2, [.ref h.2.1, .ref h1.2.1, .ref h2.2.1, .ref h3.2.1]) := by rw [hh4]; exact eUp_at ..
  have k4 : ∀ j, j < a + 7 → j ≠ a → h4.1 j = h3.1 j := fun j j1 j2 => by rw [hh4, eUp_ne j2]; exact n4 j (by omega)
  have v4 : WV h4 (a + 7) 36 0 := w4.keep (by rw [hh4]; exact eUp_ne (by omega)) (by rw [hh4]; exact eUp_ne (by omega))
  refine ⟨h4, ?_, hc4, by omega, fun j hj => (k4 j (by omega) (by omega)).trans ((k3 j (by omega) (by omega)).trans ((k2 j (by omega) (by omega)).trans (k1 j (by omega) (by omega)))), by rw [o4, hc, hc1, hc2, hc3], (((v1.keep (k2 _ (by omega) (by omega)) (k2 _ (by omega) (by omega))).keep (k3 _ (by omega) (by omega)) (k3 _ (by omega) (by omega))).keep (k4 _ (by omega) (by omega)) (k4 _ (by omega) (by omega))), ((v2.keep (k3 _ (by omega) (by omega)) (k3 _ (by omega) (by omega))).keep (k4 _ (by omega) (by omega)) (k4 _ (by omega) (by omega))), (v3.keep (k4 _ (by omega) (by omega)) (k4 _ (by omega) (by omega))), v4⟩
  rw [E143 a ha]
  simp only [S143, gFs, pFs, okq, bls, bo_true, eUp_at, eUp_eUp, eKls, cl_some, Option.toList_some, Option.toList_none, List.cons_append, List.nil_append, nw_eq, e1, og1]
  rw [← hh1]
  simp only [S143, gFs, pFs, okq, bls, bo_true, eUp_at, eUp_eUp, eKls, cl_some, Option.toList_some, Option.toList_none, List.cons_append, List.nil_append, nw_eq, e2, og2]
  rw [← hh2]
  simp only [S143, gFs, pFs, okq, bls, bo_true, eUp_at, eUp_eUp, eKls, cl_some, Option.toList_some, Option.toList_none, List.cons_append, List.nil_append, nw_eq, e3, og3]
  rw [← hh3]
  simp only [S143, gFs, pFs, okq, bls, bo_true, eUp_at, eUp_eUp, eKls, cl_some, Option.toList_some, Option.toList_none, List.cons_append, List.nil_append, nw_eq, e4, og4]
  rw [← hh4]
theorem d145 {h : eH} {a H W C d : Nat} (ha : h.1 a = .inr (5, [.int 0, .int 0, .int 0, .null, .null, .null, .int 0, .int 0, .int 0, .int 0, .null, .null, .int 0])) (hc : h.2.1 = a + 1) (hH : H ≤ 20) (hW : W ≤ 20) (hC : C ≤ 30) : ∃ h', den 145 [.ref a, .int (nI H), .int (nI W), .int (nI C), .ref d] h = some (none, h') ∧ h'.2.1 = a + 6 ∧ h'.2.2 = h.2.2 + 39 + H * W * C + H * W + W ∧ (∀ j, j < a → h'.1 j = h.1 j) ∧ h'.1 a = .inr (5, [.int (nI H), .int (nI W), .int (nI C), .ref (a + 3), .ref (a + 4), .ref d, .int 0, .int 0, .int 0, .int 0, .ref (a + 5), .ref (a + 1), .int 0]) ∧ WV h' (a + 1) 36 0 ∧ h'.1 (a + 3) = .inl (0, H * W * C, .inl (fun _ => 0)) ∧ h'.1 (a + 4) = .inl (0, H * W, .inl (fun _ => 0)) ∧ h'.1 (a + 5) = .inl (0, W, .inl (fun _ => 0)) := by
  have b1 : H * W ≤ 400 := Nat.mul_le_mul hH hW
  have b2 : H * W * C ≤ 12000 := Nat.mul_le_mul b1 hC
  obtain ⟨g1, e1, c1, s1, n1, w1⟩ := mkW (N := 36) (c := a + 1) hc (by decide) (by decide)
  have og1 := (n1 a (by omega)).trans ha
  obtain ⟨h1, hh1⟩ : ∃ h1, h1 = eUp g1 a (.inr (5, [.int (nI H), .int (nI W), .int (nI C), .null, .null, .ref d, .int 0, .int 0, .int 0, .int 0, .null, .ref h.2.1, .int 0])) := ⟨_, rfl⟩
  have o1 : h1.1 a = .inr (5, [.int (nI H), .int (nI W), .int (nI C), .null, .null, .ref d, .int 0, .int 0, .int 0, .int 0, .null, .ref h.2.1, .int 0]) := by rw [hh1]; exact eUp_at ..
  have hc1 : h1.2.1 = a + 3 := by rw [hh1]; exact c1
  have hs1 : h1.2.2 = h.2.2 + 39 := by rw [hh1]; show g1.2.2 = _; omega
  have k1 : ∀ j, j ≠ a → h1.1 j = g1.1 j := fun j hj => by rw [hh1]; exact eUp_ne hj
  obtain ⟨q2, hq2⟩ : ∃ q, q = nw h1 (.inl (0, H * W * C, .inl (fun _ => 0))) (H * W * C) := ⟨_, rfl⟩
  have qo2 := (show q2.1 a = h1.1 a by rw [hq2]; exact nw_ne (by omega)).trans o1
  obtain ⟨h2, hh2⟩ : ∃ h2, h2 = eUp q2 a (.inr (5, [.int (nI H), .int (nI W), .int (nI C), .ref h1.2.1, .null, .ref d, .int 0, .int 0, .int 0, .int 0, .null, .ref h.2.1, .int 0])) := ⟨_, rfl⟩
  have o2 : h2.1 a = .inr (5, [.int (nI H), .int (nI W), .int (nI C), .ref h1.2.1, .null, .ref d, .int 0, .int 0, .int 0, .int 0, .null, .ref h.2.1, .int 0]) := by rw [hh2]; exact eUp_at ..
  have hc2 : h2.2.1 = a + 4 := by rw [hh2, hq2]; show h1.2.1 + 1 = _; omega
  have hs2 : h2.2.2 = h1.2.2 + H * W * C := by rw [hh2, hq2]; rfl
  have p2 : h2.1 (a + 3) = .inl (0, H * W * C, .inl (fun _ => 0)) := by rw [hh2, eUp_ne (by omega), hq2, ← hc1]; exact nw_at ..
  have k2 : ∀ j, j ≠ a → j ≠ a + 3 → h2.1 j = h1.1 j := fun j j1 j2 => by rw [hh2, eUp_ne j1, hq2]; exact nw_ne (by omega)
  obtain ⟨q3, hq3⟩ : ∃ q, q = nw h2 (.inl (0, H * W, .inl (fun _ => 0))) (H * W) := ⟨_, rfl⟩
  have qo3 := (show q3.1 a = h2.1 a by rw [hq3]; exact nw_ne (by omega)).trans o2
  obtain ⟨h3, hh3⟩ : ∃ h3, h3 = eUp q3 a (.inr (5, [.int (nI H), .int (nI W), .int (nI C), .ref h1.2.1, .ref h2.2.1, .ref d, .int 0, .int 0, .int 0, .int 0, .null, .ref h.2.1, .int 0])) := ⟨_, rfl⟩
  have o3 : h3.1 a = .inr (5, [.int (nI H), .int (nI W), .int (nI C), .ref h1.2.1, .ref h2.2.1, .ref d, .int 0, .int 0, .int 0, .int 0, .null, .ref h.2.1, .int 0]) := by rw [hh3]; exact eUp_at ..
  have hc3 : h3.2.1 = a + 5 := by rw [hh3, hq3]; show h2.2.1 + 1 = _; omega
  have hs3 : h3.2.2 = h2.2.2 + H * W := by rw [hh3, hq3]; rfl
  have p3 : h3.1 (a + 4) = .inl (0, H * W, .inl (fun _ => 0)) := by rw [hh3, eUp_ne (by omega), hq3, ← hc2]; exact nw_at ..
  have k3 : ∀ j, j ≠ a → j ≠ a + 4 → h3.1 j = h2.1 j := fun j j1 j2 => by rw [hh3, eUp_ne j1, hq3]; exact nw_ne (by omega)
  obtain ⟨q4, hq4⟩ : ∃ q, q = nw h3 (.inl (0, W, .inl (fun _ => 0))) W := ⟨_, rfl⟩
  have qo4 := (show q4.1 a = h3.1 a by rw [hq4]; exact nw_ne (by omega)).trans o3
  obtain ⟨h4, hh4⟩ : ∃ h4, h4 = eUp q4 a (.inr (5, [.int (nI H), .int (nI W), .int (nI C), .ref h1.2.1, .ref h2.2.1, .ref d, .int 0, .int 0, .int 0, .int 0, .ref h3.2.1, .ref h.2.1, .int 0])) := ⟨_, rfl⟩
  have k4 : ∀ j, j ≠ a → j ≠ a + 5 → h4.1 j = h3.1 j := fun j j1 j2 => by rw [hh4, eUp_ne j1, hq4]; exact nw_ne (by omega)
  have kk : ∀ j, j < a + 3 → j ≠ a → h4.1 j = g1.1 j := fun j j1 j2 => (k4 j j2 (by omega)).trans ((k3 j j2 (by omega)).trans ((k2 j j2 (by omega)).trans (k1 j j2)))
  refine ⟨h4, ?_, by rw [hh4, hq4]; show h3.2.1 + 1 = _; omega, by rw [hh4, hq4]; show h3.2.2 + W = _; omega, fun j hj => (kk j (by omega) (by omega)).trans (n1 j (by omega)), by rw [hh4, eUp_at, hc1, hc2, hc3, hc], w1.keep (kk _ (by omega) (by omega)) (kk _ (by omega) (by omega)), (k4 _ (by omega) (by omega)).trans ((k3 _ (by omega) (by omega)).trans p2), (k4 _ (by omega) (by omega)).trans p3, by rw [hh4, eUp_ne (by omega), hq4, ← hc3]; exact nw_at ..⟩
  rw [E145 a _ _ _ _ ha]
  simp only [S145, gFs, pFs, okq, bls, bo_true, eUp_at, eUp_eUp, eKls, cl_some, Option.toList_some, Option.toList_none, List.cons_append, List.nil_append, nw_eq, e1, og1, nI_mul]
  rw [← hh1, if_neg (nIneg (by omega)), nI_clamp (n := H * W * C) (by omega), ← hq2]
  simp only [S145, gFs, pFs, okq, bls, bo_true, eUp_at, eUp_eUp, eKls, cl_some, Option.toList_some, Option.toList_none, List.cons_append, List.nil_append, qo2]
  rw [← hh2, if_neg (nIneg (by omega)), nI_clamp (n := H * W) (by omega), ← hq3]
  simp only [S145, gFs, pFs, okq, bls, bo_true, eUp_at, eUp_eUp, eKls, cl_some, Option.toList_some, Option.toList_none, List.cons_append, List.nil_append, qo3]
  rw [← hh3, if_neg (nIneg (by omega)), nI_clamp (n := W) (by omega), ← hq4]
  simp only [S145, gFs, pFs, okq, bls, bo_true, eUp_at, eUp_eUp, eKls, cl_some, Option.toList_some, Option.toList_none, List.cons_append, List.nil_append, qo4]
  rw [← hh4]
