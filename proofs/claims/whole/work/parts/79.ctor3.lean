/-! THE CLASS: constructors of triples, cone, net, slots -/
theorem wQ_nI {α : Type} {t n i v ci : Nat} {g : Nat → Option Nat} {fs : List Value} {F : va_E → Option α} (ht : (t = 3 ∧ ci = 9) ∨ (t = 4 ∧ ci = 8)) (hi : i < n) (hn : n < 2 ^ 31) : wQ (.inl (t, n, .inr (.inr (.inr (.inr g))))) (.inr (ci, fs)) (nI i) v F = F (.inl (t, n, .inr (.inr (.inr (.inr (va_up g i (some v))))))) := by
  unfold wQ
  rcases ht with ⟨e1, e2⟩ | ⟨e1, e2⟩
  · subst e1
    subst e2
    show bo true (bo true (inR (nI i) n _)) = _
    rw [bo_true, bo_true, inR_nI hi hn, nI_clamp (by omega)]
  · subst e1
    subst e2
    show bo true (bo true (inR (nI i) n _)) = _
    rw [bo_true, bo_true, inR_nI hi hn, nI_clamp (by omega)]
theorem vup_at {α : Type} (g : Nat → Option α) (i : Nat) (v : Option α) : va_up g i v i = v := by simp [va_up]
theorem vup_ne {α : Type} {g : Nat → Option α} {i j : Nat} {v : Option α} (h : j ≠ i) : va_up g i v j = g j := by simp [va_up, h]
/-- a triple while it is made -/
def TP (h : eH) (a N i : Nat) : Prop := h.2.1 = a + 2 + 2 * i ∧ h.1 a = .inr (8, [.ref (a + 1)]) ∧ (∃ g, h.1 (a + 1) = .inl (3, 3, .inr (.inr (.inr (.inr g)))) ∧ ∀ j, j < i → g j = some (a + 2 + 2 * j)) ∧ ∀ j, j < i → WV h (a + 2 + 2 * j) N 0
theorem d91_step {h : eH} {a N i : Nat} (hN : 1 ≤ N ∧ N ≤ 100) (tp : TP h a N i) (hi : i < 3) : ∃ h', ru 91 14 [some (.ref a), some (.int (nI N)), some (.int (nI i))] [] h = ru 91 14 [some (.ref a), some (.int (nI N)), some (.int (nI (i + 1)))] [] h' ∧ TP h' a N (i + 1) ∧ h'.2.2 = h.2.2 + 3 + N ∧ ∀ j, j < a → h'.1 j = h.1 j := by
  obtain ⟨t1, t2, ⟨g, t3, t4⟩, t5⟩ := tp
  obtain ⟨k, e1, c1, s1, n1, w1⟩ := mkW (N := N) t1 hN.1 hN.2
  obtain ⟨ff, rr, -, -⟩ := id w1
  have q1 := rr.1
  have q2 := (n1 (a + 1) (by omega)).trans t3
  obtain ⟨h2, hh2⟩ : ∃ h2, h2 = eUp k (a + 1) (.inl (3, 3, .inr (.inr (.inr (.inr (va_up g i (some h.2.1))))))) := ⟨_, rfl⟩
  have n2 : ∀ j, j ≠ a + 1 → h2.1 j = k.1 j := fun j hj => by rw [hh2]; exact eUp_ne hj
  refine ⟨h2, ?_, ⟨by rw [hh2]; show k.2.1 = _; omega, (n2 a (by omega)).trans ((n1 a (by omega)).trans t2), ⟨_, by rw [hh2]; exact eUp_at .., fun j hj => ?_⟩, fun j hj => ?_⟩, by rw [hh2]; exact s1, fun j hj => (n2 j (by omega)).trans (n1 j (by omega))⟩
  · rw [H91_14]
    simp only [S91, gFs, pFs, okq, bls, bo_true, eUp_at, eUp_eUp, eKls, cl_some, Option.toList_some, Option.toList_none, List.cons_append, List.nil_append]
    rw [if_neg (nI_ge hi (by decide))]
    simp only [S91, gFs, pFs, okq, bls, bo_true, eUp_at, eUp_eUp, eKls, cl_some, Option.toList_some, Option.toList_none, List.cons_append, List.nil_append, t2, nw_eq, e1, q2]
    rw [show k.1 h.2.1 = .inr (9, [.ref (a + 2 + 2 * i + 1), .int (nI (nd (0 : Int).natAbs)), .int (sb 0)]) from by rw [t1]; exact q1, wQ_nI (Or.inl ⟨rfl, rfl⟩) hi (by decide), ← hh2, nI_1]
  · by_cases q : j = i
    · rw [q, vup_at, t1]
    · rw [vup_ne q]
      exact t4 j (by omega)
  · by_cases q : j = i
    · rw [q]
      exact w1.keep (n2 _ (by omega)) (n2 _ (by omega))
    · exact (t5 j (by omega)).keep ((n2 _ (by omega)).trans (n1 _ (by omega))) ((n2 _ (by omega)).trans (n1 _ (by omega)))
theorem d91 {h : eH} {a N : Nat} (hN : 1 ≤ N ∧ N ≤ 100) (ha : h.1 a = .inr (8, [.null])) (hc : h.2.1 = a + 1) : ∃ h', den 91 [.ref a, .int (nI N)] h = some (none, h') ∧ h'.2.1 = a + 8 ∧ h'.2.2 = h.2.2 + 12 + 3 * N ∧ (∀ j, j < a → h'.1 j = h.1 j) ∧ TR h' a N (fun _ => 0) := by
  obtain ⟨k, hk⟩ : ∃ k, k = nw h (.inl (3, 3, .inr (.inr (.inr (.inr (fun _ => none)))))) 3 := ⟨_, rfl⟩
  have ka : k.1 a = .inr (8, [.null]) := by rw [hk, nw_ne (by omega)]; exact ha
  have k1 : k.1 (a + 1) = .inl (3, 3, .inr (.inr (.inr (.inr (fun _ => none))))) := by rw [hk, ← hc]; exact nw_at ..
  obtain ⟨h0, hh0⟩ : ∃ h0, h0 = eUp k a (.inr (8, [.ref h.2.1])) := ⟨_, rfl⟩
  have n0 : ∀ j, j ≠ a → h0.1 j = k.1 j := fun j hj => by rw [hh0]; exact eUp_ne hj
  have tp0 : TP h0 a N 0 := ⟨by rw [hh0, hk]; show h.2.1 + 1 = _; omega, by rw [hh0, eUp_at, hc], ⟨_, (n0 _ (by omega)).trans k1, fun j hj => absurd hj (Nat.not_lt_zero _)⟩, fun j hj => absurd hj (Nat.not_lt_zero _)⟩
  have s0 : h0.2.2 = h.2.2 + 3 := by rw [hh0, hk]; rfl
  have m0 : ∀ j, j < a → h0.1 j = h.1 j := fun j hj => by rw [n0 j (by omega), hk]; exact nw_ne (by omega)
  obtain ⟨h1, e1, tp1, s1, m1⟩ := d91_step hN tp0 (by decide)
  obtain ⟨h2, e2, tp2, s2, m2⟩ := d91_step hN tp1 (by decide)
  obtain ⟨h3, e3, tp3, s3, m3⟩ := d91_step hN tp2 (by decide)
  obtain ⟨u1, u2, ⟨g, u3, u4⟩, u5⟩ := tp3
  refine ⟨h3, ?_, by omega, by omega, fun j hj => (m3 j hj).trans ((m2 j hj).trans ((m1 j hj).trans (m0 j hj))), ⟨u2, g, u3, fun i hi => u4 i hi⟩, fun i hi => u5 i hi⟩
  rw [E91 a _ ha]
  simp only [S91, gFs, pFs, okq, bls, bo_true, eUp_at, eUp_eUp, eKls, cl_some, Option.toList_some, Option.toList_none, List.cons_append, List.nil_append, nw_eq]
  rw [if_neg (nIneg (by decide)), show (nI 3).toNatClampNeg = 3 from by decide, ← hk]
  simp only [S91, gFs, pFs, okq, bls, bo_true, eUp_at, eUp_eUp, eKls, cl_some, Option.toList_some, Option.toList_none, List.cons_append, List.nil_append, ka]
  rw [← hh0, e1, e2, e3, H91_14]
  simp only [S91, gFs, pFs, okq, bls, bo_true, eUp_at, eUp_eUp, eKls, cl_some, Option.toList_some, Option.toList_none, List.cons_append, List.nil_append]
  rw [if_pos (by decide)]
/-- the cone while its triples are made -/
def CP9 (h : eH) (a i : Nat) : Prop := h.2.1 = a + 24 + 8 * i ∧ h.1 a = .inr (0, [.ref (a + 1), .ref (a + 2), .ref (a + 10), .ref (a + 18), .ref (a + 20), .ref (a + 22), .ref (a + 23), .int 0]) ∧ (∃ g, h.1 (a + 1) = .inl (4, 14, .inr (.inr (.inr (.inr g)))) ∧ ∀ j, j < i → g j = some (a + 24 + 8 * j)) ∧ ∀ j, j < i → TR h (a + 24 + 8 * j) 5 (fun _ => 0)
theorem d92_step {h : eH} {a i : Nat} (tp : CP9 h a i) (hi : i < 14) : ∃ h', ru 92 83 [some (.ref a), some (.int (nI i))] [] h = ru 92 83 [some (.ref a), some (.int (nI (i + 1)))] [] h' ∧ CP9 h' a (i + 1) ∧ h'.2.2 = h.2.2 + 28 ∧ ∀ j, j < a + 24 → j ≠ a + 1 → h'.1 j = h.1 j := by
  obtain ⟨t1, t2, ⟨g, t3, t4⟩, t5⟩ := tp
  have q0 := nw_at h (.inr (8, [.null])) 1
  obtain ⟨q, hq⟩ : ∃ q, q = nw h (.inr (8, [.null])) 1 := ⟨_, rfl⟩
  have qc : q.2.1 = a + 24 + 8 * i + 1 := by rw [hq]; show h.2.1 + 1 = _; omega
  have qs : q.2.2 = h.2.2 + 1 := by rw [hq]; rfl
  have qk : ∀ j, j ≠ a + 24 + 8 * i → q.1 j = h.1 j := fun j hj => by rw [hq]; exact nw_ne (by omega)
  rw [← hq, t1] at q0
  obtain ⟨k, e1, c1, s1, n1, w1⟩ := d91 (N := 5) (by decide) q0 qc
  have e1' : den 91 [.ref h.2.1, .int (nI 5)] (nw h (.inr (8, [.null])) 1) = some (none, k) := by rw [← hq, t1]; exact e1
  have q1 := w1.1.1
  have q2 := (n1 (a + 1) (by omega)).trans ((qk (a + 1) (by omega)).trans t3)
  obtain ⟨h2, hh2⟩ : ∃ h2, h2 = eUp k (a + 1) (.inl (4, 14, .inr (.inr (.inr (.inr (va_up g i (some h.2.1))))))) := ⟨_, rfl⟩
  have n2 : ∀ j, j ≠ a + 1 → h2.1 j = k.1 j := fun j hj => by rw [hh2]; exact eUp_ne hj
  refine ⟨h2, ?_, ⟨by rw [hh2]; show k.2.1 = _; omega, (n2 a (by omega)).trans ((n1 a (by omega)).trans ((qk a (by omega)).trans t2)), ⟨_, by rw [hh2]; exact eUp_at .., fun j hj => ?_⟩, fun j hj => ?_⟩, by rw [hh2]; show k.2.2 = _; omega, fun j hj hj1 => (n2 j hj1).trans ((n1 j (by omega)).trans (qk j (by omega)))⟩
  · rw [H92_83]
    simp only [S92, gFs, pFs, okq, bls, bo_true, eUp_at, eUp_eUp, eKls, cl_some, Option.toList_some, Option.toList_none, List.cons_append, List.nil_append]
    rw [if_neg (nI_ge hi (by decide))]
    simp only [S92, gFs, pFs, okq, bls, bo_true, eUp_at, eUp_eUp, eKls, cl_some, Option.toList_some, Option.toList_none, List.cons_append, List.nil_append, t2, nw_eq, e1', q2]
    rw [show k.1 h.2.1 = .inr (8, [.ref (a + 24 + 8 * i + 1)]) from by rw [t1]; exact q1, wQ_nI (Or.inr ⟨rfl, rfl⟩) hi (by decide), ← hh2, nI_1]
  · by_cases q : j = i
    · rw [q, vup_at, t1]
    · rw [vup_ne q]
      exact t4 j (by omega)
  · by_cases q : j = i
    · rw [q]
      exact w1.keep (fun x x1 x2 => n2 x (by omega))
    · exact (t5 j (by omega)).keep (fun x x1 x2 => (n2 x (by omega)).trans ((n1 x (by omega)).trans (qk x (by omega))))
theorem d92_loop {a : Nat} : ∀ r i h, i + r = 14 → CP9 h a i → ∃ h', ru 92 83 [some (.ref a), some (.int (nI i))] [] h = some (none, h') ∧ CP9 h' a 14 ∧ h'.2.2 = h.2.2 + 28 * r ∧ ∀ j, j < a + 24 → j ≠ a + 1 → h'.1 j = h.1 j := by
  intro r
  induction r with
  | zero =>
    intro i h hi cp
    have : i = 14 := by omega
    subst this
    refine ⟨h, ?_, cp, rfl, fun _ _ _ => rfl⟩
    rw [H92_83]
    simp only [S92, gFs, pFs, okq, bls, bo_true, eUp_at, eUp_eUp, eKls, cl_some, Option.toList_some, Option.toList_none, List.cons_append, List.nil_append]
    rw [if_pos (by decide)]
  | succ r ih =>
    intro i h hi cp
    obtain ⟨h1, e1, cp1, s1, n1⟩ := d92_step cp (by omega)
    obtain ⟨h2, e2, cp2, s2, n2⟩ := ih (i + 1) h1 (by omega) cp1
    exact ⟨h2, e1.trans e2, cp2, by omega, fun j j1 j2 => (n2 j j1 j2).trans (n1 j j1 j2)⟩
/-- a new triple of 36 parts -/
theorem mkT {h : eH} {c : Nat} (hc : h.2.1 = c) : ∃ h', den 91 [.ref h.2.1, .int (nI 36)] (nw h (.inr (8, [.null])) 1) = some (none, h') ∧ h'.2.1 = c + 8 ∧ h'.2.2 = h.2.2 + 121 ∧ (∀ i, i < c → h'.1 i = h.1 i) ∧ TR h' c 36 (fun _ => 0) := by
  have q0 := nw_at h (.inr (8, [.null])) 1
  obtain ⟨q, hq⟩ : ∃ q, q = nw h (.inr (8, [.null])) 1 := ⟨_, rfl⟩
  have qc : q.2.1 = c + 1 := by rw [hq, ← hc]; rfl
  have qs : q.2.2 = h.2.2 + 1 := by rw [hq]; rfl
  have qk : ∀ j, j ≠ c → q.1 j = h.1 j := fun j hj => by rw [hq]; exact nw_ne (by omega)
  rw [← hq, hc] at q0
  obtain ⟨k, e1, c1, s1, n1, w1⟩ := d91 (N := 36) (by decide) q0 qc
  rw [← hq, hc]
  exact ⟨k, e1, c1, by omega, fun i hi => (n1 i hi).trans (qk i (by omega)), w1⟩
