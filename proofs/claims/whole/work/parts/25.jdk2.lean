/-! the JDK's own, second part -/
theorem eUp_id {h : eH} {a : Nat} {e : va_E} (ha : h.1 a = e) : eUp h a e = h := by
  subst ha
  unfold eUp
  obtain ⟨w, q⟩ := h
  simp only
  congr 1
  funext j
  unfold va_up
  split
  · next h1 => rw [h1]
  · rfl
theorem d2_loop {a n : Nat} {f : Nat → Int64} {v : Int64} {h : eH} (hn : n < 2 ^ 31) : ∀ k i, i + k = n → ru 2 6 [some (.ref a), some (.long v), none, some (.int (nI i)), some (.int (nI n))] [] (eUp h a (.inl (1, n, .inr (.inl (fl f v 0 i))))) = some (none, eUp h a (.inl (1, n, .inr (.inl (fl f v 0 n))))) := by
  intro k
  induction k with
  | zero =>
    intro i hi
    have : i = n := by omega
    subst this
    rw [H2_6]
    simp only [S2]
    rw [if_pos (nI_le (Nat.le_refl _) hn)]
  | succ k ih =>
    intro i hi
    rw [H2_6]
    simp only [S2, eUp_at, eKls]
    rw [if_neg (nI_ge (by omega) hn), wL_nI (by omega) hn, eUp_eUp, nI_1, fl_updL _ _ _ _ (by omega)]
    exact ih (i + 1) (by omega)
theorem d2 {a n : Nat} {f : Nat → Int64} {v : Int64} {h : eH} (ha : h.1 a = .inl (1, n, .inr (.inl f))) (hn : n < 2 ^ 31) : den 2 [.ref a, .long v] h = some (none, eUp h a (.inl (1, n, .inr (.inl (fl f v 0 n))))) := by
  have := d2_loop (a := a) (f := f) (v := v) (h := h) hn n 0 (by omega)
  rw [fl_self, eUp_id ha] at this
  rw [E2]
  simp only [S2, ha, eKls]
  rw [aN_sf (by decide)]
  exact this
theorem d3 {len lo hi : Nat} (h : eH) (h1 : lo ≤ hi) (h2 : hi ≤ len) (hl : len < 2 ^ 31) : den 3 [.int (nI len), .int (nI lo), .int (nI hi)] h = some (none, h) := by
  rw [E3]
  simp only [S3]
  rw [if_pos (nI_le h1 (by omega)), if_pos (nI_pos' (by omega)), if_pos (nI_le h2 hl)]
theorem d4_loop {a n lo hi : Nat} {f : Nat → Int32} {v : Int32} {h : eH} (hn : n < 2 ^ 31) (hhi : hi ≤ n) : ∀ k i, i + k = hi → lo ≤ i → ru 4 10 [some (.ref a), some (.int (nI lo)), some (.int (nI hi)), some (.int v), some (.int (nI i))] [] (eUp h a (.inl (0, n, .inl (fl f v lo i)))) = some (none, eUp h a (.inl (0, n, .inl (fl f v lo hi)))) := by
  intro k
  induction k with
  | zero =>
    intro i hi' _
    have : i = hi := by omega
    subst this
    rw [H4_10]
    simp only [S4]
    rw [if_pos (nI_le (Nat.le_refl _) (by omega))]
  | succ k ih =>
    intro i hi' hlo
    rw [H4_10]
    simp only [S4, eUp_at, eKls]
    rw [if_neg (nI_ge (by omega) (by omega)), wI_nI (by omega) hn, eUp_eUp, nI_1, fl_upd _ _ _ _ hlo]
    exact ih (i + 1) (by omega) (by omega)
theorem d4 {a n lo hi : Nat} {f : Nat → Int32} {v : Int32} {h : eH} (ha : h.1 a = .inl (0, n, .inl f)) (hn : n < 2 ^ 31) (h1 : lo ≤ hi) (h2 : hi ≤ n) : den 4 [.ref a, .int (nI lo), .int (nI hi), .int v] h = some (none, eUp h a (.inl (0, n, .inl (fl f v lo hi)))) := by
  have := d4_loop (a := a) (f := f) (v := v) (h := h) (lo := lo) hn h2 (hi - lo) lo (by omega) (Nat.le_refl _)
  rw [fl_self, eUp_id ha] at this
  rw [E4]
  simp only [S4, ha, eKls]
  rw [aN_sf (by decide)]
  simp only [S4, d3 h h1 h2 hn, cl_some, Option.toList_none, List.nil_append, eKls]
  exact this
theorem bls : ((nI 0 == (0 : Int32) || nI 0 == 1) = true) ∧ ((nI 1 == (0 : Int32) || nI 1 == 1) = true) ∧ (((0 : Int32) == 0 || (0 : Int32) == 1) = true) ∧ (((1 : Int32) == 0 || (1 : Int32) == 1) = true) := by decide
