/-! the JDK's own -/
def fl {α : Type} (f : Nat → α) (v : α) (lo hi : Nat) : Nat → α := fun j => if lo ≤ j ∧ j < hi then v else f j
theorem eUp_eUp (h : eH) (a : Nat) (e e' : va_E) : eUp (eUp h a e) a e' = eUp h a e' := by
  unfold eUp
  simp only
  congr 1
  funext j
  unfold va_up
  split <;> rfl
theorem fl_upd (f : Nat → Int32) (v : Int32) (lo i : Nat) (h : lo ≤ i) : upd (fl f v lo i) i v = fl f v lo (i + 1) := by
  funext j
  unfold upd fl
  by_cases h1 : j = i
  · subst h1; rw [if_pos rfl, if_pos ⟨h, by omega⟩]
  · rw [if_neg h1]
    by_cases h2 : lo ≤ j ∧ j < i
    · rw [if_pos h2, if_pos ⟨h2.1, by omega⟩]
    · rw [if_neg h2, if_neg (by omega)]
theorem fl_updL (f : Nat → Int64) (v : Int64) (lo i : Nat) (h : lo ≤ i) : vp_updL (fl f v lo i) i v = fl f v lo (i + 1) := by
  funext j
  unfold vp_updL fl
  by_cases h1 : j = i
  · subst h1; rw [if_pos rfl, if_pos ⟨h, by omega⟩]
  · rw [if_neg h1]
    by_cases h2 : lo ≤ j ∧ j < i
    · rw [if_pos h2, if_pos ⟨h2.1, by omega⟩]
    · rw [if_neg h2, if_neg (by omega)]
theorem fl_self {α : Type} (f : Nat → α) (v : α) (lo : Nat) : fl f v lo lo = f := by
  funext j
  unfold fl
  rw [if_neg (by omega)]
theorem d9 (a b : Int32) (h : eH) : den 9 [.int a, .int b] h = some (some (.int (if b < a then b else a)), h) := by
  rw [E9]
  simp only [S9]
  split <;> rfl
theorem d8 (a b : Int32) (h : eH) : den 8 [.int a, .int b] h = some (some (.int (if a < b then b else a)), h) := by
  rw [E8]
  simp only [S8]
  split <;> rfl
theorem d5 (a : Int32) (h : eH) : den 5 [.int a] h = some (some (.int (if 0 ≤ a then a else -a)), h) := by
  rw [E5]
  simp only [S5]
  split <;> rfl
theorem d10 (a b : Int64) (h : eH) : den 10 [.long a, .long b] h = some (some (.long (if b < a then b else a)), h) := by
  rw [E10]
  simp only [S10]
  unfold lg_cmp
  by_cases h1 : b < a
  · simp [h1]
  · by_cases h2 : a = b
    · simp [h2]
    · simp [h1, h2]
theorem d1_loop {a n : Nat} {f : Nat → Int32} {v : Int32} {h : eH} (hn : n < 2 ^ 31) : ∀ k i, i + k = n → ru 1 5 [some (.ref a), some (.int v), some (.int (nI i)), some (.int (nI n))] [] (eUp h a (.inl (0, n, .inl (fl f v 0 i)))) = some (none, eUp h a (.inl (0, n, .inl (fl f v 0 n)))) := by
  intro k
  induction k with
  | zero =>
    intro i hi
    have : i = n := by omega
    subst this
    rw [H1_5]
    simp only [S1]
    rw [if_pos (nI_le (Nat.le_refl _) hn)]
  | succ k ih =>
    intro i hi
    rw [H1_5]
    simp only [S1, eUp_at, eKls]
    rw [if_neg (nI_ge (by omega) hn), wI_nI (by omega) hn, eUp_eUp, nI_1, fl_upd _ _ _ _ (by omega)]
    exact ih (i + 1) (by omega)
theorem d1 {a n : Nat} {f : Nat → Int32} {v : Int32} {h : eH} (ha : h.1 a = .inl (0, n, .inl f)) (hn : n < 2 ^ 31) : den 1 [.ref a, .int v] h = some (none, eUp h a (.inl (0, n, .inl (fl f v 0 n)))) := by
  have e : h = eUp h a (.inl (0, n, .inl (fl f v 0 0))) := by
    rw [fl_self, ← ha]
    unfold eUp
    obtain ⟨w, q⟩ := h
    simp only
    congr 1
    funext j
    unfold va_up
    split
    · next h1 => rw [h1]
    · rfl
  have := d1_loop (a := a) (f := f) (v := v) (h := h) hn n 0 (by omega)
  rw [← e] at this
  rw [E1]
  simp only [S1, ha, eKls]
  rw [aN_sf (by decide)]
  exact this
