/-! WHOLE: the small methods. A Whole lies at a, its parts at a + 1 -/
def WR (h : eH) (a N : Nat) (sz bl : Int32) (f : Nat → Int32) : Prop := h.1 a = .inr (9, [.ref (a + 1), .int sz, .int bl]) ∧ h.1 (a + 1) = .inl (0, N, .inl f)
def sb (z : Int) : Int32 := if z < 0 then 1 else 0
def WV (h : eH) (a N : Nat) (z : Int) : Prop := ∃ f, WR h a N (nI (nd z.natAbs)) (sb z) f ∧ nd z.natAbs ≤ N ∧ ∀ i, i < nd z.natAbs → f i = nI (dgt z.natAbs i)
def F2 (a : Nat) (h h' : eH) : Prop := h'.2 = h.2 ∧ ∀ i, i ≠ a → i ≠ a + 1 → h'.1 i = h.1 i
theorem F2.refl (a : Nat) (h : eH) : F2 a h h := ⟨rfl, fun _ _ _ => rfl⟩
theorem F2.trans {a : Nat} {h h' h'' : eH} (x : F2 a h h') (y : F2 a h' h'') : F2 a h h'' := ⟨y.1.trans x.1, fun i h1 h2 => (y.2 i h1 h2).trans (x.2 i h1 h2)⟩
theorem F2.up (a : Nat) (h : eH) (e : va_E) : F2 a h (eUp h a e) := ⟨rfl, fun i h1 _ => eUp_ne h1⟩
theorem F2.up1 (a : Nat) (h : eH) (e : va_E) : F2 a h (eUp h (a + 1) e) := ⟨rfl, fun i _ h2 => eUp_ne h2⟩
theorem WR.kept {h h' : eH} {a b N : Nat} {sz bl : Int32} {f : Nat → Int32} (w : WR h b N sz bl f) (x : F2 a h h') (h1 : b ≠ a) (h2 : b ≠ a + 1) (h3 : b + 1 ≠ a) : WR h' b N sz bl f := ⟨(x.2 b h1 h2).trans w.1, (x.2 (b + 1) h3 (by omega)).trans w.2⟩
theorem WV.kept {h h' : eH} {a b N : Nat} {z : Int} (w : WV h b N z) (x : F2 a h h') (h1 : b ≠ a) (h2 : b ≠ a + 1) (h3 : b + 1 ≠ a) : WV h' b N z := by
  obtain ⟨f, w, r⟩ := w
  exact ⟨f, w.kept x h1 h2 h3, r⟩
/-- two Wholes lie apart if their numbers differ -/
theorem WR.apart {h : eH} {a b N M : Nat} {sz bl sz' bl' : Int32} {f g : Nat → Int32} (w : WR h a N sz bl f) (v : WR h b M sz' bl' g) : b ≠ a + 1 ∧ a ≠ b + 1 := by
  refine ⟨fun e => ?_, fun e => ?_⟩
  · subst e
    have := w.2.symm.trans v.1
    cases this
  · subst e
    have := v.2.symm.trans w.1
    cases this
theorem sb01 (z : Int) : sb z = 0 ∨ sb z = 1 := by
  unfold sb
  split
  · exact Or.inr rfl
  · exact Or.inl rfl
theorem ne1 (a : Nat) : a + 1 ≠ a := by omega
theorem d94 {h : eH} {a N : Nat} {sz bl : Int32} {f : Nat → Int32} (w : WR h a N sz bl f) (hN : N < 2 ^ 31) (m : Nat) (hm : m < 2 ^ 31) : den 94 [.ref a, .int (nI m)] h = some (some (.int (nI (if m < N then m else N))), h) := by
  rw [E94 a _ w.1]
  simp only [S94, w.1, w.2, gFs]
  rw [aN_sf (by decide)]
  by_cases hc : m < N
  · rw [if_neg (nI_ge hc hN), if_pos hc]
  · rw [if_pos (nI_le (by omega) hm), if_neg hc, aN_sf (by decide)]
theorem d82 {h : eH} {a N : Nat} {sz bl : Int32} {f : Nat → Int32} (w : WR h a N sz bl f) : ∃ h', den 82 [.ref a] h = some (none, h') ∧ F2 a h h' ∧ WV h' a N 0 := by
  rw [E82 a w.1]
  simp only [S82, w.1, gFs, pFs, okq, bls, bo_true, eUp_at, eUp_eUp]
  exact ⟨_, rfl, F2.up a h _, f, ⟨eUp_at .., (eUp_ne (ne1 a)).trans w.2⟩, by rw [show (0 : Int).natAbs = 0 from rfl, nd_0]; exact Nat.zero_le _, fun i hi => by rw [show (0 : Int).natAbs = 0 from rfl, nd_0] at hi; omega⟩
theorem natAbs0 {z : Int} (h : nd z.natAbs = 0) : z = 0 := by
  have := nd_eq0.mp h
  omega
theorem d100 {h : eH} {a N : Nat} {z : Int} (w : WV h a N z) (hN : N < 2 ^ 31) : den 100 [.ref a] h = some (some (.int (if z = 0 then nI 0 else if z < 0 then -1 else nI 1)), h) := by
  obtain ⟨f, ⟨w1, w2⟩, h1, h2⟩ := w
  rw [E100 a w1]
  simp only [S100, w1, gFs]
  by_cases hz : z = 0
  · subst hz
    rw [if_pos (by rw [show (0 : Int).natAbs = 0 from rfl, nd_0]; exact nI_0), if_pos rfl]
  · have hn : nd z.natAbs ≠ 0 := fun e => hz (natAbs0 e)
    rw [if_neg (nI_ne0 (by omega) (by omega)), if_neg hz]
    unfold sb
    by_cases hneg : z < 0
    · rw [if_pos hneg, if_pos hneg, if_neg (by decide)]
    · rw [if_neg hneg, if_neg hneg, if_pos rfl]
theorem d87 {h : eH} {a N : Nat} {z : Int} (w : WV h a N z) (hN : N < 2 ^ 31) : ∃ h', den 87 [.ref a] h = some (none, h') ∧ F2 a h h' ∧ WV h' a N (-z) := by
  obtain ⟨f, ⟨w1, w2⟩, h1, h2⟩ := w
  rw [E87 a w1]
  simp only [S87, w1, gFs, pFs, okq, bls, bo_true]
  have fin : ∀ b : Int32, b = sb (-z) → WV (eUp h a (.inr (9, [.ref (a + 1), .int (nI (nd z.natAbs)), .int b]))) a N (-z) := by
    intro b hb
    refine ⟨f, ⟨?_, (eUp_ne (ne1 a)).trans w2⟩, by rw [Int.natAbs_neg]; exact h1, by rw [Int.natAbs_neg]; exact h2⟩
    rw [eUp_at, Int.natAbs_neg, hb]
  by_cases hz : nd z.natAbs = 0
  · have : z = 0 := natAbs0 hz
    subst this
    rw [if_pos (by rw [hz]; decide)]
    exact ⟨_, rfl, F2.up a h _, fin _ rfl⟩
  · rw [if_neg (nI_nle (by omega) (by omega))]
    unfold sb at fin ⊢
    by_cases hneg : z < 0
    · rw [if_pos hneg, if_neg (by decide)]
      exact ⟨_, rfl, F2.up a h _, fin _ (by rw [if_neg (by omega)]; rfl)⟩
    · rw [if_neg hneg, if_pos rfl]
      refine ⟨_, rfl, F2.up a h _, fin _ ?_⟩
      have : z ≠ 0 := fun e => hz (by rw [e, show (0 : Int).natAbs = 0 from rfl, nd_0])
      rw [if_pos (by omega)]
      rfl
