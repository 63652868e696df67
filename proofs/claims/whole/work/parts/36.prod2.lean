/-! WHOLE: becomeProduct in numbers -/
theorem d96 {h : eH} {a p q N Np Nq : Nat} {x y : Int} {sz bl : Int32} {f : Nat → Int32} (wa : WR h a N sz bl f) (wp : WV h p Np x) (wq : WV h q Nq y) (hap : p ≠ a) (haq : q ≠ a) (hN : N < 2 ^ 30) (hNp : Np < 2 ^ 30) (hNq : Nq < 2 ^ 30) (hfit : nd (x * y).natAbs ≤ N) : ∃ h', den 96 [.ref a, .ref p, .ref q] h = some (none, h') ∧ F2 a h h' ∧ WV h' a N (x * y) := by
  obtain ⟨fp, wp1, wp3, wp4⟩ := wp
  obtain ⟨fq, wq1, wq3, wq4⟩ := wq
  have hV : (x * y).natAbs = x.natAbs * y.natAbs := Int.natAbs_mul x y
  have hfd := d94 wa (by omega) (nd x.natAbs + nd y.natAbs) (by omega)
  have hVl : (x * y).natAbs < BB ^ (nd x.natAbs + nd y.natAbs) := by
    rw [hV, Nat.pow_add]
    exact Nat.mul_lt_mul_of_lt_of_lt (lt_nd _) (lt_nd _)
  have hVN : (x * y).natAbs < BB ^ N := nd_le.mp hfit
  have hVlen : (x * y).natAbs < BB ^ (if nd x.natAbs + nd y.natAbs < N then nd x.natAbs + nd y.natAbs else N) := by split <;> assumption
  have hlenN : (if nd x.natAbs + nd y.natAbs < N then nd x.natAbs + nd y.natAbs else N) ≤ N := by split <;> omega
  generalize (if nd x.natAbs + nd y.natAbs < N then nd x.natAbs + nd y.natAbs else N) = len at *
  have hfill := d4 (v := nI 0) (lo := 0) (hi := len) wa.2 (by omega) (Nat.zero_le _) hlenN
  obtain ⟨F', x5', x7', x8', ho, hF'⟩ := d96_outer wa wp1 wq1 hap haq hN hNp hNq hlenN wp3 wq3 wp4 wq4 (nd x.natAbs) 0 (Nat.zero_add _) (fl f (nI 0) 0 len) none none none (by
    intro t ht
    rw [Nat.pow_zero, Nat.mod_one, Nat.zero_mul, dgt_0]
    unfold fl
    rw [if_pos ⟨Nat.zero_le _, ht⟩]) rfl
  obtain ⟨np1, np2⟩ := wa.apart wp1
  obtain ⟨nq1, nq2⟩ := wa.apart wq1
  have eA : ∀ e, (eUp h (a + 1) e).1 a = .inr (9, [.ref (a + 1), .int sz, .int bl]) := fun e => (eUp_ne (ne1 a).symm).trans wa.1
  have eP : ∀ e, (eUp h (a + 1) e).1 p = .inr (9, [.ref (p + 1), .int (nI (nd x.natAbs)), .int (sb x)]) := fun e => (eUp_ne np1).trans wp1.1
  have eQ9 : ∀ e, (eUp h (a + 1) e).1 q = .inr (9, [.ref (q + 1), .int (nI (nd y.natAbs)), .int (sb y)]) := fun e => (eUp_ne nq1).trans wq1.1
  have hbe : ∀ b : Int32, (b = 0 ∨ b = 1) → b = (if sb x = sb y then 0 else 1) → ∃ h', den 95 [.ref a, .int (nI len)] (eUp (eUp h (a + 1) (.inl (0, N, .inl F'))) a (.inr (9, [.ref (a + 1), .int sz, .int b]))) = some (none, h') ∧ F2 a h h' ∧ WV h' a N (x * y) := by
    intro b hb hbs
    have w2 : WR (eUp (eUp h (a + 1) (.inl (0, N, .inl F'))) a (.inr (9, [.ref (a + 1), .int sz, .int b]))) a N sz b F' := ⟨eUp_at .., (eUp_ne (ne1 a)).trans (eUp_at ..)⟩
    have hmin : (if len < N then len else N) = len := by split <;> omega
    have htr := d95 (l := len) (v := (x * y).natAbs) w2 hb (by omega) (by omega) (by rw [hmin, hV]; exact hF') (by rw [hmin]; exact hVlen)
    rw [htr, eUp_eUp]
    refine ⟨_, rfl, (F2.up1 a h _).trans (F2.up a _ _), F', ⟨?_, (eUp_ne (ne1 a)).trans (eUp_at ..)⟩, hfit, ?_⟩
    · rw [eUp_at, hbs]
      congr 5
      unfold sb
      by_cases hx : x < 0 <;> by_cases hy : y < 0 <;> simp only [hx, hy, if_true, if_false]
      · have := Int.mul_pos_of_neg_of_neg hx hy
        rw [if_neg (show ¬ x * y < 0 by omega)]
        split <;> rfl
      · by_cases h0 : y = 0
        · rw [h0, Int.mul_zero]; rfl
        · have := Int.mul_neg_of_neg_of_pos hx (show 0 < y by omega)
          rw [if_pos this, if_neg (by omega)]; rfl
      · by_cases h0 : x = 0
        · rw [h0, Int.zero_mul]; rfl
        · have := Int.mul_neg_of_pos_of_neg (show 0 < x by omega) hy
          rw [if_pos this, if_neg (by omega)]; rfl
      · have := Int.mul_nonneg (show 0 ≤ x by omega) (show 0 ≤ y by omega)
        rw [if_neg (show ¬ x * y < 0 by omega)]
        split <;> rfl
    · intro i hi
      have := nd_le.mpr hVlen
      rw [hF' i (by omega), hV]
  rw [E96 a _ _ wa.1]
  simp only [S96, gFs, pFs, okq, bls, bo_true, eUp_at, eUp_eUp, eKls, cl_some, Option.toList_some, Option.toList_none, List.cons_append, List.nil_append, wp1.1, wq1.1, wa.1, wa.2, nI_add, hfd, hfill]
  rw [ho, H96_157]
  simp only [S96, gFs, pFs, okq, bls, bo_true, eUp_at, eUp_eUp, eKls, cl_some, Option.toList_some, Option.toList_none, List.cons_append, List.nil_append, eA, eP, eQ9]
  by_cases hs : sb x = sb y
  · rw [if_pos hs]
    obtain ⟨h', e, r⟩ := hbe (nI 0) (Or.inl nI_0) (by rw [if_pos hs]; exact nI_0)
    exact ⟨h', by simp only [S96, gFs, pFs, okq, bls, bo_true, eUp_at, eUp_eUp, eKls, cl_some, Option.toList_some, Option.toList_none, List.cons_append, List.nil_append, e], r⟩
  · rw [if_neg hs]
    obtain ⟨h', e, r⟩ := hbe (nI 1) (Or.inr rfl) (by rw [if_neg hs]; rfl)
    exact ⟨h', by simp only [S96, gFs, pFs, okq, bls, bo_true, eUp_at, eUp_eUp, eKls, cl_some, Option.toList_some, Option.toList_none, List.cons_append, List.nil_append, e], r⟩
