/-! DIVIDER: divide -/
theorem dgt_glue {low a W i : Nat} (h : low < BB ^ a) : dgt (low + BB ^ a * W) i = if i < a then dgt low i else dgt W (i - a) := by
  by_cases hi : i < a
  · rw [if_pos hi, ← dgt_mod (n := a) hi, Nat.add_mul_mod_self_left, Nat.mod_eq_of_lt h]
  · rw [if_neg hi]
    have e : (low + BB ^ a * W) / BB ^ a = W := by rw [Nat.add_mul_div_left _ _ (BP_pos a), Nat.div_eq_of_lt h, Nat.zero_add]
    rw [← e, dgt_div, show a + (i - a) = i by omega, e]
/-- a stretched divisor's first part is at least half of BB -/
theorem stretch_half {t : Nat} (h1 : 0 < t) (h2 : t < BB) : BB ≤ 2 * (t * (BB / (t + 1))) ∧ (t + 1) * (BB / (t + 1)) ≤ BB ∧ 0 < BB / (t + 1) ∧ BB / (t + 1) < BB := by
  have hB : BB = 1000000000 := rfl
  have hm := Nat.mod_add_div BB (t + 1)
  have hl := Nat.mod_lt BB (show 0 < t + 1 by omega)
  have hq0 : 0 < BB / (t + 1) := Nat.div_pos (by omega) (by omega)
  have hq1 : BB / (t + 1) < BB := Nat.div_lt_self (by omega) (by omega)
  refine ⟨?_, by omega, hq0, hq1⟩
  generalize BB / (t + 1) = q at *
  rw [Nat.add_mul, Nat.one_mul] at hm
  by_cases ht : t = 1
  · subst ht
    omega
  · by_cases hq : q = 1
    · subst hq
      omega
    · obtain ⟨t', rfl⟩ : ∃ t', t = t' + 2 := ⟨t - 2, by omega⟩
      obtain ⟨q', rfl⟩ : ∃ q', q = q' + 2 := ⟨q - 2, by omega⟩
      have e : (t' + 2) * (q' + 2) = t' * q' + 2 * t' + 2 * q' + 4 := by grind
      omega
theorem d120_loop {h : eH} {r n D R len dg : Nat} {bs qs qb : Int32} {fs : Nat → Int32} (hd : DV h) (ws : WR h 24 36 (nI n) bs fs) (hn : n ≤ 36) (hn0 : 0 < n) (hfs : ∀ i, i < n → fs i = nI (dgt D i)) (hD : D < BB ^ n) (hD2 : BB ^ n ≤ 2 * D) (hr : 29 < r ∨ r = 26 ∨ r = 28 ∨ r < 20) {sr br : Int32} {by0 : Nat} {x3 x4 x5 : Option Value} {x6 : Int32} (hlen : len ≤ 35) (hdg : dg + n = len + 1) (hR : R < BB ^ len) :
    ∀ j, j ≤ dg → ∀ (H : eH) (G F : Nat → Int32), (∀ i, i ≠ 23 → i ≠ r + 1 → H.1 i = h.1 i) → H.1 23 = .inl (0, 36, .inl G) → H.1 (r + 1) = .inl (0, 36, .inl F) → h.1 22 = .inr (9, [.ref 23, .int qs, .int qb]) → h.1 r = .inr (9, [.ref (r + 1), .int sr, .int br]) → (∀ i, i ≤ len → F i = nI (dgt (R % (D * BB ^ j)) i)) → (∀ i, j ≤ i → i < dg → G i = nI (dgt (R / D) i)) →
      ∃ H' G' F', ru 120 167 [some (.ref 21), some (.ref r), some (.ref by0), x3, x4, x5, some (.int x6), some (.int (nI j - nI 1))] [] H = ru 120 198 [some (.ref 21), some (.ref r), some (.ref by0), x3, x4, x5, some (.int x6), some (.int (-1))] [] H' ∧ H'.2 = H.2 ∧ (∀ i, i ≠ 23 → i ≠ r + 1 → H'.1 i = h.1 i) ∧ H'.1 23 = .inl (0, 36, .inl G') ∧ H'.1 (r + 1) = .inl (0, 36, .inl F') ∧ (∀ i, i ≤ len → F' i = nI (dgt (R % D) i)) ∧ (∀ i, i < dg → G' i = nI (dgt (R / D) i)) := by
  have hD0 : 0 < D := by have := BP_pos n; omega
  intro j
  induction j with
  | zero =>
    intro _ H G F hH hG hF _ _ hFd hGd
    refine ⟨H, G, F, ?_, rfl, hH, hG, hF, ?_, fun i hi => hGd i (Nat.zero_le _) hi⟩
    · rw [H120_167]
      simp only [S120, gFs, pFs, okq, bls, bo_true, eUp_at, eUp_eUp, eKls, cl_some, Option.toList_some, Option.toList_none, List.cons_append, List.nil_append]
      rw [if_pos (by decide)]
      rfl
    · rw [Nat.pow_zero, Nat.mul_one] at hFd
      exact hFd
  | succ j ih =>
    intro hj H G F hH hG hF h22 hrr hFd hGd
    have e21 : H.1 21 = .inr (2, [.ref 22, .ref 24, .ref 26, .ref 28]) := (hH 21 (by decide) (by omega)).trans hd
    have e24 : H.1 24 = .inr (9, [.ref 25, .int (nI n), .int bs]) := (hH 24 (by decide) (by omega)).trans ws.1
    have e25 : H.1 25 = .inl (0, 36, .inl fs) := (hH 25 (by decide) (by omega)).trans ws.2
    have e22 : H.1 22 = .inr (9, [.ref 23, .int qs, .int qb]) := (hH 22 (by decide) (by omega)).trans h22
    have er : H.1 r = .inr (9, [.ref (r + 1), .int sr, .int br]) := (hH r (by omega) (by omega)).trans hrr
    have hPj := BP_pos j
    -- what the digit is taken from
    have hRlt : R % (D * BB ^ (j + 1)) < D * BB ^ (j + 1) := Nat.mod_lt _ (Nat.mul_pos hD0 (BP_pos _))
    have hTD : R % (D * BB ^ (j + 1)) / BB ^ j < D * BB := by
      rw [Nat.div_lt_iff_lt_mul hPj, Nat.mul_assoc, Nat.mul_comm BB, ← Nat.pow_succ]
      exact hRlt
    have hT : R % (D * BB ^ (j + 1)) / BB ^ j < BB ^ (n + 1) := by
      refine Nat.lt_of_lt_of_le hTD ?_
      rw [Nat.pow_succ]
      exact Nat.mul_le_mul_right _ (Nat.le_of_lt hD)
    obtain ⟨F', ht, hF1, hF2⟩ := d119 (h := H) (p := r + 1) (N := 36) (n := n) (at0 := j) (D := D) (T := R % (D * BB ^ (j + 1)) / BB ^ j) (bs := bs) (fs := fs) e21 ⟨e24, e25⟩ hn hn0 hfs (by omega) (by omega) (by omega) (by decide) (by omega) hF (by
      intro i hi
      rw [hFd (j + i) (by omega), dgt_div]) hD hD2 hT hTD
    have hq : R % (D * BB ^ (j + 1)) / BB ^ j / D = dgt (R / D) j := by
      unfold dgt
      rw [Nat.div_div_eq_div_mul, Nat.div_div_eq_div_mul, Nat.mul_comm (BB ^ j) D, Nat.pow_succ, ← Nat.mul_assoc, Nat.mod_mul_right_div_self]
    have hrem : R % (D * BB ^ j) = R % (D * BB ^ (j + 1)) % BB ^ j + BB ^ j * (R % (D * BB ^ (j + 1)) / BB ^ j % D) := by
      rw [← Nat.mod_mul, Nat.mul_comm (BB ^ j) D, Nat.pow_succ, ← Nat.mul_assoc, Nat.mod_mul_right_mod]
    have hdl := dgt_lt (R / D) j
    have hstep : ru 120 167 [some (.ref 21), some (.ref r), some (.ref by0), x3, x4, x5, some (.int x6), some (.int (nI (j + 1) - nI 1))] [] H = ru 120 167 [some (.ref 21), some (.ref r), some (.ref by0), x3, x4, x5, some (.int x6), some (.int (nI j - nI 1))] [] (eUp (eUp H (r + 1) (.inl (0, 36, .inl F'))) 23 (.inl (0, 36, .inl (upd G j (nI (dgt (R / D) j)))))) := by
      rw [H120_167]
      simp only [S120, gFs, pFs, okq, bls, bo_true, eUp_at, eUp_eUp, eKls, cl_some, Option.toList_some, Option.toList_none, List.cons_append, List.nil_append, e22, e21, er, nI_sub1, ht]
      rw [if_neg (nI_pos (by omega)), eUp_ne (show 23 ≠ r + 1 by omega), hG, wI_nI (by omega) (by decide), hq, show nI j + (-1) = nI j - nI 1 by rw [Int32.sub_eq_add_neg]; rfl]
    obtain ⟨H', G', F'', q1, q2, q3⟩ := ih (by omega) (eUp (eUp H (r + 1) (.inl (0, 36, .inl F'))) 23 (.inl (0, 36, .inl (upd G j (nI (dgt (R / D) j)))))) (upd G j (nI (dgt (R / D) j))) F' (by
        intro i h1 h2
        rw [eUp_ne h1, eUp_ne h2]
        exact hH i h1 h2) (eUp_at ..) ((eUp_ne (by omega)).trans (eUp_at ..)) h22 hrr (by
        intro i hi
        rw [hrem, dgt_glue (mod_lt' _ _)]
        by_cases hij : i < j
        · rw [if_pos hij, hF2 i (Or.inl hij), hFd i hi, dgt_mod hij]
        · rw [if_neg hij]
          by_cases hin : i ≤ j + n
          · have := hF1 (i - j) (by omega)
            rw [show j + (i - j) = i by omega] at this
            exact this
          · rw [hF2 i (Or.inr (by omega)), hFd i hi]
            have a1 : nd (R % (D * BB ^ (j + 1))) ≤ i := by
              refine nd_le.mpr (Nat.lt_of_lt_of_le hRlt ?_)
              calc D * BB ^ (j + 1) ≤ BB ^ n * BB ^ (j + 1) := Nat.mul_le_mul_right _ (Nat.le_of_lt hD)
                _ = BB ^ (n + (j + 1)) := (Nat.pow_add ..).symm
                _ ≤ BB ^ i := Nat.pow_le_pow_right BB_pos (by omega)
            rw [dgt_big a1, dgt_big]
            refine nd_le.mpr (Nat.lt_of_lt_of_le (Nat.mod_lt _ hD0) (Nat.le_trans (Nat.le_of_lt hD) (Nat.pow_le_pow_right BB_pos (by omega))))) (by
        intro i h1 h2
        unfold upd
        by_cases hij : i = j
        · subst hij; rw [if_pos rfl]
        · rw [if_neg hij]
          exact hGd i (by omega) h2)
    exact ⟨H', G', F'', hstep.trans q1, q2, q3⟩
