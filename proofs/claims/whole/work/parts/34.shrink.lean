/-! WHOLE: shrink -/
theorem shr_step (X m j : Nat) (hm : 0 < m) : (X / BB ^ (j + 1) % m * BB + dgt X j) / m = dgt (X / m) j ∧ (X / BB ^ (j + 1) % m * BB + dgt X j) % m = X / BB ^ j % m := by
  have h1 := div_succ X j
  have hd := dgt_lt X j
  have hA := Nat.div_add_mod (X / BB ^ (j + 1)) m
  have hR := Nat.mod_lt (X / BB ^ (j + 1)) hm
  generalize X / BB ^ (j + 1) / m = K at hA
  generalize hRe : X / BB ^ (j + 1) % m = R at hA hR ⊢
  have h2 : X / BB ^ j = m * (K * BB) + (R * BB + dgt X j) := by
    rw [h1, ← hA, Nat.add_mul, Nat.mul_assoc]
    omega
  constructor
  · have h3 : dgt (X / m) j = X / BB ^ j / m % BB := by
      unfold dgt
      rw [Nat.div_div_eq_div_mul, Nat.div_div_eq_div_mul, Nat.mul_comm]
    have h4 : (R * BB + dgt X j) / m < BB := by
      rw [Nat.div_lt_iff_lt_mul hm]
      have : (R + 1) * BB ≤ m * BB := Nat.mul_le_mul_right _ hR
      rw [Nat.add_mul, Nat.one_mul, Nat.mul_comm m] at this
      omega
    rw [h3, h2, Nat.mul_add_div hm, Nat.add_comm (K * BB), Nat.add_mul_mod_self_right, Nat.mod_eq_of_lt h4]
  · rw [h2, Nat.mul_add_mod]
def ovh (f : Nat → Int32) (Q j n : Nat) : Nat → Int32 := fun t => if j ≤ t ∧ t < n then nI (dgt Q t) else f t
theorem ovh_upd (f : Nat → Int32) (Q j n : Nat) (hj : j < n) : upd (ovh f Q (j + 1) n) j (nI (dgt Q j)) = ovh f Q j n := by
  funext t
  unfold upd ovh
  by_cases h1 : t = j
  · subst h1; rw [if_pos rfl, if_pos ⟨Nat.le_refl _, hj⟩]
  · rw [if_neg h1]
    by_cases h2 : j + 1 ≤ t ∧ t < n
    · rw [if_pos h2, if_pos ⟨by omega, h2.2⟩]
    · rw [if_neg h2, if_neg (by omega)]
theorem ovh_n (f : Nat → Int32) (Q n : Nat) : ovh f Q n n = f := by
  funext t
  unfold ovh
  rw [if_neg (by omega)]
theorem d116_loop {h : eH} {a N X m n : Nat} {sz bl : Int32} {f : Nat → Int32} (hm0 : 0 < m) (hm : m ≤ BB) (wa : WR h a N sz bl f) (hN : N < 2 ^ 31) (hn : n ≤ N) (hf : ∀ i, i < n → f i = nI (dgt X i)) :
    ∀ j, j ≤ n → ∀ x5 x6 : Option Value, ∃ i9 x5' x6', ru 116 10 [some (.ref a), some (.int (nI m)), some (.long (lN (X / BB ^ j % m))), none, some (.int (nI j - nI 1)), x5, x6] [] (eUp h (a + 1) (.inl (0, N, .inl (ovh f (X / m) j n)))) =
      ru 116 60 [some (.ref a), some (.int (nI m)), some (.long (lN (X % m))), none, some (.int i9), x5', x6'] [] (eUp h (a + 1) (.inl (0, N, .inl (ovh f (X / m) 0 n)))) := by
  intro j
  induction j with
  | zero =>
    intro _ x5 x6
    refine ⟨nI 0 - nI 1, x5, x6, ?_⟩
    rw [H116_10]
    simp only [S116]
    rw [if_pos (by decide), Nat.pow_zero, Nat.div_one]
  | succ j ih =>
    intro hj x5 x6
    have hB : BB = 1000000000 := rfl
    have hd := dgt_lt X j
    have hR := Nat.mod_lt (X / BB ^ (j + 1)) hm0
    have hRB : X / BB ^ (j + 1) % m * 1000000000 ≤ 1000000000 * 1000000000 := Nat.mul_le_mul_right _ (by omega)
    have wa2 : ∀ e, (eUp h (a + 1) e).1 a = .inr (9, [.ref (a + 1), .int sz, .int bl]) := fun e => (eUp_ne (ne1 a).symm).trans wa.1
    have hov : ovh f (X / m) (j + 1) n j = nI (dgt X j) := by
      unfold ovh
      rw [if_neg (by omega), hf j (by omega)]
    obtain ⟨s1, s2⟩ := shr_step X m j hm0
    have s1 : (X / BB ^ (j + 1) % m * 1000000000 + dgt X j) / m = dgt (X / m) j := s1
    have s2 : (X / BB ^ (j + 1) % m * 1000000000 + dgt X j) % m = X / BB ^ j % m := s2
    rw [H116_10]
    simp only [S116, eKls, wa2, gFs, eUp_at]
    rw [nI_sub1, if_neg (nI_pos (by omega)), if_neg (nI_nle hm0 (by omega)), aI_nI (by omega) hN, hov, nI_l (n := dgt X j) (by omega), nI_l (n := m) (by omega), lN_mul, lN_add]
    have hne : ¬ lN m = 0 := fun e => by
      have := (pk_lEQ (a := m) (b := 0) (by omega) (by decide)).mp e
      omega
    simp only [hne, if_false]
    rw [pk_lRem (by omega) hm0 (by omega), pk_lDiv (by omega) hm0 (by omega), lN_i, s1, s2]
    obtain ⟨i9, x5', x6', hih⟩ := ih (by omega) (some (.long (lN (X / BB ^ (j + 1) % m * 1000000000 + dgt X j)))) none
    refine ⟨i9, x5', x6', ?_⟩
    rw [← hih, wI_nI (by omega) hN, eUp_eUp, ovh_upd _ _ _ _ (by omega), show nI j + (-1) = nI j - nI 1 by rw [Int32.sub_eq_add_neg]; rfl]
theorem d116 {h : eH} {a N m : Nat} {z : Int} (wa : WV h a N z) (hN : N < 2 ^ 30) (hm0 : 0 < m) (hm : m ≤ BB) : ∃ h', den 116 [.ref a, .int (nI m)] h = some (some (.int (nI (z.natAbs % m))), h') ∧ F2 a h h' ∧ WV h' a N (if z < 0 then -((z.natAbs / m : Nat) : Int) else ((z.natAbs / m : Nat) : Int)) := by
  obtain ⟨f, w1, w3, w4⟩ := wa
  have hB : BB = 1000000000 := rfl
  obtain ⟨i9, x5', x6', hl⟩ := d116_loop hm0 hm w1 (by omega) w3 w4 (nd z.natAbs) (Nat.le_refl _) none none
  rw [ovh_n, eUp_id w1.2, Nat.div_eq_of_lt (lt_nd _), Nat.zero_mod] at hl
  generalize hH : eUp h (a + 1) (.inl (0, N, .inl (ovh f (z.natAbs / m) 0 (nd z.natAbs)))) = H at hl
  have w2 : WR H a N (nI (nd z.natAbs)) (sb z) (ovh f (z.natAbs / m) 0 (nd z.natAbs)) := by
    rw [← hH]
    exact ⟨(eUp_ne (ne1 a).symm).trans w1.1, eUp_at ..⟩
  have hmin : (if nd z.natAbs < N then nd z.natAbs else N) = nd z.natAbs := by split <;> omega
  have hVl : z.natAbs / m < BB ^ nd z.natAbs := Nat.lt_of_le_of_lt (Nat.div_le_self _ _) (lt_nd _)
  have hdg : ∀ i, i < nd z.natAbs → ovh f (z.natAbs / m) 0 (nd z.natAbs) i = nI (dgt (z.natAbs / m) i) := by
    intro i hi
    unfold ovh
    rw [if_pos ⟨Nat.zero_le _, hi⟩]
  have htr := d95 (l := nd z.natAbs) (v := z.natAbs / m) w2 (sb01 z) (by omega) (by omega) (by rw [hmin]; exact hdg) (by rw [hmin]; exact hVl)
  generalize hVd : z.natAbs / m = V at *
  have e1 : (if z < 0 then -(V : Int) else V).natAbs = V := by split <;> omega
  have e2 : (if V = 0 then 0 else sb z) = sb (if z < 0 then -(V : Int) else V) := by
    unfold sb
    by_cases h0 : V = 0
    · rw [if_pos h0, h0]
      split <;> simp
    · rw [if_neg h0]
      by_cases hz : z < 0
      · rw [if_pos hz, if_pos hz, if_pos (by omega)]
      · rw [if_neg hz, if_neg hz, if_neg (by omega)]
  have hml := Nat.mod_lt z.natAbs hm0
  refine ⟨eUp H a (.inr (9, [.ref (a + 1), .int (nI (nd V)), .int (if V = 0 then 0 else sb z)])), ?_, ?_, ovh f V 0 (nd z.natAbs), ⟨?_, ?_⟩, ?_, ?_⟩
  · rw [E116 a _ w1.1]
    simp only [S116, w1.1, gFs, eKls]
    rw [hl, H116_60]
    simp only [S116, w2.1, gFs, htr, cl_some, Option.toList_none, List.nil_append]
    rw [lN_i]
  · rw [← hH]
    exact (F2.up1 a h _).trans (F2.up a _ _)
  · rw [eUp_at, e1, e2]
  · rw [eUp_ne (ne1 a)]
    exact w2.2
  · rw [e1]
    have := nd_le.mpr hVl
    omega
  · rw [e1]
    intro i hi
    have := nd_le.mpr hVl
    exact hdg i (by omega)
