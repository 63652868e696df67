/-! WHOLE: comparing sizes -/
theorem div_succ (m j : Nat) : m / BB ^ j = m / BB ^ (j + 1) * BB + dgt m j := by
  unfold dgt
  rw [Nat.pow_succ, ← Nat.div_div_eq_div_mul]
  have := Nat.div_add_mod (m / BB ^ j) BB
  rw [Nat.mul_comm]
  omega
theorem cmp_lt {x y j : Nat} (h : x / BB ^ (j + 1) = y / BB ^ (j + 1)) (hd : dgt x j < dgt y j) : x < y := by
  have h1 := div_succ x j
  have h2 := div_succ y j
  rw [h] at h1
  by_cases hxy : x < y
  · exact hxy
  · have := Nat.div_le_div_right (c := BB ^ j) (Nat.not_lt.mp hxy)
    omega
theorem d97_loop {h : eH} {a b N M n x y : Nat} {s1 b1 s2 b2 : Int32} {f g : Nat → Int32} (w : WR h a N s1 b1 f) (v : WR h b M s2 b2 g) (hN : N < 2 ^ 31) (hM : M < 2 ^ 31) (hn1 : n ≤ N) (hn2 : n ≤ M) (hf : ∀ i, i < n → f i = nI (dgt x i)) (hg : ∀ i, i < n → g i = nI (dgt y i)) : ∀ j, j ≤ n → x / BB ^ j = y / BB ^ j → ∃ c : Int32, ru 97 28 [some (.ref a), some (.ref b), some (.int (nI j - nI 1))] [] h = some (some (.int c), h) ∧ (c < 0 ↔ x < y) ∧ (c = 0 ↔ x = y) := by
  intro j
  induction j with
  | zero =>
    intro _ he
    rw [Nat.pow_zero, Nat.div_one, Nat.div_one] at he
    refine ⟨nI 0, ?_, ?_, ?_⟩
    · rw [H97_28]
      simp only [S97]
      rw [if_pos (by decide), H97_67]
      simp only [S97]
    · exact ⟨fun e => absurd e (by decide), fun e => by omega⟩
    · exact ⟨fun _ => he, fun _ => nI_0⟩
  | succ j ih =>
    intro hj he
    have hb := bb31
    have l1 := dgt_lt x j
    have l2 := dgt_lt y j
    rw [H97_28]
    simp only [S97, w.1, w.2, v.1, v.2, gFs, eKls]
    rw [nI_sub1, if_neg (nI_pos (by omega)), aI_nI (by omega) hN, aI_nI (by omega) hM, hf j (by omega), hg j (by omega)]
    by_cases hd : dgt x j = dgt y j
    · rw [if_pos (by rw [hd])]
      have := ih (by omega) (by rw [div_succ x j, div_succ y j, he, hd])
      rw [show nI j + (-1) = nI j - nI 1 by rw [Int32.sub_eq_add_neg]; rfl]
      exact this
    · rw [if_neg (fun e => hd ((nI_eq (by omega) (by omega)).mp e)), aI_nI (by omega) hN, aI_nI (by omega) hM, hf j (by omega), hg j (by omega)]
      refine ⟨_, rfl, ?_, ?_⟩
      · have ht := pk_sub_toInt (a := dgt x j) (b := dgt y j) (by unfold BB at l1; omega) (by unfold BB at l2; omega)
        rw [Int32.lt_iff_toInt_lt, ht]
        show (dgt x j : Int) - dgt y j < 0 ↔ x < y
        constructor
        · intro e; exact cmp_lt he (by omega)
        · intro e
          by_cases hlt : dgt x j < dgt y j
          · omega
          · have := cmp_lt he.symm (show dgt y j < dgt x j by omega)
            omega
      · have ht := pk_sub_toInt (a := dgt x j) (b := dgt y j) (by unfold BB at l1; omega) (by unfold BB at l2; omega)
        constructor
        · intro e
          rw [e] at ht
          have : (0 : Int) = (dgt x j : Int) - dgt y j := ht
          omega
        · intro e
          exact absurd (by rw [e]) hd
theorem d97 {h : eH} {a b N M : Nat} {x y : Int} (w : WV h a N x) (v : WV h b M y) (hN : N < 2 ^ 30) (hM : M < 2 ^ 30) : ∃ c : Int32, den 97 [.ref a, .ref b] h = some (some (.int c), h) ∧ (c < 0 ↔ x.natAbs < y.natAbs) ∧ (c = 0 ↔ x.natAbs = y.natAbs) := by
  obtain ⟨f, w1, w3, w4⟩ := w
  obtain ⟨g, v1, v3, v4⟩ := v
  by_cases hs : nd x.natAbs = nd y.natAbs
  · have := d97_loop w1 v1 (by omega) (by omega) w3 (by omega) w4 (fun i hi => v4 i (by omega)) (nd x.natAbs) (Nat.le_refl _) (by rw [Nat.div_eq_of_lt (lt_nd _), Nat.div_eq_of_lt (by rw [hs]; exact lt_nd _)])
    obtain ⟨c, hc, r⟩ := this
    refine ⟨c, ?_, r⟩
    rw [E97 a _ w1.1]
    simp only [S97, w1.1, v1.1, gFs, eKls]
    rw [if_pos (by rw [hs])]
    exact hc
  · refine ⟨nI (nd x.natAbs) - nI (nd y.natAbs), ?_, ?_, ?_⟩
    · rw [E97 a _ w1.1]
      simp only [S97, w1.1, v1.1, gFs, eKls]
      rw [if_neg (fun e => hs ((nI_eq (by omega) (by omega)).mp e))]
    · rw [Int32.lt_iff_toInt_lt, pk_sub_toInt (by omega) (by omega)]
      show (nd x.natAbs : Int) - nd y.natAbs < 0 ↔ _
      constructor
      · intro e
        by_cases hlt : x.natAbs < y.natAbs
        · exact hlt
        · have := nd_mono (Nat.not_lt.mp hlt)
          omega
      · intro e
        have := nd_mono (Nat.le_of_lt e)
        omega
    · have ht := pk_sub_toInt (a := nd x.natAbs) (b := nd y.natAbs) (by omega) (by omega)
      constructor
      · intro e
        rw [e] at ht
        have : (0 : Int) = (nd x.natAbs : Int) - nd y.natAbs := ht
        omega
      · intro e
        exact absurd (by rw [e]) hs
