/-! WHOLE: parts, copies, trimming, comparing -/
theorem nI_m1 (j : Nat) : nI (j + 1) - 1 = nI j := nI_pred j
theorem nI_0m1 : (nI 0 - nI 1) = -1 := by decide
theorem nI_sub1 (j : Nat) : nI (j + 1) - nI 1 = nI j := by
  rw [show (nI 1) = 1 by decide]
  exact nI_pred j
theorem nI_dec (j : Nat) : nI (j + 1) + (-1) = nI j := pk_m1 j
theorem bb31 : BB < 2 ^ 31 := by decide
theorem d98 {h : eH} {a N : Nat} {z : Int} (w : WV h a N z) (hN : N < 2 ^ 31) (i : Nat) (hi : i < 2 ^ 31) : den 98 [.ref a, .int (nI i)] h = some (some (.int (nI (dgt z.natAbs i))), h) := by
  obtain ⟨f, ⟨w1, w2⟩, h1, h2⟩ := w
  rw [E98 a _ w1]
  simp only [S98, w1, w2, gFs]
  rw [if_neg (nI_pos hi)]
  by_cases hc : i < nd z.natAbs
  · rw [if_neg (nI_ge hc (by omega)), aI_nI (by omega) hN, h2 i hc]
  · rw [if_pos (nI_le (by omega) hi), dgt_big (by omega)]
theorem d98n {h : eH} {a N : Nat} {z : Int} (w : WV h a N z) (i : Int32) (hi : i < 0) : den 98 [.ref a, .int i] h = some (some (.int (nI 0)), h) := by
  obtain ⟨f, ⟨w1, w2⟩, h1, h2⟩ := w
  rw [E98 a _ w1]
  simp only [S98, w1, w2, gFs]
  rw [if_pos hi]
theorem nd_1 : nd 1 = 1 := by
  have h1 := (nd_le (m := 1) (n := 1)).mpr (by decide)
  have h2 : nd 1 ≠ 0 := fun e => absurd (nd_eq0.mp e) (by decide)
  omega
theorem nd_small {m : Nat} (h0 : 0 < m) (h : m < BB) : nd m = 1 := by
  have h1 := (nd_le (m := m) (n := 1)).mpr (by rw [Nat.pow_one]; exact h)
  have h2 : nd m ≠ 0 := fun e => by have := nd_eq0.mp e; omega
  omega
theorem dgt_small {m : Nat} (h : m < BB) : dgt m 0 = m := by
  unfold dgt
  rw [Nat.pow_zero, Nat.div_one, Nat.mod_eq_of_lt h]
theorem d128 {h : eH} {a N : Nat} {z : Int} (w : WV h a N z) (hN : N < 2 ^ 31) : den 128 [.ref a] h = some (some (.int (if z.natAbs = 1 then nI 1 else nI 0)), h) := by
  obtain ⟨f, ⟨w1, w2⟩, h1, h2⟩ := w
  rw [E128 a w1]
  simp only [S128, w1, w2, gFs, bls, bo_true]
  by_cases hn : nd z.natAbs = 1
  · rw [if_pos (by rw [hn]), aI_nI (by omega) hN, h2 0 (by omega)]
    have hlt : z.natAbs < BB := by have := lt_nd z.natAbs; rw [hn, Nat.pow_one] at this; exact this
    rw [dgt_small hlt]
    have := bb31
    by_cases hz : z.natAbs = 1
    · rw [if_pos hz, if_pos (by rw [hz])]
    · rw [if_neg hz, if_neg (fun e => hz ((nI_eq (by omega) (by decide)).mp e))]
  · rw [if_neg (fun e => hn ((nI_eq (by omega) (by decide)).mp e)), if_neg (fun e => hn (by rw [e]; exact nd_1))]
/-- become(int), |v| below BASE -/
theorem d112 {h : eH} {a N : Nat} {sz bl : Int32} {f : Nat → Int32} (w : WR h a N sz bl f) (hN : N < 2 ^ 31) (hN0 : 0 < N) (v : Int32) (hv : v.toInt.natAbs < BB) : ∃ h', den 112 [.ref a, .int v] h = some (none, h') ∧ F2 a h h' ∧ WV h' a N v.toInt := by
  rw [E112 a _ w.1]
  simp only [S112, w.1, w.2, gFs, d5, cl_some, Option.toList_some, List.cons_append, List.nil_append]
  rw [wI_nI hN0 hN]
  simp only [S112, eUp_ne (ne1 a).symm, w.1, gFs, pFs, okq, bls, bo_true, eUp_at, eUp_eUp]
  have habs : (if 0 ≤ v then v else -v) = nI v.toInt.natAbs := by
    have hb := bb31
    by_cases h0 : 0 ≤ v
    · rw [if_pos h0]
      have : 0 ≤ v.toInt := by simpa using Int32.le_iff_toInt_le.mp h0
      apply Int32.toInt_inj.mp
      rw [nI_toInt (by omega)]
      omega
    · rw [if_neg h0]
      have : v.toInt < 0 := by
        have := Int32.not_le.mp h0
        simpa using Int32.lt_iff_toInt_lt.mp this
      apply Int32.toInt_inj.mp
      rw [nI_toInt (by omega), Int32.toInt_neg]
      have h1 : -v.toInt = (v.toInt.natAbs : Int) := by omega
      rw [h1]
      have hb2 : v.toInt.natAbs < 1000000000 := hv
      simp only [Int.bmod]
      omega
  rw [habs]
  have hz : (v = 0) ↔ v.toInt = 0 := by
    constructor
    · intro e; rw [e]; rfl
    · intro e; exact Int32.toInt_inj.mp e
  have hge : (0 ≤ v) ↔ 0 ≤ v.toInt := by
    constructor
    · intro e; simpa using Int32.le_iff_toInt_le.mp e
    · intro e; exact Int32.le_iff_toInt_le.mpr (by simpa using e)
  have fin : ∀ (s b : Int32), s = nI (nd v.toInt.natAbs) → b = sb v.toInt → ∃ h', some ((none : Option Value), eUp (eUp h (a + 1) (.inl (0, N, .inl (upd f 0 (nI v.toInt.natAbs))))) a (.inr (9, [.ref (a + 1), .int s, .int b]))) = some (none, h') ∧ F2 a h h' ∧ WV h' a N v.toInt := by
    intro s b hs hb
    refine ⟨_, rfl, (F2.up1 a h _).trans (F2.up a _ _), upd f 0 (nI v.toInt.natAbs), ⟨?_, ?_⟩, ?_, ?_⟩
    · rw [eUp_at, hs, hb]
    · rw [eUp_ne (ne1 a), eUp_at]
    · by_cases h0 : v.toInt.natAbs = 0
      · rw [h0, nd_0]; omega
      · rw [nd_small (by omega) hv]; omega
    · intro i hi
      have : i = 0 := by
        by_cases h0 : v.toInt.natAbs = 0
        · rw [h0, nd_0] at hi; omega
        · rw [nd_small (by omega) hv] at hi; omega
      subst this
      rw [dgt_small hv]
      simp [upd]
  by_cases h0 : v = 0
  · have h0' := hz.mp h0
    rw [if_pos h0, if_pos (hge.mpr (by omega))]
    exact fin _ _ (by rw [h0', show (0 : Int).natAbs = 0 from rfl, nd_0]) (by unfold sb; rw [if_neg (by omega)]; decide)
  · have h0' : v.toInt ≠ 0 := fun e => h0 (hz.mpr e)
    rw [if_neg h0]
    by_cases hp : 0 ≤ v
    · have := hge.mp hp
      rw [if_pos hp]
      exact fin _ _ (by rw [nd_small (by omega) hv]) (by unfold sb; rw [if_neg (by omega)]; decide)
    · have : ¬ 0 ≤ v.toInt := fun e => hp (hge.mpr e)
      rw [if_neg hp]
      exact fin _ _ (by rw [nd_small (by omega) hv]) (by unfold sb; rw [if_pos (by omega)]; decide)
/-- become(Whole) where it fits -/
theorem d84 {h : eH} {a b N M : Nat} {sz bl : Int32} {f : Nat → Int32} {z : Int} (w : WR h a N sz bl f) (v : WV h b M z) (hab : a ≠ b) (hN : N < 2 ^ 31) (hM : M < 2 ^ 31) (hfit : nd z.natAbs ≤ N) : ∃ h', den 84 [.ref a, .ref b] h = some (none, h') ∧ F2 a h h' ∧ WV h' a N z := by
  obtain ⟨g, v, v3, v4⟩ := v
  obtain ⟨n1, n2⟩ := w.apart v
  obtain ⟨v1, v2⟩ := v
  rw [E84 a _ w.1]
  simp only [S84, w.1, w.2, v1, gFs]
  rw [aN_sf (by decide)]
  have hmin : (if nI N < nI (nd z.natAbs) then nI N else nI (nd z.natAbs)) = nI (nd z.natAbs) := if_neg (nI_nlt hfit hN)
  have hb1 : b ≠ a := Ne.symm hab
  have hb2 : b + 1 ≠ a := fun e => n2 e.symm
  simp only [S84, d9, hmin, cl_some, Option.toList_some, List.cons_append, List.nil_append, w.1, gFs, pFs, okq, bls, bo_true, eUp_at, eUp_eUp, eUp_ne hb1, v1]
  have hbs : (sb z == 0 || sb z == 1) = true := by rcases sb01 z with e | e <;> rw [e] <;> decide
  simp only [hbs, bo_true, S84, eUp_at, eUp_ne hb1, v1, gFs]
  simp only [cP, eUp_ne hb2, v2, eUp_ne (ne1 a), w.2, Nat.beq_refl, bo_true]
  rw [if_neg (by
    rw [nI_clamp (n := nd z.natAbs) (by omega), nI_clamp (n := 0) (by decide)]
    intro hc
    rcases hc with hc | hc | hc | hc | hc
    · exact absurd hc (by decide)
    · exact absurd hc (by decide)
    · exact nI_pos (by omega) hc
    · omega
    · omega)]
  refine ⟨_, rfl, (F2.up a h _).trans (F2.up1 a _ _), va_cpy g f 0 0 (nd z.natAbs), ⟨?_, ?_⟩, hfit, ?_⟩
  · rw [eUp_ne (ne1 a).symm, eUp_at]
  · rw [eUp_at, nI_clamp (n := nd z.natAbs) (by omega), nI_clamp (n := 0) (by decide)]
  · intro i hi
    rw [pk_cpy_in (Nat.zero_le _) (by omega), ← v4 i hi]
    congr 1
    omega
/-! trim: the number of parts is what is left of it -/
theorem d95_end {h : eH} {a N : Nat} {sz b0 : Int32} {f : Nat → Int32} {x1 x2 : Option Value} (w : WR h a N sz b0 f) (hb : b0 = 0 ∨ b0 = 1) (hs : 0 ≤ sz) : ru 95 53 [some (.ref a), x1, x2] [] h = some (none, eUp h a (.inr (9, [.ref (a + 1), .int sz, .int (if sz = 0 then 0 else b0)]))) := by
  rw [H95_53]
  simp only [S95, w.1, gFs, pFs, okq, bls, bo_true]
  rcases hb with e | e
  · subst e
    rw [if_pos rfl]
    congr 4
    rw [nI_0]
    split <;> rfl
  · subst e
    rw [if_neg (by decide)]
    by_cases h0 : sz = 0
    · subst h0
      rw [if_pos (by decide), if_pos rfl]
      rfl
    · have : ¬ sz ≤ 0 := fun e => h0 (Int32.le_antisymm e hs)
      rw [if_neg this, if_neg h0]
      rfl
theorem d95_loop {h : eH} {a N m v : Nat} {b0 : Int32} {f : Nat → Int32} {x1 s0 : Int32} (w : WR h a N s0 b0 f) (hb : b0 = 0 ∨ b0 = 1) (hN : N < 2 ^ 31) (hm : m ≤ N) (hf : ∀ i, i < m → f i = nI (dgt v i)) : ∀ j, nd v ≤ j → j ≤ m → ru 95 29 [some (.ref a), some (.int x1), some (.int (nI j - nI 1))] [] (eUp h a (.inr (9, [.ref (a + 1), .int (nI j), .int b0]))) = some (none, eUp h a (.inr (9, [.ref (a + 1), .int (nI (nd v)), .int (if v = 0 then 0 else b0)]))) := by
  have fin : ∀ (x2 : Option Value), ru 95 53 [some (.ref a), some (.int x1), x2] [] (eUp h a (.inr (9, [.ref (a + 1), .int (nI (nd v)), .int b0]))) = some (none, eUp h a (.inr (9, [.ref (a + 1), .int (nI (nd v)), .int (if v = 0 then 0 else b0)]))) ∨ N < nd v := by
    intro x2
    by_cases hv : N < nd v
    · exact Or.inr hv
    · refine Or.inl ?_
      rw [d95_end (h := eUp h a (.inr (9, [.ref (a + 1), .int (nI (nd v)), .int b0]))) (N := N) (f := f) ⟨eUp_at .., (eUp_ne (ne1 a)).trans w.2⟩ hb (nI_pos' (by omega)), eUp_eUp]
      by_cases h0 : v = 0
      · rw [if_pos h0, if_pos (by rw [h0, nd_0]; exact nI_0)]
      · rw [if_neg h0, if_neg (nI_ne0 (by have : nd v ≠ 0 := fun e => h0 (nd_eq0.mp e)
                                          omega) (by omega))]
  intro j
  induction j with
  | zero =>
    intro h1 h2
    rw [H95_29]
    have e : nd v = 0 := by omega
    simp only [S95]
    rw [if_pos (by decide)]
    rcases fin (some (.int (nI 0 - nI 1))) with g | g
    · rw [e] at g ⊢; exact g
    · omega
  | succ j ih =>
    intro h1 h2
    rw [H95_29]
    simp only [S95, eUp_at, eUp_ne (ne1 a), w.2, gFs, pFs, okq, bo_true, eUp_eUp, eKls]
    rw [nI_sub1, if_neg (nI_pos (by omega)), aI_nI (by omega) hN, hf j (by omega)]
    by_cases hd : dgt v j = 0
    · rw [if_pos (by rw [hd]; exact nI_0)]
      have hlt : nd v ≤ j := by
        by_cases hle : nd v ≤ j
        · exact hle
        · have e : nd v - 1 = j := by omega
          exact absurd hd (by rw [← e]; exact dgt_top (by omega))
      have := ih hlt (by omega)
      rw [show nI j + (-1) = nI j - nI 1 by rw [Int32.sub_eq_add_neg]; rfl]
      exact this
    · rw [if_neg (nI_ne0 (by omega) (by have := dgt_lt v j; have := bb31; omega))]
      have e : nd v = j + 1 := by
        by_cases hle : nd v ≤ j
        · exact absurd (dgt_big hle) hd
        · omega
      rcases fin (some (.int (nI j))) with g | g
      · rw [e] at g ⊢; exact g
      · omega
theorem d95 {h : eH} {a N l v : Nat} {s0 b0 : Int32} {f : Nat → Int32} (w : WR h a N s0 b0 f) (hb : b0 = 0 ∨ b0 = 1) (hN : N < 2 ^ 31) (hl : l < 2 ^ 31) (hf : ∀ i, i < (if l < N then l else N) → f i = nI (dgt v i)) (hv : v < BB ^ (if l < N then l else N)) : den 95 [.ref a, .int (nI l)] h = some (none, eUp h a (.inr (9, [.ref (a + 1), .int (nI (nd v)), .int (if v = 0 then 0 else b0)]))) := by
  have hlp := d95_loop (x1 := nI l) w hb hN (m := if l < N then l else N) (by split <;> omega) hf (if l < N then l else N) (nd_le.mpr hv) (Nat.le_refl _)
  rw [E95 a _ w.1]
  simp only [S95, w.1, w.2, gFs]
  rw [aN_sf (by decide)]
  by_cases hc : l < N
  · rw [if_pos hc] at hlp
    rw [if_neg (nI_ge hc hN)]
    simp only [pFs, okq, bo_true, eUp_at, gFs, eKls, S95]
    exact hlp
  · rw [if_neg hc] at hlp
    rw [if_pos (nI_le (by omega) hl), aN_sf (by decide)]
    simp only [pFs, okq, bo_true, eUp_at, gFs, eKls, S95]
    exact hlp
