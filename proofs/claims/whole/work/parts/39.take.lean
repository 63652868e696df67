/-! DIVIDER: takeDigit -/
def KR (F : Nat → Int32) (a n : Nat) (U : Int) : Prop := (∀ i, i < n → F (a + i) = nI (dgt (U % ((BB ^ n : Nat) : Int)).toNat i)) ∧ F (a + n) = iI (U / ((BB ^ n : Nat) : Int))
theorem mod_nat (U : Int) (n : Nat) : (((U % ((BB ^ n : Nat) : Int)).toNat : Nat) : Int) = U % ((BB ^ n : Nat) : Int) := Int.toNat_of_nonneg (Int.emod_nonneg _ (BPi n))
/-- the guess is at most two too high -/
theorem knuth {T D n : Nat} (hn : 0 < n) (hD : D < BB ^ n) (hD2 : BB ^ n ≤ 2 * D) (hT : T < BB ^ (n + 1)) (hTD : T < D * BB) {g : Nat} (hg : g = if BB - 1 < (dgt T n * BB + dgt T (n - 1)) / dgt D (n - 1) then BB - 1 else (dgt T n * BB + dgt T (n - 1)) / dgt D (n - 1)) : T / D ≤ g ∧ g ≤ T / D + 2 ∧ g < BB := by
  obtain ⟨m, rfl⟩ : ∃ m, n = m + 1 := ⟨n - 1, by omega⟩
  rw [Nat.add_sub_cancel] at hg
  have hP := BP_pos m
  have hBn : BB ^ (m + 1) = BB ^ m * BB := Nat.pow_succ ..
  have hd : dgt D m = D / BB ^ m := by
    unfold dgt
    rw [Nat.mod_eq_of_lt]
    rw [Nat.div_lt_iff_lt_mul hP, Nat.mul_comm, ← hBn]
    exact hD
  have hh : dgt T (m + 1) * BB + dgt T m = T / BB ^ m := by
    have h1 := div_succ T m
    have h2 : dgt T (m + 1) = T / BB ^ (m + 1) := by
      unfold dgt
      rw [Nat.mod_eq_of_lt]
      rw [Nat.div_lt_iff_lt_mul (BP_pos _), Nat.mul_comm, ← Nat.pow_succ]
      exact hT
    rw [h2]
    omega
  rw [hd, hh] at hg
  have hD0 : 0 < D := by
    have := BP_pos (m + 1)
    omega
  have hv : BB ^ m ≤ D := by
    have : 2 * BB ^ m ≤ BB ^ m * BB := by rw [Nat.mul_comm]; exact Nat.mul_le_mul_left _ (by decide)
    omega
  have hv1 : 0 < D / BB ^ m := Nat.div_pos hv hP
  have hq : T / D < BB := by
    rw [Nat.div_lt_iff_lt_mul hD0, Nat.mul_comm]
    exact hTD
  have hge : T / D ≤ T / BB ^ m / (D / BB ^ m) := by
    rw [Nat.le_div_iff_mul_le hv1, Nat.le_div_iff_mul_le hP]
    calc T / D * (D / BB ^ m) * BB ^ m = T / D * (D / BB ^ m * BB ^ m) := Nat.mul_assoc ..
      _ ≤ T / D * D := Nat.mul_le_mul_left _ (Nat.div_mul_le_self _ _)
      _ ≤ T := Nat.div_mul_le_self _ _
  have hgB : g < BB := by
    have := BB_pos
    rw [hg]
    split <;> omega
  have hgl : g ≤ T / BB ^ m / (D / BB ^ m) := by
    rw [hg]
    split <;> omega
  refine ⟨?_, ?_, hgB⟩
  · rw [hg]
    split <;> omega
  · have h1 : g * (D / BB ^ m) * BB ^ m ≤ T := by
      have a1 : g * (D / BB ^ m) ≤ T / BB ^ m := (Nat.le_div_iff_mul_le hv1).mp hgl
      exact (Nat.le_div_iff_mul_le hP).mp a1
    have h2 : D < D / BB ^ m * BB ^ m + BB ^ m := by
      have := Nat.mod_add_div D (BB ^ m)
      have := Nat.mod_lt D hP
      rw [Nat.mul_comm (D / BB ^ m)]
      omega
    have h3 : g * D ≤ g * (D / BB ^ m * BB ^ m + BB ^ m) := Nat.mul_le_mul_left _ (Nat.le_of_lt h2)
    rw [Nat.mul_add, ← Nat.mul_assoc] at h3
    have h4 : g * BB ^ m ≤ (BB - 1) * BB ^ m := Nat.mul_le_mul_right _ (by omega)
    have h5 : (BB - 1) * BB ^ m + BB ^ m = BB ^ m * BB := by
      rw [Nat.mul_comm (BB ^ m), ← Nat.succ_mul]
      rfl
    have h6 : g * D < T + 2 * D := by omega
    have h7 : g < T / D + 1 + 2 := by
      have a1 : T < (T / D + 1) * D := by
        have := Nat.mod_add_div T D
        have := Nat.mod_lt T hD0
        rw [Nat.add_mul, Nat.mul_comm (T / D)]
        omega
      have a2 : g * D < (T / D + 1 + 2) * D := by
        rw [Nat.add_mul (T / D + 1)]
        omega
      exact Nat.lt_of_mul_lt_mul_right a2
    omega
theorem borrow_step {t : Int} (h1 : -1000000001000000000 ≤ t) (h2 : t < 1000000000) : (if 0 ≤ lg_cmp (lI t) (lN 0) then lN 0 else (lN 999999999 - lI t) / lN 1000000000) = lI (-(t / 1000000000)) ∧ (lI t + lI (-(t / 1000000000)) * lN 1000000000).toInt32 = iI (t % 1000000000) := by
  have hok : lok t := ⟨by omega, by omega⟩
  have hge : 0 ≤ lg_cmp (lI t) (lN 0) ↔ 0 ≤ t := by
    rw [lg_ge0, lN_I]
    exact lI_le ⟨by decide, by decide⟩ hok
  constructor
  · by_cases h0 : 0 ≤ t
    · rw [if_pos (hge.mpr h0), show t / 1000000000 = 0 by omega]
      rfl
    · rw [if_neg (fun e => h0 (hge.mp e)), lN_I, lN_I, lI_sub, lI_div ⟨by omega, by omega⟩ ⟨by decide, by decide⟩]
      congr 1
      show (999999999 - t).tdiv 1000000000 = _
      rw [Int.tdiv_eq_ediv_of_nonneg (by omega)]
      omega
  · rw [lN_I, lI_mul, lI_add, lI_i]
    congr 1
    show t + -(t / 1000000000) * 1000000000 = _
    omega
theorem d119_sub {h : eH} {p N n at0 D T g : Nat} {bs : Int32} {F fs : Nat → Int32} {x4 x5 : Option Value} {V : Nat} (hd : DV h) (ws : WR h 24 36 (nI n) bs fs) (hn : n ≤ 36) (hfs : ∀ i, i < n → fs i = nI (dgt D i)) (hp1 : p ≠ 21) (hp2 : p ≠ 24) (hp3 : p ≠ 25) (hN : N < 2 ^ 30) (hat : at0 + n < N) (hF : ∀ i, i < n → F (at0 + i) = nI (dgt T i)) (hg : g < BB) {kk : Int} (hV : (V : Int) = T + -(g : Int) * D + ((BB ^ n : Nat) : Int) * kk) :
    ∀ k i, i + k = n → ∀ x12 : Option Value, ∃ x12', ru 119 90 [some (.ref 21), some (.ref p), some (.int (nI at0)), some (.int (nI n)), x4, x5, none, some (.long (lN g)), none, some (.long (lI (-(cJ T D (-(g : Int)) i)))), none, some (.int (nI i)), x12, none] [] (eUp h p (.inl (0, N, .inl (ovs F V at0 i)))) =
      ru 119 168 [some (.ref 21), some (.ref p), some (.int (nI at0)), some (.int (nI n)), x4, x5, none, some (.long (lN g)), none, some (.long (lI (-(cJ T D (-(g : Int)) n)))), none, some (.int (nI n)), x12', none] [] (eUp h p (.inl (0, N, .inl (ovs F V at0 n)))) := by
  have e21 : ∀ e, (eUp h p e).1 21 = .inr (2, [.ref 22, .ref 24, .ref 26, .ref 28]) := fun e => (eUp_ne (Ne.symm hp1)).trans hd
  have e24 : ∀ e, (eUp h p e).1 24 = .inr (9, [.ref 25, .int (nI n), .int bs]) := fun e => (eUp_ne (Ne.symm hp2)).trans ws.1
  have e25 : ∀ e, (eUp h p e).1 25 = .inl (0, 36, .inl fs) := fun e => (eUp_ne (Ne.symm hp3)).trans ws.2
  intro k
  induction k with
  | zero =>
    intro i hi x12
    have : i = n := by omega
    subst this
    refine ⟨x12, ?_⟩
    rw [H119_90]
    simp only [S119, gFs, pFs, okq, bls, bo_true, eUp_at, eUp_eUp, eKls, cl_some, Option.toList_some, Option.toList_none, List.cons_append, List.nil_append]
    rw [if_pos (nI_le (Nat.le_refl _) (by omega))]
  | succ k ih =>
    intro i hi x12
    have l1 := dgt_lt T i
    have l2 := dgt_lt D i
    obtain ⟨l3, l4⟩ := cJ_negw (L := T) (S := D) (g := g) i
    have hB : BB = 1000000000 := rfl
    have hmul : g * dgt D i ≤ 1000000000 * 1000000000 := Nat.mul_le_mul (by omega) (by omega)
    have hmulI : -(g : Int) * (dgt D i : Int) = -((g * dgt D i : Nat) : Int) := by rw [Int.neg_mul]; push_cast; rfl
    have hdg : ((dgt V i : Nat) : Int) = ((dgt T i : Int) + -(g : Int) * (dgt D i : Int) + cJ T D (-(g : Int)) i) % 1000000000 := dgt_linM hV (by omega)
    have hcs : cJ T D (-(g : Int)) (i + 1) = ((dgt T i : Int) + -(g : Int) * (dgt D i : Int) + cJ T D (-(g : Int)) i) / 1000000000 := cJ_succ ..
    have hrd : ovs F V at0 i (at0 + i) = nI (dgt T i) := by rw [ovs_out (by omega), hF i (by omega)]
    have hgap : (nI (dgt T i)).toInt64 - lN g * (nI (dgt D i)).toInt64 - lI (-(cJ T D (-(g : Int)) i)) = lI ((dgt T i : Int) + -(g : Int) * (dgt D i : Int) + cJ T D (-(g : Int)) i) := by
      rw [nI_l (by omega), nI_l (by omega), lN_mul, lN_I, lN_I, lI_sub, lI_sub]
      congr 1
      rw [hmulI]
      omega
    obtain ⟨x12', hih⟩ := ih (i + 1) (by omega) (some (.long (lI ((dgt T i : Int) + -(g : Int) * (dgt D i : Int) + cJ T D (-(g : Int)) i))))
    obtain ⟨b1, b2⟩ := borrow_step (t := (dgt T i : Int) + -(g : Int) * (dgt D i : Int) + cJ T D (-(g : Int)) i) (by rw [hmulI]; omega) (by rw [hmulI]; omega)
    refine ⟨x12', ?_⟩
    rw [← hih, H119_90]
    simp only [S119, gFs, pFs, okq, bls, bo_true, eUp_at, eUp_eUp, eKls, cl_some, Option.toList_some, Option.toList_none, List.cons_append, List.nil_append, e21, e24, e25, nI_add]
    rw [if_neg (nI_ge (by omega) (by omega)), aI_nI (by omega) (by omega), aI_nI (by omega) (by decide), hrd, hfs i (by omega), hgap]
    generalize hG : (dgt T i : Int) + -(g : Int) * (dgt D i : Int) + cJ T D (-(g : Int)) i = G at *
    have hne : ¬ lN 1000000000 = 0 := by decide
    have hw : wI (.inl (0, N, .inl (ovs F V at0 i))) (nI (at0 + i)) (iI (G % 1000000000)) = fun f => (f (.inl (0, N, .inl (ovs F V at0 (i + 1)))) : Option eR) := by
      funext f
      rw [wI_nI (by omega) (by omega), ← ovs_upd, nI_I (dgt V i), hdg]
    simp only [S119, gFs, pFs, okq, bls, bo_true, eUp_at, eUp_eUp, eKls, cl_some, Option.toList_some, Option.toList_none, List.cons_append, List.nil_append, e21, e24, e25, nI_add, hne, if_false]
    by_cases h0 : 0 ≤ lg_cmp (lI G) (lN 0)
    · rw [if_pos h0] at b1 ⊢
      rw [b1, b2, hw, hcs, nI_1]
    · rw [if_neg h0] at b1 ⊢
      rw [b1, b2, hw, hcs, nI_1]
