/-! THE REFERENCE: goesInto -/
theorem cJ_top {L Y q j : Nat} (hL : L < BB ^ j) (hY : Y < BB ^ j) : cJ L Y (-(q : Int)) j = 0 ↔ q * Y ≤ L := by
  unfold cJ
  rw [Nat.mod_eq_of_lt hL, Nat.mod_eq_of_lt hY]
  have hB : (0 : Int) < ((BB ^ j : Nat) : Int) := BPp j
  have e : (L : Int) + -(q : Int) * (Y : Int) = (L : Int) - ((q * Y : Nat) : Int) := by rw [Int.natCast_mul, Int.neg_mul]; omega
  rw [e]
  constructor
  · intro h0
    by_cases c : q * Y ≤ L
    · exact c
    · have h1 : ((L : Int) - ((q * Y : Nat) : Int)) / ((BB ^ j : Nat) : Int) < 0 := Int.ediv_neg_of_neg_of_pos (by omega) hB
      omega
  · intro c
    exact Int.ediv_eq_zero_of_lt (by omega) (by omega)
theorem cJ_stop {L Y q j : Nat} (hY : nd Y ≤ j) (h0 : cJ L Y (-(q : Int)) j = 0) : q * Y ≤ L := by
  unfold cJ at h0
  rw [Nat.mod_eq_of_lt (nd_le.mp hY)] at h0
  have hB : (0 : Int) < ((BB ^ j : Nat) : Int) := BPp j
  have e : ((L % BB ^ j : Nat) : Int) + -(q : Int) * (Y : Int) = ((L % BB ^ j : Nat) : Int) - ((q * Y : Nat) : Int) := by rw [Int.natCast_mul, Int.neg_mul]; omega
  rw [e] at h0
  have hm := Nat.mod_le L (BB ^ j)
  by_cases c : q * Y ≤ L
  · exact c
  · have h1 : (((L % BB ^ j : Nat) : Int) - ((q * Y : Nat) : Int)) / ((BB ^ j : Nat) : Int) < 0 := Int.ediv_neg_of_neg_of_pos (by omega) hB
    omega
section RD3
variable {h : eH} {jt mb hi wi rk co : Int32} {R Y q k : Nat}
theorem d28_v {j : Nat} : lN (dgt R (j + k)) - lN q * lN (dgt Y j) - lI (-(cJ (R / BB ^ k) Y (-(q : Int)) j)) = lI ((dgt (R / BB ^ k) j : Int) + -(q : Int) * (dgt Y j : Int) + cJ (R / BB ^ k) Y (-(q : Int)) j) := by
  rw [lN_I, lN_I, lN_I, lI_mul, lI_sub, lI_sub, dgt_div, Nat.add_comm k j]
  congr 1
  rw [Int.neg_mul]
  omega
theorem d28_bd {j : Nat} (hq : q < BB) : -3000000000000000000 ≤ (dgt (R / BB ^ k) j : Int) + -(q : Int) * (dgt Y j : Int) + cJ (R / BB ^ k) Y (-(q : Int)) j ∧ (dgt (R / BB ^ k) j : Int) + -(q : Int) * (dgt Y j : Int) + cJ (R / BB ^ k) Y (-(q : Int)) j ≤ 3000000000000000000 := by
  have d1 := dgt_lt (R / BB ^ k) j
  have d2 := dgt_lt Y j
  have c := cJ_negw (L := R / BB ^ k) (S := Y) (g := q) j
  have hB : BB = 1000000000 := rfl
  have hm : q * dgt Y j ≤ 999999999 * 999999999 := Nat.mul_le_mul (by omega) (by omega)
  have e : -(q : Int) * (dgt Y j : Int) = -((q * dgt Y j : Nat) : Int) := by rw [Int.natCast_mul, Int.neg_mul]
  rw [e]
  omega
theorem d28_loop (o : MOo h jt mb hi wi rk co) (lX : LN h 253 R) (lY : LN h 254 Y) (hR : R < BB ^ 24) (hk : nd Y + k ≤ 24) (hq : q < BB) : ∀ r j x8, k + j + r = 24 → ru 28 6 [some (.ref 239), some (.long (lN q)), none, some (.int (nI k)), some (.int (nI (nd Y))), some (.long (lI (-(cJ (R / BB ^ k) Y (-(q : Int)) j)))), none, some (.int (nI j)), x8, none] [] h = some (some (.int (ldI (decide (q * Y ≤ R / BB ^ k)))), h) := by
  have oo := o
  unfold MOo at oo
  have hB : BB = 1000000000 := rfl
  have ex : ∀ j x8, (cJ (R / BB ^ k) Y (-(q : Int)) j = 0 ↔ q * Y ≤ R / BB ^ k) → ru 28 70 [some (.ref 239), some (.long (lN q)), none, some (.int (nI k)), some (.int (nI (nd Y))), some (.long (lI (-(cJ (R / BB ^ k) Y (-(q : Int)) j)))), none, some (.int (nI j)), x8, none] [] h = some (some (.int (ldI (decide (q * Y ≤ R / BB ^ k)))), h) := by
    intro j x8 hc
    have c := cJ_negw (L := R / BB ^ k) (S := Y) (g := q) j
    have c1 : lg_cmp (lI (-(cJ (R / BB ^ k) Y (-(q : Int)) j))) (lN 0) = 0 ↔ q * Y ≤ R / BB ^ k := by
      rw [lg_eq0, lN_I, lI_eq (by unfold lok; omega) (by unfold lok; omega), ← hc]
      omega
    rw [H28_70]
    simp only [S28, gFs, pFs, okq, bls, bo_true, eUp_at, eUp_eUp, eKls, cl_some, Option.toList_some, Option.toList_none, List.cons_append, List.nil_append]
    by_cases c2 : q * Y ≤ R / BB ^ k
    · rw [if_pos (c1.mpr c2), decide_eq_true c2]
      rfl
    · rw [if_neg (fun e => c2 (c1.mp e)), decide_eq_false c2]
      rfl
  intro r
  induction r with
  | zero =>
    intro j x8 hr
    have hj : R / BB ^ k < BB ^ j := by
      rw [Nat.div_lt_iff_lt_mul (BP_pos k), ← Nat.pow_add, show j + k = 24 by omega]
      exact hR
    rw [H28_6]
    simp only [S28, gFs, pFs, okq, bls, bo_true, eUp_at, eUp_eUp, eKls, cl_some, Option.toList_some, Option.toList_none, List.cons_append, List.nil_append, nI_add]
    rw [if_pos (nI_le (by omega) (by omega))]
    exact ex j x8 (cJ_top hj (nd_le.mp (by omega)))
  | succ r ih =>
    intro j x8 hr
    have c := cJ_negw (L := R / BB ^ k) (S := Y) (g := q) j
    have bd := d28_bd (R := R) (Y := Y) (k := k) (j := j) hq
    have c1 : lg_cmp (lI (-(cJ (R / BB ^ k) Y (-(q : Int)) j))) (lN 0) = 0 ↔ cJ (R / BB ^ k) Y (-(q : Int)) j = 0 := by
      rw [lg_eq0, lN_I, lI_eq (by unfold lok; omega) (by unfold lok; omega)]
      omega
    have e6 := d6 (a := (dgt (R / BB ^ k) j : Int) + -(q : Int) * (dgt Y j : Int) + cJ (R / BB ^ k) Y (-(q : Int)) j) (b := Bi) (by unfold lok; omega) lok_Bi Bi_pos
    have body : ru 28 29 [some (.ref 239), some (.long (lN q)), none, some (.int (nI k)), some (.int (nI (nd Y))), some (.long (lI (-(cJ (R / BB ^ k) Y (-(q : Int)) j)))), none, some (.int (nI j)), x8, none] [] h = ru 28 6 [some (.ref 239), some (.long (lN q)), none, some (.int (nI k)), some (.int (nI (nd Y))), some (.long (lI (-(cJ (R / BB ^ k) Y (-(q : Int)) (j + 1))))), none, some (.int (nI (j + 1))), some (.long (lI ((dgt (R / BB ^ k) j : Int) + -(q : Int) * (dgt Y j : Int) + cJ (R / BB ^ k) Y (-(q : Int)) j))), none] [] h := by
      simp only [S28, gFs, pFs, okq, bls, bo_true, eUp_at, eUp_eUp, eKls, cl_some, Option.toList_some, Option.toList_none, List.cons_append, List.nil_append, oo, nI_add, lX.get (show j + k < 24 by omega), lY.get (show j < 24 by omega), d28_v, lN_Bi, e6, lI_neg]
      rw [nI_1, show (Bi : Int) = (BB : Int) from rfl, ← cJ_succ]
    by_cases hstop : nd Y ≤ j ∧ cJ (R / BB ^ k) Y (-(q : Int)) j = 0
    · rw [H28_6]
      simp only [S28, gFs, pFs, okq, bls, bo_true, eUp_at, eUp_eUp, eKls, cl_some, Option.toList_some, Option.toList_none, List.cons_append, List.nil_append, nI_add]
      rw [if_neg (nI_ge (by omega) (by omega)), if_neg (nI_nlt hstop.1 (by omega)), if_pos (c1.mpr hstop.2)]
      exact ex j x8 ⟨fun e => cJ_stop hstop.1 e, fun _ => hstop.2⟩
    · have e2 := ih (j + 1) (some (.long (lI ((dgt (R / BB ^ k) j : Int) + -(q : Int) * (dgt Y j : Int) + cJ (R / BB ^ k) Y (-(q : Int)) j)))) (by omega)
      rw [← body] at e2
      rw [← e2, H28_6]
      simp only [S28, gFs, pFs, okq, bls, bo_true, eUp_at, eUp_eUp, eKls, cl_some, Option.toList_some, Option.toList_none, List.cons_append, List.nil_append, nI_add]
      rw [if_neg (nI_ge (by omega) (by omega))]
      by_cases q1 : j < nd Y
      · rw [if_pos (nI_lt q1 (by omega))]
      · rw [if_neg (nI_nlt (by omega) (by omega)), if_neg (fun e => hstop ⟨by omega, c1.mp e⟩)]
theorem d28 (o : MOo h jt mb hi wi rk co) (lX : LN h 253 R) (lY : LN h 254 Y) (hR : R < BB ^ 24) (hk : nd Y + k ≤ 24) (hq : q < BB) : den 28 [.ref 239, .long (lN q), .int (nI k), .int (nI (nd Y))] h = some (some (.int (ldI (decide (q * Y ≤ R / BB ^ k)))), h) := by
  have l := d28_loop o lX lY hR hk hq (24 - k) 0 none (by omega)
  rw [cJ_0, show lI (-(0 : Int)) = lN 0 from rfl] at l
  rw [E28 239 _ _ _ o, ← l]
  simp only [S28, gFs, pFs, okq, bls, bo_true, eUp_at, eUp_eUp, eKls, cl_some, Option.toList_some, Option.toList_none, List.cons_append, List.nil_append]
end RD3
