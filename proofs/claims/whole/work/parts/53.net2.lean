/-! NET: isEven, ofJoint, ofMember -/
def lft (n : NT) (w : Bool) (j ax : Nat) : Int := psum n j ax (nM n) + (if w = true then nL n ax j else 0)
def evj (n : NT) (w : Bool) (j : Nat) : Bool := nF n j || (decide (lft n w j 0 = 0) && decide (lft n w j 1 = 0))
def evn (n : NT) (w : Bool) : Nat → Nat → Bool
  | 0, _ => true
  | r + 1, j => evj n w j && evn n w r (j + 1)
theorem lft_ok {n : NT} (hv : NV n) {w : Bool} {j ax : Nat} (hj : j < nJ n) : -700000 ≤ lft n w j ax ∧ lft n w j ax ≤ 700000 := by
  have h1 := psum_le hv j ax (nM n) (Nat.le_refl _)
  have h2 := hv.2.2.1 ax j hj
  have h3 := hv.1
  unfold lft
  split <;> omega
section NE2
variable {h : eH} {a : Nat} {n : NT}
theorem d138_ax {w : Bool} {j ax : Nat} {x4 : Option Value} (o : NO h a n) (hv : NV n) (hj : j < nJ n) (hx : ax < 2) (hf : ¬ nF n j = true) : ru 138 12 [some (.ref a), some (.int (ldI w)), some (.int (nI j)), some (.int (nI ax)), x4] [] h = if lft n w j ax = 0 then ru 138 12 [some (.ref a), some (.int (ldI w)), some (.int (nI j)), some (.int (nI (ax + 1))), some (.int (iI (lft n w j ax)))] [] h else some (some (.int (nI 0)), h) := by
  have e1 := d107 o hv hj
  have v1 := hv.1
  have e2 := d137 o hv hx (k := j) (by omega)
  have hl := lft_ok hv (w := w) (ax := ax) hj
  obtain ⟨x0, x1, x2, x3, x5, x5', x6, x7, x8, x9⟩ := o
  rw [if_neg hf] at e1
  have e0 : iI (lft n w j ax) = 0 ↔ lft n w j ax = 0 := by rw [show (0 : Int32) = iI 0 from by decide]; exact iI_eq (by unfold iok; omega) iok_0
  rw [H138_12]
  simp only [S138, gFs, pFs, okq, bls, bo_true, eUp_at, eUp_eUp, eKls, cl_some, Option.toList_some, Option.toList_none, List.cons_append, List.nil_append, e1]
  rw [if_neg (nI_ge hx (by decide)), if_pos (by decide)]
  simp only [S138, gFs, pFs, okq, bls, bo_true, eUp_at, eUp_eUp, eKls, cl_some, Option.toList_some, Option.toList_none, List.cons_append, List.nil_append, e2, x0, x3.get hx, (x5 ax hx).get hj v1.2.1 (by decide), iI_add]
  cases w with
  | true =>
    rw [if_neg (show ¬ ldI true = 0 by decide)]
    have el : psum n j ax (nM n) + nL n ax j = lft n true j ax := by unfold lft; rw [if_pos rfl]
    rw [el]
    by_cases q : lft n true j ax = 0
    · rw [if_pos (e0.mpr q), if_pos q, nI_1]
    · rw [if_neg (fun e => q (e0.mp e)), if_neg q]
  | false =>
    rw [if_pos (show ldI false = 0 by decide)]
    have el : iI (psum n j ax (nM n)) + nI 0 = iI (lft n false j ax) := by unfold lft; rw [if_neg (by decide), show nI 0 = iI 0 from rfl]; exact iI_add _ _
    rw [el]
    by_cases q : lft n false j ax = 0
    · rw [if_pos (e0.mpr q), if_pos q, nI_1]
    · rw [if_neg (fun e => q (e0.mp e)), if_neg q]
theorem d138_loop {w : Bool} (o : NO h a n) (hv : NV n) : ∀ r j x3 x4, j + r = nJ n → eKl x3 = x3 → ru 138 2 [some (.ref a), some (.int (ldI w)), some (.int (nI j)), x3, x4] [] h = some (some (.int (ldI (evn n w r j))), h) := by
  have v1 := hv.1
  have x0 := o.1
  intro r
  induction r with
  | zero =>
    intro j x3 x4 hj k3
    rw [H138_2]
    simp only [S138, gFs, pFs, okq, bls, bo_true, eUp_at, eUp_eUp, eKls, cl_some, Option.toList_some, Option.toList_none, List.cons_append, List.nil_append, x0]
    rw [if_pos (nI_le (by omega) (by omega)), H138_69]
    simp only [S138, gFs, pFs, okq, bls, bo_true, eUp_at, eUp_eUp, eKls, cl_some, Option.toList_some, Option.toList_none, List.cons_append, List.nil_append]
    rfl
  | succ r ih =>
    intro j x3 x4 hj k3
    have e1 := d107 o hv (show j < nJ n by omega)
    rw [H138_2]
    simp only [S138, gFs, pFs, okq, bls, bo_true, eUp_at, eUp_eUp, eKls, cl_some, Option.toList_some, Option.toList_none, List.cons_append, List.nil_append, x0]
    rw [if_neg (nI_ge (by omega) (by omega))]
    unfold evn evj
    by_cases hf : nF n j = true
    · rw [if_pos hf] at e1
      rw [H138_12]
      simp only [S138, gFs, pFs, okq, bls, bo_true, eUp_at, eUp_eUp, eKls, cl_some, Option.toList_some, Option.toList_none, List.cons_append, List.nil_append, e1]
      rw [if_neg (by decide), if_neg (by decide), H138_63]
      simp only [S138, gFs, pFs, okq, bls, bo_true, eUp_at, eUp_eUp, eKls, cl_some, Option.toList_some, Option.toList_none, List.cons_append, List.nil_append]
      rw [nI_1, ih (j + 1) _ _ (by omega) rfl, hf, Bool.true_or, Bool.true_and]
    · rw [d138_ax o hv (by omega) (by decide) hf]
      have hf' : nF n j = false := by cases hq : nF n j with | true => exact absurd hq hf | false => rfl
      by_cases q0 : lft n w j 0 = 0
      · rw [if_pos q0, d138_ax o hv (by omega) (by decide) hf]
        by_cases q1 : lft n w j 1 = 0
        · rw [if_pos q1, H138_12]
          simp only [S138, gFs, pFs, okq, bls, bo_true, eUp_at, eUp_eUp, eKls, cl_some, Option.toList_some, Option.toList_none, List.cons_append, List.nil_append]
          rw [if_pos (by decide), H138_63]
          simp only [S138, gFs, pFs, okq, bls, bo_true, eUp_at, eUp_eUp, eKls, cl_some, Option.toList_some, Option.toList_none, List.cons_append, List.nil_append]
          rw [nI_1, ih (j + 1) _ _ (by omega) rfl, hf', decide_eq_true q0, decide_eq_true q1, Bool.false_or, Bool.true_and, Bool.true_and]
        · rw [if_neg q1, hf', decide_eq_false q1, Bool.and_false, Bool.false_or, Bool.false_and]
          rfl
      · rw [if_neg q0, hf', decide_eq_false q0, Bool.false_and, Bool.false_or, Bool.false_and]
        rfl
theorem d138 {w : Bool} (o : NO h a n) (hv : NV n) : den 138 [.ref a, .int (ldI w)] h = some (some (.int (ldI (evn n w (nJ n) 0))), h) := by
  rw [E138 a _ o.1]
  simp only [S138, gFs, pFs, okq, bls, bo_true, eUp_at, eUp_eUp, eKls, cl_some, Option.toList_some, Option.toList_none, List.cons_append, List.nil_append]
  exact d138_loop o hv (nJ n) 0 _ _ (by omega) rfl
def ofJ (n : NT) (k w : Int) : Int := if 0 ≤ k ∧ k < nJ n then (if w = 0 then nP n 0 k.toNat else if w = 1 then nP n 1 k.toNat else if w = 2 then (if nF n k.toNat = true then 1 else 0) else if w = 3 then nL n 0 k.toNat else if w = 4 then nL n 1 k.toNat else 0) else 0
def ofM (n : NT) (k w : Int) : Int := if 0 ≤ k ∧ k < nM n then (if w = 10 then (nA n k.toNat : Int) else if w = 11 then (nB n k.toNat : Int) else if w = 12 then (nS n k.toNat : Int) else if w = 13 then nU n k.toNat else 0) else 0
theorem swF_at {α : Type} {z : Int} {k : Nat} {f : Nat → Option α} (h : z = (k : Int)) : swF (some z) f = f k := by
  subst h
  show (if 0 ≤ (k : Int) then f (Int.toNat k) else none) = f k
  rw [if_pos (by omega), Int.toNat_natCast]
theorem eSw_out {pc : Nat} {w d lo hi : Int} {offs : Array Int} (hw : iok w) (h : w < lo ∨ hi < w) : eSw pc (iI w) d lo hi offs = some ((pc : Int) + d) := by
  unfold eSw
  rw [iI_toInt hw, if_pos h]
theorem d184 {k w : Int} (o : NO h a n) (hv : NV n) (hk : iok k) (hw : iok w) : den 184 [.ref a, .int (iI k), .int (iI w)] h = some (some (.int (iI (ofJ n k w))), h) := by
  have e1 := d157 o hv hk
  have v1 := hv.1
  have o' := o
  obtain ⟨x0, x1, x2, x3, x5, x5', x6, x7, x8, x9⟩ := o
  rw [E184 a _ _ x0]
  unfold ofJ
  by_cases q : 0 ≤ k ∧ k < nJ n
  · rw [if_pos q] at e1
    rw [if_pos q]
    obtain ⟨kn, hkn⟩ : ∃ m : Nat, k = m := ⟨k.toNat, by omega⟩
    subst hkn
    rw [Int.toNat_natCast]
    have hj : kn < nJ n := by omega
    rw [← nI_I kn] at e1 ⊢
    have p0 := (x2 0 (by decide)).get hj v1.2.1 (by decide) (α := eR)
    have p1 := (x2 1 (by decide)).get hj v1.2.1 (by decide) (α := eR)
    have l0 := (x5 0 (by decide)).get hj v1.2.1 (by decide) (α := eR)
    have l1 := (x5 1 (by decide)).get hj v1.2.1 (by decide) (α := eR)
    have r0 := x1.get (j := 0) (by decide) (α := eR)
    have r1 := x1.get (j := 1) (by decide) (α := eR)
    have s0 := x3.get (j := 0) (by decide) (α := eR)
    have s1 := x3.get (j := 1) (by decide) (α := eR)
    simp only [S184, gFs, pFs, okq, bls, bo_true, eUp_at, eUp_eUp, eKls, cl_some, Option.toList_some, Option.toList_none, List.cons_append, List.nil_append, e1]
    rw [if_neg (by decide)]
    by_cases w0 : w = 0
    · subst w0
      rw [if_pos rfl, show eSw 11 (iI 0) 83 0 4 #[33, 42, 51, 65, 74] = some 44 from by decide, swF_at (z := 44) (k := 44) rfl]
      simp only [S184, gFs, pFs, okq, bls, bo_true, eUp_at, eUp_eUp, eKls, cl_some, Option.toList_some, Option.toList_none, List.cons_append, List.nil_append, x0, r0, p0]
    · rw [if_neg w0]
      by_cases w1 : w = 1
      · subst w1
        rw [if_pos rfl, show eSw 11 (iI 1) 83 0 4 #[33, 42, 51, 65, 74] = some 53 from by decide, swF_at (z := 53) (k := 53) rfl]
        simp only [S184, gFs, pFs, okq, bls, bo_true, eUp_at, eUp_eUp, eKls, cl_some, Option.toList_some, Option.toList_none, List.cons_append, List.nil_append, x0, r1, p1]
      · rw [if_neg w1]
        by_cases w2 : w = 2
        · subst w2
          rw [if_pos rfl, show eSw 11 (iI 2) 83 0 4 #[33, 42, 51, 65, 74] = some 62 from by decide, swF_at (z := 62) (k := 62) rfl]
          simp only [S184, gFs, pFs, okq, bls, bo_true, eUp_at, eUp_eUp, eKls, cl_some, Option.toList_some, Option.toList_none, List.cons_append, List.nil_append, d107 o' hv hj]
          by_cases qf : nF n kn = true
          · rw [if_pos qf, if_pos qf, if_neg (by decide)]
            rfl
          · rw [if_neg qf, if_neg qf, if_pos (by decide)]
            rfl
        · rw [if_neg w2]
          by_cases w3 : w = 3
          · subst w3
            rw [if_pos rfl, show eSw 11 (iI 3) 83 0 4 #[33, 42, 51, 65, 74] = some 76 from by decide, swF_at (z := 76) (k := 76) rfl]
            simp only [S184, gFs, pFs, okq, bls, bo_true, eUp_at, eUp_eUp, eKls, cl_some, Option.toList_some, Option.toList_none, List.cons_append, List.nil_append, x0, s0, l0]
          · rw [if_neg w3]
            by_cases w4 : w = 4
            · subst w4
              rw [if_pos rfl, show eSw 11 (iI 4) 83 0 4 #[33, 42, 51, 65, 74] = some 85 from by decide, swF_at (z := 85) (k := 85) rfl]
              simp only [S184, gFs, pFs, okq, bls, bo_true, eUp_at, eUp_eUp, eKls, cl_some, Option.toList_some, Option.toList_none, List.cons_append, List.nil_append, x0, s1, l1]
            · rw [if_neg w4, eSw_out hw (by omega), swF_at (z := ((11 : Nat) : Int) + 83) (k := 94) rfl]
              simp only [S184, gFs, pFs, okq, bls, bo_true, eUp_at, eUp_eUp, eKls, cl_some, Option.toList_some, Option.toList_none, List.cons_append, List.nil_append]
              rfl
  · rw [if_neg q] at e1
    rw [if_neg q]
    simp only [S184, gFs, pFs, okq, bls, bo_true, eUp_at, eUp_eUp, eKls, cl_some, Option.toList_some, Option.toList_none, List.cons_append, List.nil_append, e1]
    rw [if_pos (by decide)]
    rfl
theorem d185 {k w : Int} (o : NO h a n) (hv : NV n) (hk : iok k) (hw : iok w) : den 185 [.ref a, .int (iI k), .int (iI w)] h = some (some (.int (iI (ofM n k w))), h) := by
  have e1 := d124 o hv hk
  have v1 := hv.1
  obtain ⟨x0, x1, x2, x3, x5, x5', x6, x7, x8, x9⟩ := o
  rw [E185 a _ _ x0]
  unfold ofM
  by_cases q : 0 ≤ k ∧ k < nM n
  · rw [if_pos q] at e1
    rw [if_pos q]
    obtain ⟨kn, hkn⟩ : ∃ m : Nat, k = m := ⟨k.toNat, by omega⟩
    subst hkn
    rw [Int.toNat_natCast]
    have hj : kn < nM n := by omega
    rw [← nI_I kn] at e1 ⊢
    have p0 := x6.get hj v1.2.2 (by decide) (α := eR)
    have p1 := x7.get hj v1.2.2 (by decide) (α := eR)
    have p2 := x8.get hj v1.2.2 (by decide) (α := eR)
    have p3 := x9.get hj v1.2.2 (by decide) (α := eR)
    simp only [S185, gFs, pFs, okq, bls, bo_true, eUp_at, eUp_eUp, eKls, cl_some, Option.toList_some, Option.toList_none, List.cons_append, List.nil_append, e1]
    rw [if_neg (by decide)]
    by_cases w0 : w = 10
    · subst w0
      rw [if_pos rfl, show eSw 11 (iI 10) 57 10 13 #[29, 36, 43, 50] = some 40 from by decide, swF_at (z := 40) (k := 40) rfl]
      simp only [S185, gFs, pFs, okq, bls, bo_true, eUp_at, eUp_eUp, eKls, cl_some, Option.toList_some, Option.toList_none, List.cons_append, List.nil_append, x0, p0]
      rfl
    · rw [if_neg w0]
      by_cases w1 : w = 11
      · subst w1
        rw [if_pos rfl, show eSw 11 (iI 11) 57 10 13 #[29, 36, 43, 50] = some 47 from by decide, swF_at (z := 47) (k := 47) rfl]
        simp only [S185, gFs, pFs, okq, bls, bo_true, eUp_at, eUp_eUp, eKls, cl_some, Option.toList_some, Option.toList_none, List.cons_append, List.nil_append, x0, p1]
        rfl
      · rw [if_neg w1]
        by_cases w2 : w = 12
        · subst w2
          rw [if_pos rfl, show eSw 11 (iI 12) 57 10 13 #[29, 36, 43, 50] = some 54 from by decide, swF_at (z := 54) (k := 54) rfl]
          simp only [S185, gFs, pFs, okq, bls, bo_true, eUp_at, eUp_eUp, eKls, cl_some, Option.toList_some, Option.toList_none, List.cons_append, List.nil_append, x0, p2]
          rfl
        · rw [if_neg w2]
          by_cases w3 : w = 13
          · subst w3
            rw [if_pos rfl, show eSw 11 (iI 13) 57 10 13 #[29, 36, 43, 50] = some 61 from by decide, swF_at (z := 61) (k := 61) rfl]
            simp only [S185, gFs, pFs, okq, bls, bo_true, eUp_at, eUp_eUp, eKls, cl_some, Option.toList_some, Option.toList_none, List.cons_append, List.nil_append, x0, p3]
          · rw [if_neg w3, eSw_out hw (by omega), swF_at (z := ((11 : Nat) : Int) + 57) (k := 68) rfl]
            simp only [S185, gFs, pFs, okq, bls, bo_true, eUp_at, eUp_eUp, eKls, cl_some, Option.toList_some, Option.toList_none, List.cons_append, List.nil_append]
            rfl
  · rw [if_neg q] at e1
    rw [if_neg q]
    simp only [S185, gFs, pFs, okq, bls, bo_true, eUp_at, eUp_eUp, eKls, cl_some, Option.toList_some, Option.toList_none, List.cons_append, List.nil_append, e1]
    rw [if_pos (by decide)]
    rfl
end NE2
