/-! CONE: begin, isOpen -/
theorem fcl_neg {ro : Nat → Option Nat} {i : Int} (hi : i < 0) : ∀ n c seen, fcl ro i n c seen = none := by
  intro n
  induction n with
  | zero => intro c seen; rfl
  | succ n ih =>
    intro c seen
    unfold fcl
    by_cases h0 : ro c = none
    · rw [if_pos h0, if_neg (by omega)]
      exact ih _ _
    · rw [if_neg h0]
      exact ih _ _
theorem ffr_neg {s : RS} {unk : Nat} {i c : Int} (hi : i < 0) : ffr s unk i c = 0 := by
  unfold ffr
  rw [fcl_neg hi]
def qv (n : NT) (s : RS) (unk m i : Nat) : Int := if nS n m = 1 then ffr s unk i m else if nS n m = 2 then - ffr s unk i m else 0
def bar (n : NT) (m : Nat) : Bool := decide (nS n m = 0)
def CXo (h : eH) : Prop := (∃ M, CO h M) ∧ AK h ∧ (∀ m, m < 14 → TX h (84 + 8 * m) 5) ∧ TX h 62 36 ∧ TX h 70 36 ∧ WX h 78 36 ∧ WX h 80 36 ∧ AR h 82 14 0 (fun _ => 0) ∧ ∃ R, RC h 0 R
section CB9
variable {h : eH} {a g H W C rows unk cols : Nat} {n : NT} {s : RS}
theorem d89_i {m i : Nat} {as tn : Bool} (hv : NV n) (no : NO h a n) (k : KG h g H W C rows unk cols s) (b : GB H W C rows cols) (hu : unk ≤ cols) (hro : ∀ c r, s.2.2.2.1 c = some r → r < rows) (hC : C ≤ 5) (hbo : nd s.2.2.1.natAbs ≤ 5) (hg : g + 5 < 60) (ha : 196 ≤ a) (co : ∃ M, CO h M) (ak : AK h) (ta : TA h (84 + 8 * m)) (w : WX h (84 + 8 * m + 2 + 2 * i) 5) (hm : m < nM n) (hi : i < 3) (htn : tn = true ↔ nS n m = 2) : ∃ h', ru 89 64 [some (.ref 60), some (.ref a), some (.ref g), some (.int (nI m)), some (.int (ldI as)), some (.int (nI i))] [] h = ru 89 64 [some (.ref 60), some (.ref a), some (.ref g), some (.int (nI m)), some (.int (ldI as)), some (.int (nI (i + 1)))] [] h' ∧ F2 (84 + 8 * m + 2 + 2 * i) h h' ∧ WV h' (84 + 8 * m + 2 + 2 * i) 5 (if tn = true then - ffr s unk (if as = true then i else -1) m else ffr s unk (if as = true then i else -1) m) := by
  have v1 := hv.1
  obtain ⟨M0, co⟩ := co
  have c0 := co
  unfold CO at c0
  obtain ⟨h1, e1, f1, w1⟩ := d88 (i := if as = true then (i : Int) else -1) (c := (m : Int)) k b hu hro (by split <;> unfold iok <;> omega) (iok_nI (by omega)) w (by decide) hC hbo (by omega)
  have no1 := no.keep (h' := h1) (fun j j1 j2 => f1.2 j (by omega) (by omega))
  have co1 : h1.1 60 = .inr (0, [.ref 61, .ref 62, .ref 70, .ref 78, .ref 80, .ref 82, .ref 83, .int (nI M0)]) := (f1.2 60 (by omega) (by omega)).trans co
  have ak1 : AK h1 := by
    obtain ⟨g0, y1, y2⟩ := ak
    exact ⟨g0, (f1.2 61 (by omega) (by omega)).trans y1, y2⟩
  have ta1 := ta.keep (h' := h1) (f1.2 _ (by omega) (by omega)) (f1.2 _ (by omega) (by omega))
  obtain ⟨x0, -, -, -, -, -, -, -, x8, -⟩ := id no
  obtain ⟨y0, -, -, -, -, -, -, -, y8, -⟩ := id no1
  have hS : nS n m ≤ 2 := (hv.2.2.2 m hm).2.2.2.1
  have l2 : nI (nS n m) = nI 2 ↔ nS n m = 2 := nI_eq (by omega) (by decide)
  have e1' : ldI as = 0 → den 88 [.ref g, .ref (84 + 8 * m + 2 + 2 * i), .int (-1), .int (nI m)] h = some (none, h1) := by
    intro e
    cases as with
    | true => exact absurd e (by decide)
    | false =>
      rw [if_neg (by decide), show iI (-1) = -1 from by decide] at e1
      exact e1
  have e1'' : ¬ ldI as = 0 → den 88 [.ref g, .ref (84 + 8 * m + 2 + 2 * i), .int (nI i), .int (nI m)] h = some (none, h1) := by
    intro e
    cases as with
    | false => exact absurd (by decide) e
    | true =>
      rw [if_pos rfl] at e1
      exact e1
  have tl : ∀ h2, ru 89 123 [some (.ref 60), some (.ref a), some (.ref g), some (.int (nI m)), some (.int (ldI as)), some (.int (nI i))] [] h2 = ru 89 64 [some (.ref 60), some (.ref a), some (.ref g), some (.int (nI m)), some (.int (ldI as)), some (.int (nI (i + 1)))] [] h2 := by
    intro h2
    simp only [S89, gFs, pFs, okq, bls, bo_true, eUp_at, eUp_eUp, eKls, cl_some, Option.toList_some, Option.toList_none, List.cons_append, List.nil_append]
    rw [nI_1]
  by_cases q : nS n m = 2
  · obtain ⟨h2, e2, f2, w2⟩ := d87 w1 (by decide)
    refine ⟨h2, ?_, f1.trans f2, by rw [if_pos (htn.mpr q)]; exact w2⟩
    rw [← tl, H89_64]
    simp only [S89, gFs, pFs, okq, bls, bo_true, eUp_at, eUp_eUp, eKls, cl_some, Option.toList_some, Option.toList_none, List.cons_append, List.nil_append]
    rw [if_neg (nI_ge hi (by decide))]
    simp only [S89, gFs, pFs, okq, bls, bo_true, eUp_at, eUp_eUp, eKls, cl_some, Option.toList_some, Option.toList_none, List.cons_append, List.nil_append, c0, ak.get (show m < 14 by omega), ta.1, ta.get hi]
    by_cases qa : ldI as = 0
    · rw [if_pos qa]
      simp only [S89, gFs, pFs, okq, bls, bo_true, eUp_at, eUp_eUp, eKls, cl_some, Option.toList_some, Option.toList_none, List.cons_append, List.nil_append, e1' qa, y0, y8.get hm v1.2.2 (by decide), co1, ak1.get (show m < 14 by omega), ta1.1, ta1.get hi, e2]
      rw [if_pos (l2.mpr q)]
    · rw [if_neg qa]
      simp only [S89, gFs, pFs, okq, bls, bo_true, eUp_at, eUp_eUp, eKls, cl_some, Option.toList_some, Option.toList_none, List.cons_append, List.nil_append, e1'' qa, y0, y8.get hm v1.2.2 (by decide), co1, ak1.get (show m < 14 by omega), ta1.1, ta1.get hi, e2]
      rw [if_pos (l2.mpr q)]
  · refine ⟨h1, ?_, f1, by rw [if_neg (fun e => q (htn.mp e))]; exact w1⟩
    rw [← tl, H89_64]
    simp only [S89, gFs, pFs, okq, bls, bo_true, eUp_at, eUp_eUp, eKls, cl_some, Option.toList_some, Option.toList_none, List.cons_append, List.nil_append]
    rw [if_neg (nI_ge hi (by decide))]
    simp only [S89, gFs, pFs, okq, bls, bo_true, eUp_at, eUp_eUp, eKls, cl_some, Option.toList_some, Option.toList_none, List.cons_append, List.nil_append, c0, ak.get (show m < 14 by omega), ta.1, ta.get hi]
    by_cases qa : ldI as = 0
    · rw [if_pos qa]
      simp only [S89, gFs, pFs, okq, bls, bo_true, eUp_at, eUp_eUp, eKls, cl_some, Option.toList_some, Option.toList_none, List.cons_append, List.nil_append, e1' qa, y0, y8.get hm v1.2.2 (by decide)]
      rw [if_neg (fun e => q (l2.mp e))]
    · rw [if_neg qa]
      simp only [S89, gFs, pFs, okq, bls, bo_true, eUp_at, eUp_eUp, eKls, cl_some, Option.toList_some, Option.toList_none, List.cons_append, List.nil_append, e1'' qa, y0, y8.get hm v1.2.2 (by decide)]
      rw [if_neg (fun e => q (l2.mp e))]
/-- the frame of a member's part of begin -/
def FM9 (m : Nat) (h h' : eH) : Prop := h'.2 = h.2 ∧ ∀ i, i ≠ 83 → ¬ (86 + 8 * m ≤ i ∧ i ≤ 91 + 8 * m) → h'.1 i = h.1 i
theorem d89_m {m : Nat} {x4 x5 : Option Value} {R : Nat → Bool} (k4 : eKl x4 = x4) (k5 : eKl x5 = x5) (hv : NV n) (no : NO h a n) (k : KG h g H W C rows unk cols s) (b : GB H W C rows cols) (hu : unk ≤ cols) (hro : ∀ c r, s.2.2.2.1 c = some r → r < rows) (hC : C ≤ 5) (hbo : nd s.2.2.1.natAbs ≤ 5) (hg : g + 5 < 60) (ha : 196 ≤ a) (co : CO h (nM n)) (ak : AK h) (tx : TX h (84 + 8 * m) 5) (rc : RC h m R) (hm : m < nM n) : ∃ h' y4 y5, ru 89 10 [some (.ref 60), some (.ref a), some (.ref g), some (.int (nI m)), x4, x5] [] h = ru 89 10 [some (.ref 60), some (.ref a), some (.ref g), some (.int (nI (m + 1))), y4, y5] [] h' ∧ eKl y4 = y4 ∧ eKl y5 = y5 ∧ FM9 m h h' ∧ TR h' (84 + 8 * m) 5 (qv n s unk m) ∧ RC h' (m + 1) (fun j => if j = m then bar n m else R j) := by
  have v1 := hv.1
  have hS : nS n m ≤ 2 := (hv.2.2.2 m hm).2.2.2.1
  obtain ⟨f0, z1, z2⟩ := rc
  obtain ⟨h1, hh1⟩ : ∃ h1, h1 = eUp h 83 (.inl (2, 14, .inl (upd f0 m (ldI (bar n m))))) := ⟨_, rfl⟩
  have n1 : ∀ i, i ≠ 83 → h1.1 i = h.1 i := fun i hi => by rw [hh1]; exact eUp_ne hi
  have z11 : h1.1 83 = .inl (2, 14, .inl (upd f0 m (ldI (bar n m)))) := by rw [hh1]; exact eUp_at ..
  have no1 := no.keep (h' := h1) (fun j j1 j2 => n1 j (by omega))
  have kg1 := k.keep (h' := h1) (fun j j1 j2 => n1 j (by omega))
  have co1 : CO h1 (nM n) := (n1 60 (by decide)).trans co
  have ak1 : AK h1 := by
    obtain ⟨g0, y1, y2⟩ := ak
    exact ⟨g0, (n1 61 (by decide)).trans y1, y2⟩
  have tx1 := tx.keep (h' := h1) (fun j j1 j2 => n1 j (by omega))
  obtain ⟨tn, htn⟩ : ∃ tn : Bool, tn = true ↔ nS n m = 2 := ⟨decide (nS n m = 2), decide_eq_true_iff⟩
  obtain ⟨as, has⟩ : ∃ as : Bool, as = true ↔ ¬ nS n m = 0 := ⟨decide (¬ nS n m = 0), decide_eq_true_iff⟩
  obtain ⟨h2, e2, f2, w2⟩ := d89_i (as := as) (i := 0) hv no1 kg1 b hu hro hC hbo hg ha ⟨_, co1⟩ ak1 tx1.1 (tx1.2 0 (by decide)) hm (by decide) htn
  have n2 : ∀ j, j ≠ 84 + 8 * m + 2 + 2 * 0 → j ≠ 84 + 8 * m + 2 + 2 * 0 + 1 → h2.1 j = h1.1 j := f2.2
  have no2 := no1.keep (h' := h2) (fun j j1 j2 => n2 j (by omega) (by omega))
  have kg2 := kg1.keep (h' := h2) (fun j j1 j2 => n2 j (by omega) (by omega))
  have co2 : CO h2 (nM n) := (n2 60 (by omega) (by omega)).trans co1
  have ak2 : AK h2 := by
    obtain ⟨g0, y1, y2⟩ := ak1
    exact ⟨g0, (n2 61 (by omega) (by omega)).trans y1, y2⟩
  have ta2 := tx1.1.keep (h' := h2) (n2 _ (by omega) (by omega)) (n2 _ (by omega) (by omega))
  obtain ⟨h3, e3, f3, w3⟩ := d89_i (as := as) (i := 1) hv no2 kg2 b hu hro hC hbo hg ha ⟨_, co2⟩ ak2 ta2 ((tx1.2 1 (by decide)).kept f2 (by omega) (by omega) (by omega)) hm (by decide) htn
  have n3 : ∀ j, j ≠ 84 + 8 * m + 2 + 2 * 1 → j ≠ 84 + 8 * m + 2 + 2 * 1 + 1 → h3.1 j = h2.1 j := f3.2
  have no3 := no2.keep (h' := h3) (fun j j1 j2 => n3 j (by omega) (by omega))
  have kg3 := kg2.keep (h' := h3) (fun j j1 j2 => n3 j (by omega) (by omega))
  have co3 : CO h3 (nM n) := (n3 60 (by omega) (by omega)).trans co2
  have ak3 : AK h3 := by
    obtain ⟨g0, y1, y2⟩ := ak2
    exact ⟨g0, (n3 61 (by omega) (by omega)).trans y1, y2⟩
  have ta3 := ta2.keep (h' := h3) (n3 _ (by omega) (by omega)) (n3 _ (by omega) (by omega))
  obtain ⟨h4, e4, f4, w4⟩ := d89_i (as := as) (i := 2) hv no3 kg3 b hu hro hC hbo hg ha ⟨_, co3⟩ ak3 ta3 (((tx1.2 2 (by decide)).kept f2 (by omega) (by omega) (by omega)).kept f3 (by omega) (by omega) (by omega)) hm (by decide) htn
  have n4 : ∀ j, j ≠ 84 + 8 * m + 2 + 2 * 2 → j ≠ 84 + 8 * m + 2 + 2 * 2 + 1 → h4.1 j = h3.1 j := f4.2
  have ta4 := ta3.keep (h' := h4) (n4 _ (by omega) (by omega)) (n4 _ (by omega) (by omega))
  have qe : ∀ i : Nat, (if tn = true then - ffr s unk (if as = true then (i : Int) else -1) m else ffr s unk (if as = true then (i : Int) else -1) m) = qv n s unk m i := by
    intro i
    unfold qv
    rcases (by omega : nS n m = 0 ∨ nS n m = 1 ∨ nS n m = 2) with e | e | e
    · rw [if_neg (fun q => by have := htn.mp q; omega), if_neg (fun q => has.mp q e), ffr_neg (by decide), if_neg (by omega), if_neg (by omega)]
    · rw [if_neg (fun q => by have := htn.mp q; omega), if_pos (has.mpr (by omega)), if_pos e]
    · rw [if_pos (htn.mpr e), if_pos (has.mpr (by omega)), if_neg (by omega), if_pos e]
  have q0 := qe 0
  have q1 := qe 1
  have q2 := qe 2
  have n14 : ∀ j, j ≠ 83 → ¬ (86 + 8 * m ≤ j ∧ j ≤ 91 + 8 * m) → h4.1 j = h.1 j := fun j j1 j2 => (n4 j (by omega) (by omega)).trans ((n3 j (by omega) (by omega)).trans ((n2 j (by omega) (by omega)).trans (n1 j j1)))
  refine ⟨h4, some (.int (ldI as)), some (.int (nI 3)), ?_, rfl, rfl, ⟨?_, n14⟩, ⟨ta4, fun i hi => ?_⟩, _, (n4 83 (by omega) (by omega)).trans ((n3 83 (by omega) (by omega)).trans ((n2 83 (by omega) (by omega)).trans z11)), fun j hj => ?_⟩
  · have c0 := co
    unfold CO at c0
    obtain ⟨x0, -, -, -, -, -, -, -, x8, -⟩ := id no
    have l1 : nI (nS n m) = nI 1 ↔ nS n m = 1 := nI_eq (by omega) (by decide)
    have l2 : nI (nS n m) = nI 2 ↔ nS n m = 2 := nI_eq (by omega) (by decide)
    have fin : ru 89 129 [some (.ref 60), some (.ref a), some (.ref g), some (.int (nI m)), some (.int (ldI as)), some (.int (nI 3))] [] h4 = ru 89 10 [some (.ref 60), some (.ref a), some (.ref g), some (.int (nI (m + 1))), some (.int (ldI as)), some (.int (nI 3))] [] h4 := by
      rw [H89_129]
      simp only [S89, gFs, pFs, okq, bls, bo_true, eUp_at, eUp_eUp, eKls, cl_some, Option.toList_some, Option.toList_none, List.cons_append, List.nil_append]
      rw [nI_1]
    have mid : ru 89 64 [some (.ref 60), some (.ref a), some (.ref g), some (.int (nI m)), some (.int (ldI as)), some (.int (nI 0))] [] h1 = ru 89 10 [some (.ref 60), some (.ref a), some (.ref g), some (.int (nI (m + 1))), some (.int (ldI as)), some (.int (nI 3))] [] h4 := by
      rw [e2, e3, e4, H89_64]
      simp only [S89, gFs, pFs, okq, bls, bo_true, eUp_at, eUp_eUp, eKls, cl_some, Option.toList_some, Option.toList_none, List.cons_append, List.nil_append]
      rw [if_pos (by decide), fin]
    rw [← mid, H89_10]
    simp only [S89, gFs, pFs, okq, bls, bo_true, eUp_at, eUp_eUp, eKls, cl_some, Option.toList_some, Option.toList_none, List.cons_append, List.nil_append, c0]
    rw [if_neg (nI_ge hm (by omega))]
    simp only [S89, gFs, pFs, okq, bls, bo_true, eUp_at, eUp_eUp, eKls, cl_some, Option.toList_some, Option.toList_none, List.cons_append, List.nil_append, x0, x8.get hm v1.2.2 (by decide), k5]
    rcases (by omega : nS n m = 0 ∨ nS n m = 1 ∨ nS n m = 2) with e | e | e
    · have hb : bar n m = true := decide_eq_true e
      have ha0 : as = false := by cases hq : as with | false => rfl | true => exact absurd e (has.mp hq)
      rw [if_neg (fun q => by have := l1.mp q; omega), if_neg (fun q => by have := l2.mp q; omega)]
      simp only [S89, gFs, pFs, okq, bls, bo_true, eUp_at, eUp_eUp, eKls, cl_some, Option.toList_some, Option.toList_none, List.cons_append, List.nil_append, c0, z1]
      rw [if_pos (show nI 0 = 0 from rfl), wZ_nI (by omega) (by decide), show ((nI 1 == 0 || nI 1 == 1) = true) from by decide, bo_true]
      rw [hb] at hh1
      rw [ha0, hh1]
      rfl
    · have hb : bar n m = false := decide_eq_false (by omega)
      have ha0 : as = true := has.mpr (by omega)
      rw [if_pos (l1.mpr e)]
      simp only [S89, gFs, pFs, okq, bls, bo_true, eUp_at, eUp_eUp, eKls, cl_some, Option.toList_some, Option.toList_none, List.cons_append, List.nil_append, c0, z1]
      rw [if_neg (show ¬ nI 1 = 0 by decide), wZ_nI (by omega) (by decide), show ((nI 0 == 0 || nI 0 == 1) = true) from by decide, bo_true]
      rw [hb] at hh1
      rw [ha0, hh1]
      rfl
    · have hb : bar n m = false := decide_eq_false (by omega)
      have ha0 : as = true := has.mpr (by omega)
      rw [if_neg (fun q => by have := l1.mp q; omega), if_pos (l2.mpr e)]
      simp only [S89, gFs, pFs, okq, bls, bo_true, eUp_at, eUp_eUp, eKls, cl_some, Option.toList_some, Option.toList_none, List.cons_append, List.nil_append, c0, z1]
      rw [if_neg (show ¬ nI 1 = 0 by decide), wZ_nI (by omega) (by decide), show ((nI 0 == 0 || nI 0 == 1) = true) from by decide, bo_true]
      rw [hb] at hh1
      rw [ha0, hh1]
      rfl
  · exact f4.1.trans (f3.1.trans (f2.1.trans (by rw [hh1]; rfl)))
  · rcases (by omega : i = 0 ∨ i = 1 ∨ i = 2) with e | e | e
    · subst e
      rw [← q0]
      exact (w2.kept f3 (by omega) (by omega) (by omega)).kept f4 (by omega) (by omega) (by omega)
    · subst e
      rw [← q1]
      exact w3.kept f4 (by omega) (by omega) (by omega)
    · subst e
      rw [← q2]
      exact w4
  · show upd f0 m (ldI (bar n m)) j = ldI (if j = m then bar n m else R j)
    unfold upd
    by_cases qj : j = m
    · rw [if_pos qj, if_pos qj]
    · rw [if_neg qj, if_neg qj]
      exact z2 j (by omega)
end CB9
