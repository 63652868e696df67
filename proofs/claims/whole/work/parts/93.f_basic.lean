/-! THE REFERENCE: freeColumn, basic, clears -/
def bsc (R : Nat → Int) (rof : Nat → Option Nat) (f c : Nat) : Int := if c = f then R 8 else match rof c with
  | none => 0
  | some r => - R (20 + 17 * r + f)
def RQ (ro : Nat → Int32) (rof : Nat → Option Nat) (u : Nat) : Prop := (∀ c, c < u → ro c = roI (rof c)) ∧ ∀ c r, rof c = some r → r < 16
theorem RQ.m1 {ro : Nat → Int32} {rof : Nat → Option Nat} {u c : Nat} (x : RQ ro rof u) : roI (rof c) = -1 ↔ rof c = none := roI_m1 (fun r hr => by have := x.2 c r hr; omega)
section SM2
variable {h : eH} {jt mb hi wi rk co : Int32} {ro : Nat → Int32} {s : SC} {R : Nat → Int} {n : NT} {rof : Nat → Option Nat} {u : Nat}
theorem m52_loop {i : Int} (rq : RQ ro rof u) (hu : u ≤ 17) (hi' : iok i) : ∀ r c (seen : Nat), c + r = u → (seen : Int) ≤ i → ru 52 5 [some (.ref 239), some (.int (nI u)), some (.int (iI i)), some (.int (iI (i - seen))), some (.int (nI c))] [] (hK h jt mb hi wi rk co ro R s) = some (some (.int (roI (fcl rof i r c seen))), hK h jt mb hi wi rk co ro R s) := by
  intro r
  induction r with
  | zero =>
    intro c seen hc _
    have : c = u := by omega
    subst this
    rw [H52_5]
    simp only [S52, gFs, pFs, okq, bls, bo_true, eUp_at, eUp_eUp, eKls, cl_some, Option.toList_some, Option.toList_none, List.cons_append, List.nil_append]
    rw [if_pos (nI_le (Nat.le_refl _) (by omega)), H52_38]
    simp only [S52, gFs, pFs, okq, bls, bo_true, eUp_at, eUp_eUp, eKls, cl_some, Option.toList_some, Option.toList_none, List.cons_append, List.nil_append]
    rfl
  | succ r ih =>
    intro c seen hc hs
    have ki : iok (i - seen) := by unfold iok at *; omega
    rw [H52_5]
    simp only [S52, gFs, pFs, okq, bls, bo_true, eUp_at, eUp_eUp, eKls, cl_some, Option.toList_some, Option.toList_none, List.cons_append, List.nil_append]
    rw [if_neg (nI_ge (by omega) (by omega))]
    simp only [S52, gFs, pFs, okq, bls, bo_true, eUp_at, eUp_eUp, eKls, cl_some, Option.toList_some, Option.toList_none, List.cons_append, List.nil_append, hK_o, hK_ro]
    rw [aI_nI (by omega) (by decide), rq.1 c (by omega)]
    unfold fcl
    by_cases q : rof c = none
    · rw [if_pos (rq.m1.mpr q), if_pos q]
      by_cases q2 : (seen : Int) = i
      · rw [if_pos (by rw [q2, Int.sub_self]; rfl), if_pos q2]
        rfl
      · rw [if_neg (fun e => q2 (by rw [show (0 : Int32) = iI 0 from rfl, iI_eq ki iok_0] at e; omega)), if_neg q2]
        rw [show (-1 : Int32) = iI (-1) from rfl, iI_add, show i - (seen : Int) + -1 = i - ((seen + 1 : Nat) : Int) by omega, nI_1]
        exact ih (c + 1) (seen + 1) (by omega) (by omega)
    · rw [if_neg (fun e => q (rq.m1.mp e)), if_neg q]
      rw [nI_1]
      exact ih (c + 1) seen (by omega) hs
theorem m52 {i : Int} (rq : RQ ro rof u) (hu : u ≤ 17) (hi' : iok i) (i0 : 0 ≤ i) : den 52 [.ref 239, .int (nI u), .int (iI i)] (hK h jt mb hi wi rk co ro R s) = some (some (.int (roI (fcl rof i u 0 0))), hK h jt mb hi wi rk co ro R s) := by
  have l := m52_loop (h := h) (jt := jt) (mb := mb) (hi := hi) (wi := wi) (rk := rk) (co := co) (ro := ro) (s := s) (R := R) rq hu hi' u 0 0 (by omega) i0
  rw [show i - ((0 : Nat) : Int) = i by omega] at l
  rw [E52 239 _ _ hK_o, ← l]
  simp only [S52, gFs, pFs, okq, bls, bo_true, eUp_at, eUp_eUp, eKls, cl_some, Option.toList_some, Option.toList_none, List.cons_append, List.nil_append]
theorem m22 {f c : Nat} (rq : RQ ro rof u) (hu : u ≤ 17) (hc : c < u) (hf : f < 17) (hb : ∀ r, rof c = some r → n23 (R (20 + 17 * r + f))) : den 22 [.ref 239, .int (nI f), .int (nI c)] (hK h jt mb hi wi rk co ro R s) = some (none, hK h jt mb hi wi rk co ro (ur R 5 (bsc R rof f c)) s) := by
  rw [E22 239 _ _ hK_o]
  simp only [S22, gFs, pFs, okq, bls, bo_true, eUp_at, eUp_eUp, eKls, cl_some, Option.toList_some, Option.toList_none, List.cons_append, List.nil_append]
  unfold bsc
  by_cases q : c = f
  · rw [if_pos (by rw [q]), if_pos q]
    simp only [S22, gFs, pFs, okq, bls, bo_true, eUp_at, eUp_eUp, eKls, cl_some, Option.toList_some, Option.toList_none, List.cons_append, List.nil_append, m20 (h := h) (jt := jt) (mb := mb) (hi := hi) (wi := wi) (rk := rk) (co := co) (ro := ro) (s := s) (R := R) (show 5 < 412 by decide) (show 8 < 412 by decide) (by decide)]
  · rw [if_neg (fun e => q ((nI_inj (by omega) (by omega)).mp e)), if_neg q]
    simp only [S22, gFs, pFs, okq, bls, bo_true, eUp_at, eUp_eUp, eKls, cl_some, Option.toList_some, Option.toList_none, List.cons_append, List.nil_append, hK_o, hK_ro]
    rw [aI_nI (by omega) (by decide), rq.1 c hc]
    cases hr : rof c with
    | none =>
      rw [if_pos (show roI none = -1 from rfl)]
      simp only [S22, gFs, pFs, okq, bls, bo_true, eUp_at, eUp_eUp, eKls, cl_some, Option.toList_some, Option.toList_none, List.cons_append, List.nil_append, show (lN 0 : Int64) = lI 0 from rfl, m12 (h := h) (jt := jt) (mb := mb) (hi := hi) (wi := wi) (rk := rk) (co := co) (ro := ro) (s := s) (R := R) (v := 0) (show 5 < 412 by decide) (by decide)]
    | some r =>
      have h16 := rq.2 c r hr
      have e1 := m20 (h := h) (jt := jt) (mb := mb) (hi := hi) (wi := wi) (rk := rk) (co := co) (ro := ro) (s := s) (R := R) (show 5 < 412 by decide) (show 20 + 17 * r + f < 412 by omega) (by omega)
      have e2 := m18 (h := h) (jt := jt) (mb := mb) (hi := hi) (wi := wi) (rk := rk) (co := co) (ro := ro) (s := s) (R := ur R 5 (R (20 + 17 * r + f))) (show 5 < 412 by decide) (by rw [ur_at]; exact hb r hr)
      rw [ur_at, ur_ur] at e2
      rw [if_neg (show ¬ roI (some r) = -1 from nI_nm1 (by omega))]
      simp only [S22, gFs, pFs, okq, bls, bo_true, eUp_at, eUp_eUp, eKls, cl_some, Option.toList_some, Option.toList_none, List.cons_append, List.nil_append, hK_o, hK_ro]
      rw [aI_nI (by omega) (by decide), rq.1 c hc, hr]
      simp only [S22, gFs, pFs, okq, bls, bo_true, eUp_at, eUp_eUp, eKls, cl_some, Option.toList_some, Option.toList_none, List.cons_append, List.nil_append, show roI (some r) = nI r from rfl, m21, e1, e2]
end SM2
/-! clears: a row is cleared by the pivot's row -/
def cel (i j : Nat) : Nat := 20 + 17 * i + j
theorem cel_inj {i j i' j' : Nat} (hj : j < 17) (hj' : j' < 17) : cel i j = cel i' j' ↔ i = i' ∧ j = j' := by
  unfold cel
  constructor
  · intro e; omega
  · intro ⟨a, b⟩; rw [a, b]
theorem n23_5 {x : Int} (h : x.natAbs < BB ^ 5) : n23 x := Nat.lt_trans h (Nat.pow_lt_pow_right (by decide) (by decide))
theorem n23_pr {x y : Int} (hx : x.natAbs < BB ^ 5) (hy : y.natAbs < BB ^ 5) : (x * y).natAbs < BB ^ 10 := by
  rw [Int.natAbs_mul, show BB ^ 10 = BB ^ 5 * BB ^ 5 by rw [← Nat.pow_add]]
  exact Nat.mul_lt_mul'' hx hy
theorem n23_10 {x : Int} (h : x.natAbs < BB ^ 10) : n23 x := Nat.lt_trans h (Nat.pow_lt_pow_right (by decide) (by decide))
theorem n23_df {x y : Int} (hx : x.natAbs < BB ^ 10) (hy : y.natAbs < BB ^ 10) : n23 (x + y * -1) := by
  have h1 : (x + y * -1).natAbs < BB ^ 10 + BB ^ 10 := by omega
  exact Nat.lt_trans h1 (by unfold BB; decide)
section CL1
variable {h : eH} {jt mb hi rk co : Int32} {ro : Nat → Int32} {i c p w hh : Nat} {M : Nat → Nat → Int} {bot : Int}
/-- the registers while row i is cleared: columns below j are new -/
def CR (R R0 : Nat → Int) (M : Nat → Nat → Int) (i c p w j : Nat) (bot : Int) : Prop := (∀ x, x < w → R (cel i x) = if x < j then (M p c * M i x - M i c * M p x).tdiv bot else M i x) ∧ R 10 = M i c ∧ R 8 = bot ∧ ∀ k, k ≠ 6 → k ≠ 7 → k ≠ 10 → (∀ x, x < w → k ≠ cel i x) → R k = R0 k
theorem m30_loop {R0 : Nat → Int} (hi16 : i < 16) (hp16 : p < 16) (hip : i ≠ p) (hw : w ≤ 17) (hc : c < w) (hM : ∀ x, x < w → R0 (cel p x) = M p x) (hb : ∀ x, x < w → (M i x).natAbs < BB ^ 5 ∧ (M p x).natAbs < BB ^ 5) (b0 : bot ≠ 0) (bb : bot.natAbs < BB ^ 5) : ∀ r j (R : Nat → Int) (s : SC), j + r = w → CR R R0 M i c p w j bot → ∃ R' s', ru 30 14 [some (.ref 239), some (.int (nI i)), some (.int (nI c)), some (.int (nI j))] [] (hK h jt mb hi (nI w) (nI p) co ro R s) = some (none, hK h jt mb hi (nI w) (nI p) co ro R' s') ∧ CR R' R0 M i c p w w bot := by
  intro r
  induction r with
  | zero =>
    intro j R s hj cr
    have : j = w := by omega
    subst this
    refine ⟨R, s, ?_, cr⟩
    rw [H30_14]
    simp only [S30, gFs, pFs, okq, bls, bo_true, eUp_at, eUp_eUp, eKls, cl_some, Option.toList_some, Option.toList_none, List.cons_append, List.nil_append, hK_o]
    rw [if_pos (nI_le (Nat.le_refl _) (by omega))]
  | succ r ih =>
    intro j R s hj cr
    obtain ⟨c1, c2, c3, c4⟩ := cr
    have hjw : j < w := by omega
    have hcp : ∀ x, x < w → cel p x ≠ 6 ∧ cel p x ≠ 7 ∧ cel p x ≠ 10 ∧ cel p x ≠ 8 ∧ cel p x < 412 := fun x hx => by unfold cel; omega
    have hci : ∀ x, x < w → cel i x ≠ 6 ∧ cel i x ≠ 7 ∧ cel i x ≠ 10 ∧ cel i x ≠ 8 ∧ cel i x < 412 := fun x hx => by unfold cel; omega
    have hpi : ∀ x, x < w → ∀ y, y < w → cel p x ≠ cel i y := fun x hx y hy e => hip (((cel_inj (by omega) (by omega)).mp e).1).symm
    have rp : ∀ x, x < w → R (cel p x) = M p x := fun x hx => by rw [c4 _ (hcp x hx).1 (hcp x hx).2.1 (hcp x hx).2.2.1 (hpi x hx)]; exact hM x hx
    have ri : R (cel i j) = M i j := by rw [c1 j hjw, if_neg (Nat.lt_irrefl _)]
    have bij := (hb j hjw).1
    have bpc := (hb c hc).2
    have bic := (hb c hc).1
    have bpj := (hb j hjw).2
    obtain ⟨s1, e1⟩ := m27 (h := h) (jt := jt) (mb := mb) (hi := hi) (wi := nI w) (rk := nI p) (co := co) (ro := ro) (s := s) (R := R) (t := 6) (a := cel i j) (b := cel p c) (by decide) (hci j hjw).2.2.2.2 (hcp c hc).2.2.2.2 (by rw [ri]; exact n23_5 bij) (by rw [rp c hc]; exact n23_5 bpc) (by rw [ri, rp c hc]; exact n23_10 (n23_pr bij bpc))
    rw [ri, rp c hc] at e1
    have f1 : ur R 6 (M i j * M p c) 10 = M i c := by rw [ur_ne (by decide)]; exact c2
    have f2 : ur R 6 (M i j * M p c) (cel p j) = M p j := by rw [ur_ne (hcp j hjw).1]; exact rp j hjw
    obtain ⟨s2, e2⟩ := m27 (h := h) (jt := jt) (mb := mb) (hi := hi) (wi := nI w) (rk := nI p) (co := co) (ro := ro) (s := s1) (R := ur R 6 (M i j * M p c)) (t := 7) (a := 10) (b := cel p j) (by decide) (by decide) (hcp j hjw).2.2.2.2 (by rw [f1]; exact n23_5 bic) (by rw [f2]; exact n23_5 bpj) (by rw [f1, f2]; exact n23_10 (n23_pr bic bpj))
    rw [f1, f2] at e2
    have f3 : ur (ur R 6 (M i j * M p c)) 7 (M i c * M p j) 6 = M i j * M p c := by rw [ur_ne (by decide), ur_at]
    have f4 : ur (ur R 6 (M i j * M p c)) 7 (M i c * M p j) 7 = M i c * M p j := by rw [ur_at]
    have e3 := m15 (h := h) (jt := jt) (mb := mb) (hi := hi) (wi := nI w) (rk := nI p) (co := co) (ro := ro) (s := s2) (R := ur (ur R 6 (M i j * M p c)) 7 (M i c * M p j)) (t := -1) (show 6 < 412 by decide) (show 7 < 412 by decide) (by decide) (by rw [f3]; exact n23_10 (n23_pr bij bpc)) (by rw [f4]; exact n23_10 (n23_pr bic bpj)) (by decide)
    rw [f3, f4] at e3
    obtain ⟨R3, hR3⟩ : ∃ R3, R3 = ur (ur (ur R 6 (M i j * M p c)) 7 (M i c * M p j)) 6 (M i j * M p c + M i c * M p j * -1) := ⟨_, rfl⟩
    rw [← hR3] at e3
    have k3 : ∀ k, k ≠ 6 → k ≠ 7 → R3 k = R k := fun k k1 k2 => by rw [hR3, ur_ne k1, ur_ne k2, ur_ne k1]
    have g6 : R3 6 = M i j * M p c + M i c * M p j * -1 := by rw [hR3, ur_at]
    have g8 : R3 8 = bot := by rw [k3 8 (by decide) (by decide)]; exact c3
    obtain ⟨s3, e4⟩ := m29 (h := h) (jt := jt) (mb := mb) (hi := hi) (wi := nI w) (rk := nI p) (co := co) (ro := ro) (s := s2) (R := R3) (show 6 < 412 by decide) (show 8 < 412 by decide) (by rw [g6]; exact n23_df (n23_pr bij bpc) (n23_pr bic bpj)) (by rw [g8]; exact n23_5 bb) (by rw [g8]; exact b0)
    rw [g6, g8] at e4
    have e5 := m20 (h := h) (jt := jt) (mb := mb) (hi := hi) (wi := nI w) (rk := nI p) (co := co) (ro := ro) (s := s3) (R := ur R3 6 ((M i j * M p c + M i c * M p j * -1).tdiv bot)) (hci j hjw).2.2.2.2 (show 6 < 412 by decide) (fun e => (hci j hjw).1 e.symm)
    rw [ur_at] at e5
    have nw : M i j * M p c + M i c * M p j * -1 = M p c * M i j - M i c * M p j := by rw [Int.mul_comm (M i j)]; omega
    rw [nw] at e4 e5
    obtain ⟨R', s', z1, z2⟩ := ih (j + 1) (ur (ur R3 6 ((M p c * M i j - M i c * M p j).tdiv bot)) (cel i j) ((M p c * M i j - M i c * M p j).tdiv bot)) s3 (by omega) (by
      refine ⟨fun x hx => ?_, ?_, ?_, fun k k1 k2 k3' k4 => ?_⟩
      · by_cases q : x = j
        · rw [q, ur_at, if_pos (Nat.lt_succ_self _)]
        · rw [ur_ne (fun e => q ((cel_inj (by omega) (by omega)).mp e).2), ur_ne (hci x hx).1, k3 _ (hci x hx).1 (hci x hx).2.1, c1 x hx]
          by_cases q2 : x < j
          · rw [if_pos q2, if_pos (by omega)]
          · rw [if_neg q2, if_neg (by omega)]
      · rw [ur_ne (fun e => (hci j hjw).2.2.1 e.symm), ur_ne (by decide), k3 10 (by decide) (by decide)]; exact c2
      · rw [ur_ne (fun e => (hci j hjw).2.2.2.1 e.symm), ur_ne (by decide)]; exact g8
      · rw [ur_ne (k4 j hjw), ur_ne k1, k3 k k1 k2]; exact c4 k k1 k2 k3' k4)
    refine ⟨R', s', ?_, z2⟩
    rw [← z1, H30_14]
    simp only [S30, gFs, pFs, okq, bls, bo_true, eUp_at, eUp_eUp, eKls, cl_some, Option.toList_some, Option.toList_none, List.cons_append, List.nil_append, hK_o]
    rw [if_neg (nI_ge hjw (by omega))]
    have u1 : 20 + 17 * i + j = cel i j := rfl
    have u2 : 20 + 17 * p + c = cel p c := rfl
    have u3 : 20 + 17 * p + j = cel p j := rfl
    simp only [S30, gFs, pFs, okq, bls, bo_true, eUp_at, eUp_eUp, eKls, cl_some, Option.toList_some, Option.toList_none, List.cons_append, List.nil_append, hK_o, m21, u1, u2, u3, e1, e2, show (-lN 1 : Int64) = lI (-1) from rfl, e3, e4, e5]
    rw [nI_1]
theorem m30 {R : Nat → Int} {s : SC} (hi16 : i < 16) (hp16 : p < 16) (hip : i ≠ p) (hw : w ≤ 17) (hc : c < w) (hM : ∀ x, x < w → R (cel p x) = M p x) (hMi : ∀ x, x < w → R (cel i x) = M i x) (hb : ∀ x, x < w → (M i x).natAbs < BB ^ 5 ∧ (M p x).natAbs < BB ^ 5) (h8 : R 8 = bot) (b0 : bot ≠ 0) (bb : bot.natAbs < BB ^ 5) : ∃ R' s', den 30 [.ref 239, .int (nI i), .int (nI c)] (hK h jt mb hi (nI w) (nI p) co ro R s) = some (none, hK h jt mb hi (nI w) (nI p) co ro R' s') ∧ CR R' R M i c p w w bot := by
  have hcc : cel i c < 412 ∧ cel i c ≠ 10 := by unfold cel; omega
  have e0 := m20 (h := h) (jt := jt) (mb := mb) (hi := hi) (wi := nI w) (rk := nI p) (co := co) (ro := ro) (s := s) (R := R) (show 10 < 412 by decide) hcc.1 hcc.2
  rw [hMi c hc] at e0
  obtain ⟨R', s', z1, z2⟩ := m30_loop (h := h) (jt := jt) (mb := mb) (hi := hi) (co := co) (ro := ro) hi16 hp16 hip hw hc hM hb b0 bb w 0 (ur R 10 (M i c)) s (by omega) (by
    refine ⟨fun x hx => ?_, ur_at _ _ _, ?_, fun k k1 k2 k3 k4 => ur_ne k3⟩
    · rw [ur_ne (by unfold cel; omega), if_neg (Nat.not_lt_zero _)]; exact hMi x hx
    · rw [ur_ne (by decide)]; exact h8)
  refine ⟨R', s', ?_, z2⟩
  rw [← z1, E30 239 _ _ hK_o]
  have u1 : 20 + 17 * i + c = cel i c := rfl
  simp only [S30, gFs, pFs, okq, bls, bo_true, eUp_at, eUp_eUp, eKls, cl_some, Option.toList_some, Option.toList_none, List.cons_append, List.nil_append, m21, u1, e0]
end CL1
