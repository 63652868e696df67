/-! THE REFERENCE: leftOf, isEvenTold, even, left, look, part, told, count -/
section EV2
variable {h : eH} {g : SG} {n : NT} {jt hi wi rk co : Int32} {ro : Nat → Int32} {s : SC} {R : Nat → Int}
theorem m48_loop {k ax : Nat} {w : Bool} {v0 : Int} (hv : NV n) (mn : MNt h n) (hk : k < nJ n) (hx : ax < 2) : ∀ r m, m + r = nM n → ru 48 34 [some (.ref 239), some (.int (nI k)), some (.int (nI ax)), some (.int (ldI w)), some (.long (lI (v0 + psum n k ax m))), none, some (.int (nI m))] [] (hK h jt (nI (nM n)) hi wi rk co ro R s) = some (some (.long (lI (v0 + psum n k ax (nM n)))), hK h jt (nI (nM n)) hi wi rk co ro R s) := by
  have v1 := hv.1
  intro r
  induction r with
  | zero =>
    intro m hm
    have : m = nM n := by omega
    subst this
    rw [H48_34]
    simp only [S48, gFs, pFs, okq, bls, bo_true, eUp_at, eUp_eUp, eKls, cl_some, Option.toList_some, Option.toList_none, List.cons_append, List.nil_append, hK_o]
    rw [if_pos (nI_le (Nat.le_refl _) (by omega)), H48_72]
    simp only [S48, gFs, pFs, okq, bls, bo_true, eUp_at, eUp_eUp, eKls, cl_some, Option.toList_some, Option.toList_none, List.cons_append, List.nil_append]
  | succ r ih =>
    intro m hm
    have hmm : m < nM n := by omega
    have fl := far_le hv (k := k) (ax := ax) hmm
    have hu := (hv.2.2.2 m hmm).2.2.2.2
    have e1 := m24 (h := h) (jt := jt) (mb := nI (nM n)) (hi := hi) (wi := wi) (rk := rk) (co := co) (ro := ro) (s := s) (R := R) (n := n) (k := k) hv mn hmm (by omega) hx
    have es : psum n k ax (m + 1) = psum n k ax m + nU n m * far n m k ax := rfl
    have st := ih (m + 1) (by omega)
    rw [es] at st
    rw [← st, H48_34]
    simp only [S48, gFs, pFs, okq, bls, bo_true, eUp_at, eUp_eUp, eKls, cl_some, Option.toList_some, Option.toList_none, List.cons_append, List.nil_append, hK_o]
    rw [if_neg (nI_ge hmm (by omega))]
    simp only [S48, gFs, pFs, okq, bls, bo_true, eUp_at, eUp_eUp, eKls, cl_some, Option.toList_some, Option.toList_none, List.cons_append, List.nil_append, hK_hs, MNt.u (α := eR) mn hv hmm, iI_l (iok_s (show (nU n m).natAbs ≤ 1000000000 by omega)), e1, iI_l (iok_s (show (far n m k ax).natAbs ≤ 1000000000 by omega)), lI_mul, lI_add]
    rw [nI_1, Int.add_assoc]
theorem m48 {k ax : Nat} {w : Bool} (hv : NV n) (mn : MNt h n) (hk : k < nJ n) (hx : ax < 2) : den 48 [.ref 239, .int (nI k), .int (nI ax), .int (ldI w)] (hK h jt (nI (nM n)) hi wi rk co ro R s) = some (some (.long (lI (lft n w k ax))), hK h jt (nI (nM n)) hi wi rk co ro R s) := by
  have l0 := hv.2.2.1 0 k hk
  have l1 := hv.2.2.1 1 k hk
  have l := fun v0 => m48_loop (h := h) (jt := jt) (hi := hi) (wi := wi) (rk := rk) (co := co) (ro := ro) (s := s) (R := R) (w := w) (v0 := v0) hv mn hk hx (nM n) 0 (by omega)
  rw [show psum n k ax 0 = 0 from rfl] at l
  rw [E48 239 _ _ _ hK_o]
  simp only [S48, gFs, pFs, okq, bls, bo_true, eUp_at, eUp_eUp, eKls, cl_some, Option.toList_some, Option.toList_none, List.cons_append, List.nil_append, hK_o, hK_hs, MNt.lx (α := eR) mn hv hk, MNt.ly (α := eR) mn hv hk]
  unfold lft
  cases w with
  | false =>
    have l' := l 0
    rw [Int.add_zero, Int.zero_add] at l'
    rw [if_pos (show ldI false = 0 by decide), show (lN 0 : Int64) = lI 0 from rfl, l', if_neg (by decide), Int.add_zero]
  | true =>
    rw [if_neg (show ¬ ldI true = 0 by decide), if_pos rfl]
    rcases (by omega : ax = 0 ∨ ax = 1) with e | e
    · subst e
      have l' := l (nL n 0 k)
      rw [Int.add_zero] at l'
      rw [if_pos (show nI 0 = 0 by decide), iI_l (iok_s (by omega)), l', Int.add_comm]
    · subst e
      have l' := l (nL n 1 k)
      rw [Int.add_zero] at l'
      rw [if_neg (show ¬ nI 1 = 0 by decide), iI_l (iok_s (by omega)), l', Int.add_comm]
theorem m49_loop {w : Bool} (hv : NV n) (mn : MNt h n) : ∀ r k, k + r = nJ n → ru 49 2 [some (.ref 239), some (.int (ldI w)), some (.int (nI k))] [] (hK h (nI (nJ n)) (nI (nM n)) hi wi rk co ro R s) = some (some (.int (ldI (evn n w r k))), hK h (nI (nJ n)) (nI (nM n)) hi wi rk co ro R s) := by
  have v1 := hv.1
  intro r
  induction r with
  | zero =>
    intro k hk
    have : k = nJ n := by omega
    subst this
    rw [H49_2]
    simp only [S49, gFs, pFs, okq, bls, bo_true, eUp_at, eUp_eUp, eKls, cl_some, Option.toList_some, Option.toList_none, List.cons_append, List.nil_append, hK_o]
    rw [if_pos (nI_le (Nat.le_refl _) (by omega)), H49_51]
    simp only [S49, gFs, pFs, okq, bls, bo_true, eUp_at, eUp_eUp, eKls, cl_some, Option.toList_some, Option.toList_none, List.cons_append, List.nil_append]
    rfl
  | succ r ih =>
    intro k hk
    have hkj : k < nJ n := by omega
    have e0 := m48 (h := h) (jt := nI (nJ n)) (hi := hi) (wi := wi) (rk := rk) (co := co) (ro := ro) (s := s) (R := R) (w := w) (ax := 0) hv mn hkj (by decide)
    have e1 := m48 (h := h) (jt := nI (nJ n)) (hi := hi) (wi := wi) (rk := rk) (co := co) (ro := ro) (s := s) (R := R) (w := w) (ax := 1) hv mn hkj (by decide)
    have b0 := lft_ok hv (w := w) (ax := 0) hkj
    have b1 := lft_ok hv (w := w) (ax := 1) hkj
    have c0 : lg_cmp (lI (lft n w k 0)) (lN 0) = 0 ↔ lft n w k 0 = 0 := by
      rw [lg_eq0, lN_I, lI_eq (by unfold lok; omega) (by unfold lok; omega)]
      rfl
    have c1 : lg_cmp (lI (lft n w k 1)) (lN 0) = 0 ↔ lft n w k 1 = 0 := by
      rw [lg_eq0, lN_I, lI_eq (by unfold lok; omega) (by unfold lok; omega)]
      rfl
    have st := ih (k + 1) (by omega)
    have ee : evn n w (r + 1) k = (evj n w k && evn n w r (k + 1)) := rfl
    rw [H49_2]
    simp only [S49, gFs, pFs, okq, bls, bo_true, eUp_at, eUp_eUp, eKls, cl_some, Option.toList_some, Option.toList_none, List.cons_append, List.nil_append, hK_o, hK_hs, MNt.fx (α := eR) mn hv hkj]
    rw [if_neg (nI_ge hkj (by omega)), ee]
    unfold evj
    cases q : nF n k with
    | true =>
      rw [if_neg (show ¬ ldI true = 0 by decide), Bool.true_or, Bool.true_and, nI_1]
      exact st
    | false =>
      rw [if_pos (show ldI false = 0 by decide), Bool.false_or]
      simp only [S49, gFs, pFs, okq, bls, bo_true, eUp_at, eUp_eUp, eKls, cl_some, Option.toList_some, Option.toList_none, List.cons_append, List.nil_append, e0]
      by_cases q0 : lft n w k 0 = 0
      · rw [if_pos (c0.mpr q0), decide_eq_true q0, Bool.true_and]
        simp only [S49, gFs, pFs, okq, bls, bo_true, eUp_at, eUp_eUp, eKls, cl_some, Option.toList_some, Option.toList_none, List.cons_append, List.nil_append, e1]
        by_cases q1 : lft n w k 1 = 0
        · rw [if_pos (c1.mpr q1), decide_eq_true q1, Bool.true_and, nI_1]
          exact st
        · rw [if_neg (fun e => q1 (c1.mp e)), decide_eq_false q1, Bool.false_and]
          rfl
      · rw [if_neg (fun e => q0 (c0.mp e)), decide_eq_false q0, Bool.false_and, Bool.false_and]
        rfl
theorem m49 {w : Bool} (hv : NV n) (mn : MNt h n) : den 49 [.ref 239, .int (ldI w)] (hK h (nI (nJ n)) (nI (nM n)) hi wi rk co ro R s) = some (some (.int (ldI (evn n w (nJ n) 0))), hK h (nI (nJ n)) (nI (nM n)) hi wi rk co ro R s) := by
  rw [E49 239 _ hK_o, ← m49_loop hv mn (nJ n) 0 (by omega)]
  simp only [S49, gFs, pFs, okq, bls, bo_true, eUp_at, eUp_eUp, eKls, cl_some, Option.toList_some, Option.toList_none, List.cons_append, List.nil_append]
theorem r50 (mi : MI h g) : ∃ h', den 50 [.ref 239] h = some (some (.int (ldI (evn g.2.1 true (nJ g.2.1) 0))), h') ∧ FJ h h' ∧ MI h' g := by
  refine mi.lift (t := g.2.2) mi.b.1 mi.b.2.1 (fun hi wi rk co ro R s r0 r1 mn hv ms => ?_)
  have e1 := m49 (h := h) (hi := hi) (wi := wi) (rk := rk) (co := co) (ro := ro) (s := s) (R := R) (w := true) hv mn
  rw [E50 239 hK_o]
  simp only [S50, gFs, pFs, okq, bls, bo_true, eUp_at, eUp_eUp, eKls, cl_some, Option.toList_some, Option.toList_none, List.cons_append, List.nil_append, show (nI 1 : Int32) = ldI true from rfl, e1]
  rw [ldI01]
  exact RT.fin r0 r1
theorem r60 {j x : Int} (mi : MI h g) (kj : iok j) (kx : iok x) : ∃ h', den 60 [.ref 239, .int (iI j), .int (iI x)] h = some (some (.int (ldI (leftB g.2.1 j x))), h') ∧ FJ h h' ∧ MI h' (leftS g j x) := by
  obtain ⟨c0, c1, hv0, -⟩ := mi.b
  have bt : leftB g.2.1 j x = true → n23 (lft g.2.1 true j.toNat x.toNat) := fun sb => by
    unfold leftB at sb
    simp only [Bool.and_eq_true, decide_eq_true_eq] at sb
    have := lft_ok hv0 (w := true) (ax := x.toNat) (show j.toNat < nJ g.2.1 by omega)
    exact n23_s (by omega)
  have goal := mi.lift (k := 60) (as := [.ref 239, .int (iI j), .int (iI x)]) (ret := some (.int (ldI (leftB g.2.1 j x)))) (t := if leftB g.2.1 j x = true then (lft g.2.1 true j.toNat x.toNat, 1) else g.2.2) (by split; exact (bt (by assumption)); exact c0) (by split; exact ⟨n23_s (show (1 : Int).natAbs ≤ 1000000000000 by decide), (show (1 : Int) ≠ 0 by decide)⟩; exact c1) (fun hi wi rk co ro R s r0 r1 mn hv ms => by
    have e3 := m55 (h := h) (mb := nI (nM g.2.1)) (hi := hi) (wi := wi) (rk := rk) (co := co) (ro := ro) (s := s) (R := R) hv kj
    have bad : leftB g.2.1 j x = false → RT h g.2.1 (some (some (.int (nI 0)), hK h (nI (nJ g.2.1)) (nI (nM g.2.1)) hi wi rk co ro R s)) (some (.int (ldI (leftB g.2.1 j x)))) (if leftB g.2.1 j x = true then (lft g.2.1 true j.toNat x.toNat, 1) else g.2.2) := fun sb => by
      rw [sb, if_neg (by decide)]
      exact RT.fin r0 r1
    rw [E60 239 _ _ hK_o]
    simp only [S60, gFs, pFs, okq, bls, bo_true, eUp_at, eUp_eUp, eKls, cl_some, Option.toList_some, Option.toList_none, List.cons_append, List.nil_append, e3]
    by_cases qj : 0 ≤ j ∧ j < nJ g.2.1
    · rw [decide_eq_true qj, if_neg (show ¬ ldI true = 0 by decide)]
      by_cases qx : x = 0 ∨ x = 1
      · rw [if_neg (fun e => by have := (lt0 kx).mp e; omega), if_pos (by rw [nI_I, iI_le kx (by unfold iok; omega)]; omega)]
        obtain ⟨jn, hjn⟩ : ∃ z : Nat, j = z := ⟨j.toNat, by omega⟩
        obtain ⟨xn, hxn⟩ : ∃ z : Nat, x = z := ⟨x.toNat, by omega⟩
        subst hjn hxn
        have hjn' : jn < nJ g.2.1 := by omega
        have sb : leftB g.2.1 jn xn = true := by
          unfold leftB
          rw [decide_eq_true qj, decide_eq_true qx]
          rfl
        have lo := lft_ok hv (w := true) (ax := xn) hjn'
        have e4 := m48 (h := h) (jt := nI (nJ g.2.1)) (hi := hi) (wi := wi) (rk := rk) (co := co) (ro := ro) (s := s) (R := R) (w := true) (ax := xn) hv mn hjn' (by omega)
        have e5 := m12 (h := h) (jt := nI (nJ g.2.1)) (mb := nI (nM g.2.1)) (hi := hi) (wi := wi) (rk := rk) (co := co) (ro := ro) (s := s) (R := R) (a := 5) (v := lft g.2.1 true jn xn) (by decide) (by omega)
        have e6 := m12 (h := h) (jt := nI (nJ g.2.1)) (mb := nI (nM g.2.1)) (hi := hi) (wi := wi) (rk := rk) (co := co) (ro := ro) (s := s) (R := ur R 5 (lft g.2.1 true jn xn)) (a := 6) (v := 1) (by decide) (by decide)
        have f5 : ur (ur R 5 (lft g.2.1 true jn xn)) 6 1 5 = lft g.2.1 true jn xn := by rw [ur_ne (by decide), ur_at]
        have f6 : ur (ur R 5 (lft g.2.1 true jn xn)) 6 1 6 = 1 := by rw [ur_at]
        obtain ⟨R2, s2, e7, z0, z1, -⟩ := m38 (h := h) (jt := nI (nJ g.2.1)) (mb := nI (nM g.2.1)) (hi := hi) (wi := wi) (rk := rk) (co := co) (ro := ro) (s := s) (R := ur (ur R 5 (lft g.2.1 true jn xn)) 6 1) (a := 5) (b := 6) (by decide) (by decide) (by decide) (by decide) (by rw [f5]; exact n23_s (by omega)) (by rw [f6]; exact n23_s (by decide)) (by rw [f6]; decide)
        rw [f5, f6, frac_1] at z0 z1
        rw [sb, if_pos rfl, Int.toNat_natCast, Int.toNat_natCast]
        simp only [S60, gFs, pFs, okq, bls, bo_true, eUp_at, eUp_eUp, eKls, cl_some, Option.toList_some, Option.toList_none, List.cons_append, List.nil_append, show iI (jn : Int) = nI jn from rfl, show iI (xn : Int) = nI xn from rfl, show (nI 1 : Int32) = ldI true from rfl, e4, e5, show (lN 1 : Int64) = lI 1 from rfl, e6, e7]
        exact RT.fin z0 z1
      · have fin := bad (by unfold leftB; rw [decide_eq_false qx, Bool.and_false])
        by_cases q2 : x < 0
        · rw [if_pos ((lt0 kx).mpr q2)]; exact fin
        · rw [if_neg (fun e => q2 ((lt0 kx).mp e)), if_neg (by rw [nI_I, iI_le kx (by unfold iok; omega)]; omega)]; exact fin
    · rw [decide_eq_false qj, if_pos (show ldI false = 0 by decide)]
      exact bad (by unfold leftB; rw [decide_eq_false qj, Bool.false_and]))
  unfold leftS
  by_cases sb : leftB g.2.1 j x = true
  · rw [if_pos sb] at goal ⊢; exact goal
  · rw [if_neg sb] at goal ⊢; exact goal
end EV2
