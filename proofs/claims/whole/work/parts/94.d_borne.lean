/-! THE REFERENCE: isBorne, borne, bears, shape -/
section AS3
variable {h : eH} {g : SG} {n : NT} {hi wi rk co : Int32} {ro : Nat → Int32} {s : SC} {R : Nat → Int}
theorem m33_loop {jt : Int32} {M : Nat → Nat → Int} {hh : Nat} (hv : NV n) (h16 : hh ≤ 16) (kc : KC R M hh (nM n + 1)) (hb : ∀ i j, i < hh → j < nM n + 1 → (M i j).natAbs < BB ^ 5) : ∀ r i, i + r = hh → ru 33 9 [some (.ref 239), some (.int (nI i))] [] (hK h jt (nI (nM n)) (nI hh) wi rk co ro R s) = some (some (.int (ldI (decide (fr M (nM n) r i = none)))), hK h jt (nI (nM n)) (nI hh) wi rk co ro R s) := by
  have v1 := hv.1
  intro r
  induction r with
  | zero =>
    intro i hi'
    have : i = hh := by omega
    subst this
    rw [H33_9]
    simp only [S33, gFs, pFs, okq, bls, bo_true, eUp_at, eUp_eUp, eKls, cl_some, Option.toList_some, Option.toList_none, List.cons_append, List.nil_append, hK_o]
    rw [if_pos (nI_le (Nat.le_refl _) (by omega)), H33_41]
    simp only [S33, gFs, pFs, okq, bls, bo_true, eUp_at, eUp_eUp, eKls, cl_some, Option.toList_some, Option.toList_none, List.cons_append, List.nil_append]
    rfl
  | succ r ih =>
    intro i hi'
    have k1 := kc i (nM n) (by omega) (by omega)
    have e1 := m25 (h := h) (jt := jt) (mb := nI (nM n)) (hi := nI hh) (wi := wi) (rk := rk) (co := co) (ro := ro) (s := s) (R := R) (a := cel i (nM n)) (by unfold cel; omega) (by rw [k1]; exact n23_5 (hb i (nM n) (by omega) (by omega)))
    rw [k1] at e1
    have u1 : 20 + 17 * i + nM n = cel i (nM n) := rfl
    rw [H33_9]
    simp only [S33, gFs, pFs, okq, bls, bo_true, eUp_at, eUp_eUp, eKls, cl_some, Option.toList_some, Option.toList_none, List.cons_append, List.nil_append, hK_o]
    rw [if_neg (nI_ge (by omega) (by omega))]
    simp only [S33, gFs, pFs, okq, bls, bo_true, eUp_at, eUp_eUp, eKls, cl_some, Option.toList_some, Option.toList_none, List.cons_append, List.nil_append, m21, u1, e1]
    unfold fr
    by_cases q : M i (nM n) = 0
    · rw [decide_eq_true q, if_neg (show ¬ ldI true = 0 by decide), if_pos q, nI_1]
      exact ih (i + 1) (by omega)
    · rw [decide_eq_false q, if_pos (show ldI false = 0 by decide), if_neg q, decide_eq_false (fun e => by cases e)]
      rfl
theorem m33 (hv : NV n) (mn : MNt h n) (hb : HB n) : ∃ (R' : Nat → Int) (s' : SC) (ro' : Nat → Int32), den 33 [.ref 239] (hK h (nI (nJ n)) (nI (nM n)) hi wi rk co ro R s) = some (some (.int (ldI (decide (fr (sF n).1 (nM n) (2 * nFr n - (sF n).2.1) (sF n).2.1 = none)))), hK h (nI (nJ n)) (nI (nM n)) (nI (2 * nFr n)) (nI (nM n + 1)) (nI (sF n).2.1) co ro' R' s') ∧ KC R' (sF n).1 (2 * nFr n) (nM n + 1) ∧ R' 8 = (sF n).2.2.1 ∧ RQ ro' (sF n).2.2.2.1 (nM n) ∧ Kr PC R R' := by
  have v1 := hv.1
  have hFr := nFr_le hv
  have hrk := (sF_rk n).2
  obtain ⟨R1, s1, ro1, e1, k1, k2, k3, k4⟩ := m32 (h := h) (hi := hi) (wi := wi) (rk := rk) (co := co) (ro := ro) (s := s) (R := R) hv mn hb
  refine ⟨R1, s1, ro1, ?_, k1, k2, k3, k4⟩
  have l := m33_loop (h := h) (jt := nI (nJ n)) (wi := nI (nM n + 1)) (rk := nI (sF n).2.1) (co := co) (ro := ro1) (s := s1) (R := R1) (hh := 2 * nFr n) hv (by omega) k1 (hb.1 (nM n) (Nat.le_refl _)).1 (2 * nFr n - (sF n).2.1) (sF n).2.1 (by omega)
  rw [E33 239 hK_o, ← l]
  simp only [S33, gFs, pFs, okq, bls, bo_true, eUp_at, eUp_eUp, eKls, cl_some, Option.toList_some, Option.toList_none, List.cons_append, List.nil_append, e1, hK_o]
theorem r40 (hb : ∀ n, NV n → HB n) (mi : MI h g) : ∃ h', den 40 [.ref 239] h = some (some (.int (iI (borR g.2.1))), h') ∧ FJ h h' ∧ MI h' g := by
  refine mi.lift (t := g.2.2) mi.b.1 mi.b.2.1 (fun hi wi rk co ro R s r0 r1 mn hv ms => ?_)
  obtain ⟨R', s', ro', e1, k1, k2, k3, k4⟩ := m33 (h := h) (hi := hi) (wi := wi) (rk := rk) (co := co) (ro := ro) (s := s) (R := R) hv mn (hb _ hv)
  have q0 := (pc1 k4 0 (by decide)).trans r0
  have q1 := (pc1 k4 1 (by decide)).trans r1
  have v1 := hv.1
  have hrk := (sF_rk g.2.1).1
  rw [E40 239 hK_o]
  simp only [S40, gFs, pFs, okq, bls, bo_true, eUp_at, eUp_eUp, eKls, cl_some, Option.toList_some, Option.toList_none, List.cons_append, List.nil_append, e1, hK_o]
  unfold borR
  by_cases q : fr (sF g.2.1).1 (nM g.2.1) (2 * nFr g.2.1 - (sF g.2.1).2.1) (sF g.2.1).2.1 = none
  · rw [decide_eq_true q, if_neg (show ¬ ldI true = 0 by decide), if_pos q]
    by_cases q2 : (sF g.2.1).2.1 = nM g.2.1
    · rw [if_pos (by rw [q2]), if_pos q2]
      exact RT.fin q0 q1
    · rw [if_neg (fun e => q2 ((nI_inj (by omega) (by omega)).mp e)), if_neg q2]
      exact RT.fin q0 q1
  · rw [decide_eq_false q, if_pos (show ldI false = 0 by decide), if_neg q]
    exact RT.fin q0 q1
theorem r39 {m : Int} (hb : ∀ n, NV n → HB n) (mi : MI h g) (km : iok m) : ∃ h', den 39 [.ref 239, .int (iI m)] h = some (some (.int (ldI (berB g.2.1 m))), h') ∧ FJ h h' ∧ MI h' (berS g m) := by
  obtain ⟨c0, c1, hv0, -⟩ := mi.b
  have hbn := hb _ hv0
  have fx : n23 (fso (sF g.2.1) (nM g.2.1) m (nM g.2.1)) := n23_5 (fso_lt hbn.1 m (Nat.lt_succ_self _))
  have fb : n23 (sF g.2.1).2.2.1 := gbd_bot hbn.1
  have ff := frac_n23 fx fb (red_bot _ _ _)
  have goal := mi.lift (k := 39) (as := [.ref 239, .int (iI m)]) (ret := some (.int (ldI (berB g.2.1 m)))) (t := if berB g.2.1 m = true then frac (fso (sF g.2.1) (nM g.2.1) m (nM g.2.1)) (sF g.2.1).2.2.1 else g.2.2) (by split; exact ff.1; exact c0) (by split; exact ff.2; exact c1) (fun hi wi rk co ro R s r0 r1 mn hv ms => by
    obtain ⟨R1, s1, ro1, e1, k1, k2, k3, k4⟩ := m33 (h := h) (hi := hi) (wi := wi) (rk := rk) (co := co) (ro := ro) (s := s) (R := R) hv mn hbn
    have q0 := (pc1 k4 0 (by decide)).trans r0
    have q1 := (pc1 k4 1 (by decide)).trans r1
    have v1 := hv.1
    have hFr := nFr_le hv
    have e3 := m34 (h := h) (jt := nI (nJ g.2.1)) (hi := nI (2 * nFr g.2.1)) (wi := nI (nM g.2.1 + 1)) (rk := nI (sF g.2.1).2.1) (co := co) (ro := ro1) (s := s1) (R := R1) hv km
    have bad : berB g.2.1 m = false → RT h g.2.1 (some (some (.int (nI 0)), hK h (nI (nJ g.2.1)) (nI (nM g.2.1)) (nI (2 * nFr g.2.1)) (nI (nM g.2.1 + 1)) (nI (sF g.2.1).2.1) co ro1 R1 s1)) (some (.int (ldI (berB g.2.1 m)))) (if berB g.2.1 m = true then frac (fso (sF g.2.1) (nM g.2.1) m (nM g.2.1)) (sF g.2.1).2.2.1 else g.2.2) := fun sb => by
      rw [sb, if_neg (by decide)]
      exact RT.fin q0 q1
    rw [E39 239 _ hK_o]
    simp only [S39, gFs, pFs, okq, bls, bo_true, eUp_at, eUp_eUp, eKls, cl_some, Option.toList_some, Option.toList_none, List.cons_append, List.nil_append, e1, hK_o, e3]
    by_cases q : fr (sF g.2.1).1 (nM g.2.1) (2 * nFr g.2.1 - (sF g.2.1).2.1) (sF g.2.1).2.1 = none
    · rw [decide_eq_true q, if_neg (show ¬ ldI true = 0 by decide)]
      by_cases qm : 0 ≤ m ∧ m < nM g.2.1
      · obtain ⟨mn', hmn⟩ : ∃ z : Nat, m = z := ⟨m.toNat, by omega⟩
        subst hmn
        have sb : berB g.2.1 mn' = true := by
          unfold berB
          rw [decide_eq_true q, decide_eq_true qm]
          rfl
        have hro : ∀ c r, (sF g.2.1).2.2.2.1 c = some r → r < 2 * nFr g.2.1 := ro_hh
        rw [decide_eq_true qm, if_neg (show ¬ ldI true = 0 by decide), sb, if_pos rfl, show iI (mn' : Int) = nI mn' from rfl]
        simp only [S39, gFs, pFs, okq, bls, bo_true, eUp_at, eUp_eUp, eKls, cl_some, Option.toList_some, Option.toList_none, List.cons_append, List.nil_append, hK_o, hK_ro]
        rw [aI_nI (by omega) (by decide), k3.1 mn' (by omega)]
        have fs : fso (sF g.2.1) (nM g.2.1) mn' (nM g.2.1) = match (sF g.2.1).2.2.2.1 mn' with
          | none => 0
          | some r => (sF g.2.1).1 r (nM g.2.1) := by
          unfold fso
          rw [if_pos qm, Int.toNat_natCast]
          first | done | (cases (sF g.2.1).2.2.2.1 mn' <;> rfl)
        cases hr : (sF g.2.1).2.2.2.1 mn' with
        | none =>
          rw [hr] at fs
          have e4 := m12 (h := h) (jt := nI (nJ g.2.1)) (mb := nI (nM g.2.1)) (hi := nI (2 * nFr g.2.1)) (wi := nI (nM g.2.1 + 1)) (rk := nI (sF g.2.1).2.1) (co := co) (ro := ro1) (s := s1) (R := R1) (a := 5) (v := 0) (by decide) (by decide)
          obtain ⟨R2, s2, e5, z0, z1⟩ := m38' (h := h) (jt := nI (nJ g.2.1)) (mb := nI (nM g.2.1)) (hi := nI (2 * nFr g.2.1)) (wi := nI (nM g.2.1 + 1)) (rk := nI (sF g.2.1).2.1) (co := co) (ro := ro1) (s := s1) (R := ur R1 5 0) (ur_at _ _ _) ((ur_ne (by decide)).trans k2) (n23_s (by decide)) fb (red_bot _ _ _)
          rw [if_pos (show roI none = -1 from rfl), fs]
          simp only [S39, gFs, pFs, okq, bls, bo_true, eUp_at, eUp_eUp, eKls, cl_some, Option.toList_some, Option.toList_none, List.cons_append, List.nil_append, show (lN 0 : Int64) = lI 0 from rfl, e4, e5]
          exact RT.fin z0 z1
        | some r =>
          rw [hr] at fs
          have h16 := hro _ r hr
          have kk := k1 r (nM g.2.1) h16 (Nat.lt_succ_self _)
          have e4 := m20 (h := h) (jt := nI (nJ g.2.1)) (mb := nI (nM g.2.1)) (hi := nI (2 * nFr g.2.1)) (wi := nI (nM g.2.1 + 1)) (rk := nI (sF g.2.1).2.1) (co := co) (ro := ro1) (s := s1) (R := R1) (a := 5) (b := cel r (nM g.2.1)) (by decide) (by unfold cel; omega) (by unfold cel; omega)
          rw [kk] at e4
          obtain ⟨R2, s2, e5, z0, z1⟩ := m38' (h := h) (jt := nI (nJ g.2.1)) (mb := nI (nM g.2.1)) (hi := nI (2 * nFr g.2.1)) (wi := nI (nM g.2.1 + 1)) (rk := nI (sF g.2.1).2.1) (co := co) (ro := ro1) (s := s1) (R := ur R1 5 ((sF g.2.1).1 r (nM g.2.1))) (ur_at _ _ _) ((ur_ne (by decide)).trans k2) (by rw [fs] at fx; exact fx) fb (red_bot _ _ _)
          have u1 : 20 + 17 * r + nM g.2.1 = cel r (nM g.2.1) := rfl
          rw [if_neg (show ¬ roI (some r) = -1 from nI_nm1 (by omega)), fs]
          simp only [S39, gFs, pFs, okq, bls, bo_true, eUp_at, eUp_eUp, eKls, cl_some, Option.toList_some, Option.toList_none, List.cons_append, List.nil_append, hK_o, hK_ro]
          rw [aI_nI (by omega) (by decide), k3.1 mn' (by omega), hr]
          simp only [S39, gFs, pFs, okq, bls, bo_true, eUp_at, eUp_eUp, eKls, cl_some, Option.toList_some, Option.toList_none, List.cons_append, List.nil_append, show roI (some r) = nI r from rfl, m21, u1, e4, e5]
          exact RT.fin z0 z1
      · rw [decide_eq_false qm, if_pos (show ldI false = 0 by decide)]
        exact bad (by unfold berB; rw [decide_eq_false qm, Bool.false_and])
    · rw [decide_eq_false q, if_pos (show ldI false = 0 by decide)]
      exact bad (by unfold berB; rw [decide_eq_false q, Bool.and_false]))
  unfold berS
  by_cases sb : berB g.2.1 m = true
  · rw [if_pos sb] at goal ⊢; exact goal
  · rw [if_neg sb] at goal ⊢; exact goal
theorem fre_0 {rof : Nat → Option Nat} : ∀ {n : Nat}, fre rof n = 0 → ∀ c, c < n → rof c ≠ none := by
  intro n
  induction n with
  | zero => intro _ c hc; omega
  | succ n ih =>
    intro h c hc e
    have h' : fre rof n + (if rof n = none then 1 else 0) = 0 := h
    by_cases q : c = n
    · subst q
      rw [if_pos e] at h'
      omega
    · exact ih (by omega) c (by omega) e
theorem r70 {j x : Int} (hb : ∀ n, NV n → HB n) (mi : MI h g) (kj : iok j) (kx : iok x) : ∃ h', den 70 [.ref 239, .int (iI j), .int (iI x)] h = some (some (.int (ldI (shpB g.2.1 j x))), h') ∧ FJ h h' ∧ MI h' (shpS g j x) := by
  obtain ⟨c0, c1, hv0, -⟩ := mi.b
  have hbn := hb _ hv0
  have fb : n23 (sP g.2.1).2.2.1 := gbd_bot hbn.2.2.1
  obtain ⟨t, ht⟩ : ∃ t, t = (if nF g.2.1 j.toNat = true then (nP g.2.1 x.toNat j.toNat, 1) else frac (fso (sP g.2.1) (nFr g.2.1) (mvI (ordr g.2.1 j.toNat)) (nFr g.2.1 + x.toNat)) (sP g.2.1).2.2.1 : Int × Int) := ⟨_, rfl⟩
  have bt : shpB g.2.1 j x = true → n23 t.1 ∧ n23z t.2 := fun sb => by
    unfold shpB at sb
    simp only [Bool.and_eq_true, decide_eq_true_eq] at sb
    obtain ⟨-, sj, sx⟩ := sb
    rw [ht]
    split
    · have := hv0.2.1 x.toNat j.toNat (by omega)
      exact ⟨n23_s (show (nP g.2.1 x.toNat j.toNat).natAbs ≤ _ by omega), ⟨n23_s (show (1 : Int).natAbs ≤ 1000000000000 by decide), (show (1 : Int) ≠ 0 by decide)⟩⟩
    · exact frac_n23 (n23_5 (fso_lt hbn.2.2.1 _ (by omega))) fb (red_bot _ _ _)
  have goal := mi.lift (k := 70) (as := [.ref 239, .int (iI j), .int (iI x)]) (ret := some (.int (ldI (shpB g.2.1 j x)))) (t := if shpB g.2.1 j x = true then t else g.2.2) (by split; exact (bt (by assumption)).1; exact c0) (by split; exact (bt (by assumption)).2; exact c1) (fun hi wi rk co ro R s r0 r1 mn hv ms => by
    obtain ⟨R1, s1, ro1, e1, k1, k2, k3, k4⟩ := m56 (h := h) (hi := hi) (wi := wi) (rk := rk) (co := co) (ro := ro) (s := s) (R := R) hv mn hbn
    have q0 := (k4 0 (by decide)).trans r0
    have q1 := (k4 1 (by decide)).trans r1
    have v1 := hv.1
    have hFr := nFr_le hv
    have e3 := m55 (h := h) (mb := nI (nM g.2.1)) (hi := nI (nFr g.2.1)) (wi := nI (nFr g.2.1 + 2)) (rk := nI (sP g.2.1).2.1) (co := co) (ro := ro1) (s := s1) (R := R1) hv kj
    have bad : shpB g.2.1 j x = false → RT h g.2.1 (some (some (.int (nI 0)), hK h (nI (nJ g.2.1)) (nI (nM g.2.1)) (nI (nFr g.2.1)) (nI (nFr g.2.1 + 2)) (nI (sP g.2.1).2.1) co ro1 R1 s1)) (some (.int (ldI (shpB g.2.1 j x)))) (if shpB g.2.1 j x = true then t else g.2.2) := fun sb => by
      rw [sb, if_neg (by decide)]
      exact RT.fin q0 q1
    rw [E70 239 _ _ hK_o]
    simp only [S70, gFs, pFs, okq, bls, bo_true, eUp_at, eUp_eUp, eKls, cl_some, Option.toList_some, Option.toList_none, List.cons_append, List.nil_append, e1, hK_o, e3]
    by_cases q : (sP g.2.1).2.1 = nFr g.2.1
    · rw [decide_eq_true q, if_neg (show ¬ ldI true = 0 by decide)]
      by_cases qj : 0 ≤ j ∧ j < nJ g.2.1
      · rw [decide_eq_true qj, if_neg (show ¬ ldI true = 0 by decide)]
        by_cases qx : x = 0 ∨ x = 1
        · rw [if_neg (fun e => by have := (lt0 kx).mp e; omega), if_pos (by rw [nI_I, iI_le kx (by unfold iok; omega)]; omega)]
          obtain ⟨jn, hjn⟩ : ∃ z : Nat, j = z := ⟨j.toNat, by omega⟩
          obtain ⟨xn, hxn⟩ : ∃ z : Nat, x = z := ⟨x.toNat, by omega⟩
          subst hjn hxn
          have hjn' : jn < nJ g.2.1 := by omega
          have sb : shpB g.2.1 jn xn = true := by
            unfold shpB
            rw [decide_eq_true q, decide_eq_true qj, decide_eq_true qx]
            rfl
          rw [Int.toNat_natCast, Int.toNat_natCast] at ht
          rw [sb, if_pos rfl]
          simp only [S70, gFs, pFs, okq, bls, bo_true, eUp_at, eUp_eUp, eKls, cl_some, Option.toList_some, Option.toList_none, List.cons_append, List.nil_append, hK_o, hK_hs, show iI (jn : Int) = nI jn from rfl, show iI (xn : Int) = nI xn from rfl, MNt.fx (α := eR) mn hv hjn']
          by_cases qf : nF g.2.1 jn = true
          · rw [if_pos qf] at ht
            have p0 := hv.2.1 0 jn hjn'
            have p1 := hv.2.1 1 jn hjn'
            have fin : ∀ v : Int, -20 ≤ v → v ≤ 20 → v = nP g.2.1 xn jn → ∃ R2 s2, den 12 [.ref 239, .int (nI 5), .long (lI v)] (hK h (nI (nJ g.2.1)) (nI (nM g.2.1)) (nI (nFr g.2.1)) (nI (nFr g.2.1 + 2)) (nI (sP g.2.1).2.1) co ro1 R1 s1) = some (none, hK h (nI (nJ g.2.1)) (nI (nM g.2.1)) (nI (nFr g.2.1)) (nI (nFr g.2.1 + 2)) (nI (sP g.2.1).2.1) co ro1 (ur R1 5 v) s1) ∧ den 12 [.ref 239, .int (nI 6), .long (lI 1)] (hK h (nI (nJ g.2.1)) (nI (nM g.2.1)) (nI (nFr g.2.1)) (nI (nFr g.2.1 + 2)) (nI (sP g.2.1).2.1) co ro1 (ur R1 5 v) s1) = some (none, hK h (nI (nJ g.2.1)) (nI (nM g.2.1)) (nI (nFr g.2.1)) (nI (nFr g.2.1 + 2)) (nI (sP g.2.1).2.1) co ro1 (ur (ur R1 5 v) 6 1) s1) ∧ den 38 [.ref 239, .int (nI 5), .int (nI 6)] (hK h (nI (nJ g.2.1)) (nI (nM g.2.1)) (nI (nFr g.2.1)) (nI (nFr g.2.1 + 2)) (nI (sP g.2.1).2.1) co ro1 (ur (ur R1 5 v) 6 1) s1) = some (none, hK h (nI (nJ g.2.1)) (nI (nM g.2.1)) (nI (nFr g.2.1)) (nI (nFr g.2.1 + 2)) (nI (sP g.2.1).2.1) co ro1 R2 s2) ∧ R2 0 = t.1 ∧ R2 1 = t.2 := by
              intro v vl vh ve
              have f5 : ur (ur R1 5 v) 6 1 5 = v := by rw [ur_ne (by decide), ur_at]
              have f6 : ur (ur R1 5 v) 6 1 6 = 1 := by rw [ur_at]
              obtain ⟨R2, s2, e5, z0, z1, -⟩ := m38 (h := h) (jt := nI (nJ g.2.1)) (mb := nI (nM g.2.1)) (hi := nI (nFr g.2.1)) (wi := nI (nFr g.2.1 + 2)) (rk := nI (sP g.2.1).2.1) (co := co) (ro := ro1) (s := s1) (R := ur (ur R1 5 v) 6 1) (a := 5) (b := 6) (by decide) (by decide) (by decide) (by decide) (by rw [f5]; exact n23_s (by omega)) (by rw [f6]; exact n23_s (by decide)) (by rw [f6]; decide)
              rw [f5, f6, frac_1] at z0 z1
              exact ⟨R2, s2, m12 (by decide) (by omega), m12 (by decide) (by decide), e5, by rw [z0, ht, ve], by rw [z1, ht]⟩
            rw [qf, if_neg (show ¬ ldI true = 0 by decide)]
            simp only [S70, gFs, pFs, okq, bls, bo_true, eUp_at, eUp_eUp, eKls, cl_some, Option.toList_some, Option.toList_none, List.cons_append, List.nil_append, hK_o, hK_hs, MNt.x (α := eR) mn hv hjn', MNt.y (α := eR) mn hv hjn', iI_l (iok_s (show (nP g.2.1 0 jn).natAbs ≤ 1000000000 by omega)), iI_l (iok_s (show (nP g.2.1 1 jn).natAbs ≤ 1000000000 by omega))]
            rcases (by omega : xn = 0 ∨ xn = 1) with ex | ex
            · subst ex
              obtain ⟨R2, s2, e4, e5, e6, z0, z1⟩ := fin (nP g.2.1 0 jn) p0.1 p0.2 rfl
              rw [if_pos (show nI 0 = 0 by decide), e4]
              simp only [S70, gFs, pFs, okq, bls, bo_true, eUp_at, eUp_eUp, eKls, cl_some, Option.toList_some, Option.toList_none, List.cons_append, List.nil_append, show (lN 1 : Int64) = lI 1 from rfl, e5, e6]
              exact RT.fin z0 z1
            · subst ex
              obtain ⟨R2, s2, e4, e5, e6, z0, z1⟩ := fin (nP g.2.1 1 jn) p1.1 p1.2 rfl
              rw [if_neg (show ¬ nI 1 = 0 by decide), e4]
              simp only [S70, gFs, pFs, okq, bls, bo_true, eUp_at, eUp_eUp, eKls, cl_some, Option.toList_some, Option.toList_none, List.cons_append, List.nil_append, show (lN 1 : Int64) = lI 1 from rfl, e5, e6]
              exact RT.fin z0 z1
          · rw [if_neg qf] at ht
            have q' : nF g.2.1 jn = false := by cases z : nF g.2.1 jn with | true => exact absurd z qf | false => rfl
            have hc : cnt (nF g.2.1) jn < nFr g.2.1 := cnt_lt hjn' qf
            have eo : ordr g.2.1 jn = some (cnt (nF g.2.1) jn) := by unfold ordr; rw [if_neg qf]
            have e0 := m13 (h := h) (jt := nI (nJ g.2.1)) (mb := nI (nM g.2.1)) (hi := nI (nFr g.2.1)) (wi := nI (nFr g.2.1 + 2)) (rk := nI (sP g.2.1).2.1) (co := co) (ro := ro1) (s := s1) (R := R1) hv mn hjn'
            have e0' := m23 (h := h) (mb := nI (nM g.2.1)) (hi := nI (nFr g.2.1)) (wi := nI (nFr g.2.1 + 2)) (rk := nI (sP g.2.1).2.1) (co := co) (ro := ro1) (s := s1) (R := R1) hv mn
            rw [eo] at e0 ht
            have hz : fre (sP g.2.1).2.2.2.1 (nFr g.2.1) = 0 := by
              have := red_fre (nFr g.2.1) (pM g.2.1) (nFr g.2.1)
              unfold sP at q ⊢
              omega
            cases hr : (sP g.2.1).2.2.2.1 (cnt (nF g.2.1) jn) with
            | none => exact absurd hr (fre_0 hz _ hc)
            | some r =>
              have h16 : r < nFr g.2.1 := ro_hh _ r hr
              have fs : fso (sP g.2.1) (nFr g.2.1) (mvI (some (cnt (nF g.2.1) jn))) (nFr g.2.1 + xn) = (sP g.2.1).1 r (nFr g.2.1 + xn) := by
                unfold fso
                show (if 0 ≤ ((cnt (nF g.2.1) jn : Nat) : Int) ∧ ((cnt (nF g.2.1) jn : Nat) : Int) < nFr g.2.1 then (match (sP g.2.1).2.2.2.1 ((cnt (nF g.2.1) jn : Nat) : Int).toNat with
                  | none => 0
                  | some r => (sP g.2.1).1 r (nFr g.2.1 + xn)) else 0) = _
                rw [if_pos (by omega), Int.toNat_natCast, hr]
              have kk := k1 r (nFr g.2.1 + xn) h16 (by omega)
              have bk := (hbn.2.2.1 (nFr g.2.1) (Nat.le_refl _)).1 r (nFr g.2.1 + xn) h16 (by omega)
              have e4 := m20 (h := h) (jt := nI (nJ g.2.1)) (mb := nI (nM g.2.1)) (hi := nI (nFr g.2.1)) (wi := nI (nFr g.2.1 + 2)) (rk := nI (sP g.2.1).2.1) (co := co) (ro := ro1) (s := s1) (R := R1) (a := 5) (b := cel r (nFr g.2.1 + xn)) (by decide) (by unfold cel; omega) (by unfold cel; omega)
              rw [kk] at e4
              obtain ⟨R2, s2, e5, z0, z1⟩ := m38' (h := h) (jt := nI (nJ g.2.1)) (mb := nI (nM g.2.1)) (hi := nI (nFr g.2.1)) (wi := nI (nFr g.2.1 + 2)) (rk := nI (sP g.2.1).2.1) (co := co) (ro := ro1) (s := s1) (R := ur R1 5 ((sP g.2.1).1 r (nFr g.2.1 + xn))) (ur_at _ _ _) ((ur_ne (by decide)).trans k2) (n23_5 bk) fb (red_bot _ _ _)
              have u1 : 20 + 17 * r + (nFr g.2.1 + xn) = cel r (nFr g.2.1 + xn) := rfl
              rw [q', if_pos (show ldI false = 0 by decide)]
              simp only [S70, gFs, pFs, okq, bls, bo_true, eUp_at, eUp_eUp, eKls, cl_some, Option.toList_some, Option.toList_none, List.cons_append, List.nil_append, hK_o, hK_ro, e0, show roI (some (cnt (nF g.2.1) jn)) = nI (cnt (nF g.2.1) jn) from rfl]
              rw [aI_nI (by omega) (by decide), k3.1 _ hc, hr]
              simp only [S70, gFs, pFs, okq, bls, bo_true, eUp_at, eUp_eUp, eKls, cl_some, Option.toList_some, Option.toList_none, List.cons_append, List.nil_append, show roI (some r) = nI r from rfl, e0', nI_add, m21, u1, e4, e5]
              rw [fs] at ht
              exact RT.fin (by rw [z0, ht]) (by rw [z1, ht])
        · have fin := bad (by unfold shpB; rw [decide_eq_false qx, Bool.and_false, Bool.and_false])
          by_cases q2 : x < 0
          · rw [if_pos ((lt0 kx).mpr q2)]; exact fin
          · rw [if_neg (fun e => q2 ((lt0 kx).mp e)), if_neg (by rw [nI_I, iI_le kx (by unfold iok; omega)]; omega)]; exact fin
      · rw [decide_eq_false qj, if_pos (show ldI false = 0 by decide)]
        exact bad (by unfold shpB; rw [decide_eq_false qj, Bool.false_and, Bool.and_false])
    · rw [decide_eq_false q, if_pos (show ldI false = 0 by decide)]
      exact bad (by unfold shpB; rw [decide_eq_false q, Bool.false_and]))
  unfold shpS
  rw [← ht]
  by_cases sb : shpB g.2.1 j x = true
  · rw [if_pos sb] at goal ⊢; exact goal
  · rw [if_neg sb] at goal ⊢; exact goal
end AS3
