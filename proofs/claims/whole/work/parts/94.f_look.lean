/-! THE REFERENCE: look, part, told, count -/
section LK1
variable {h : eH} {g : SG} {n : NT} {jt mb hi wi rk co : Int32} {ro : Nat → Int32} {s : SC} {R : Nat → Int}
theorem r63 {w : Int} (mi : MI h g) (kw : iok w) : ∃ h', den 63 [.ref 239, .int (iI w)] h = some (some (.int (iI (lookR g.2.2 w))), h') ∧ FJ h h' ∧ MI h' g := by
  obtain ⟨b0, b1, -, -⟩ := mi.b
  refine mi.lift (t := g.2.2) b0 b1 (fun hi wi rk co ro R s r0 r1 mn hv ms => ?_)
  have cw : ∀ z : Nat, z ≤ 20 → (iI w = nI z ↔ w = z) := fun z hz => by rw [nI_I]; exact iI_eq kw (by unfold iok; omega)
  have c0 : iI w = 0 ↔ w = 0 := by rw [show (0 : Int32) = iI 0 from by decide]; exact iI_eq kw iok_0
  rw [E63 239 _ hK_o]
  simp only [S63, gFs, pFs, okq, bls, bo_true, eUp_at, eUp_eUp, eKls, cl_some, Option.toList_some, Option.toList_none, List.cons_append, List.nil_append]
  unfold lookR
  by_cases w0 : w = 0
  · have e1 := m42 (h := h) (jt := nI (nJ g.2.1)) (mb := nI (nM g.2.1)) (hi := hi) (wi := wi) (rk := rk) (co := co) (ro := ro) (s := s) (R := R) (a := 0) (by decide) (by rw [r0]; exact b0)
    rw [r0] at e1
    rw [if_pos (c0.mpr w0), if_pos w0]
    simp only [S63, gFs, pFs, okq, bls, bo_true, eUp_at, eUp_eUp, eKls, cl_some, Option.toList_some, Option.toList_none, List.cons_append, List.nil_append, e1]
    exact RT.fin r0 r1
  · rw [if_neg (fun e => w0 (c0.mp e)), if_neg w0]
    have fin : ∀ (a : Nat), a < 2 → ∀ z, R a = z → n23 z → ∃ s', den 19 [.ref 239, .int (nI a), .ref 253] (hK h (nI (nJ g.2.1)) (nI (nM g.2.1)) hi wi rk co ro R s) = some (none, hK h (nI (nJ g.2.1)) (nI (nM g.2.1)) hi wi rk co ro R s') ∧ den 62 [.ref 239, .ref 253] (hK h (nI (nJ g.2.1)) (nI (nM g.2.1)) hi wi rk co ro R s') = some (some (.int (nI (if nd z.natAbs = 0 then 1 else nd z.natAbs))), hK h (nI (nJ g.2.1)) (nI (nM g.2.1)) hi wi rk co ro R s') := by
      intro a ha z hz bz
      obtain ⟨s', e1, ln⟩ := m19 (h := h) (jt := nI (nJ g.2.1)) (mb := nI (nM g.2.1)) (hi := hi) (wi := wi) (rk := rk) (co := co) (ro := ro) (s := s) (R := R) (a := a) (by omega) (by rw [hz]; exact bz)
      rw [hz] at ln
      have n24 : nd z.natAbs ≤ 24 := Nat.le_trans (nd_le.mpr bz) (by decide)
      have e2 := d26 ln n24
      refine ⟨s', e1, ?_⟩
      rw [E62 239 253 hK_o]
      simp only [S62, gFs, pFs, okq, bls, bo_true, eUp_at, eUp_eUp, eKls, cl_some, Option.toList_some, Option.toList_none, List.cons_append, List.nil_append, e2]
      by_cases q : nd z.natAbs = 0
      · rw [if_pos (by rw [q]; rfl), if_pos q]
      · rw [if_neg (nI_ne0 (by omega) (by omega)), if_neg q]
    by_cases w1 : w = 1
    · obtain ⟨s', e1, e2⟩ := fin 0 (by decide) _ r0 b0
      rw [if_pos ((cw 1 (by decide)).mpr w1), if_pos ((cw 1 (by decide)).mpr w1), if_pos w1]
      simp only [S63, gFs, pFs, okq, bls, bo_true, eUp_at, eUp_eUp, eKls, cl_some, Option.toList_some, Option.toList_none, List.cons_append, List.nil_append, hK_o, e1, e2]
      exact RT.fin r0 r1
    · rw [if_neg (fun e => w1 ((cw 1 (by decide)).mp e)), if_neg w1]
      by_cases w2 : w = 2
      · obtain ⟨s', e1, e2⟩ := fin 1 (by decide) _ r1 b1.1
        have nz : ¬ nd g.2.2.2.natAbs = 0 := fun e => b1.2 (by have := nd_eq0.mp e; omega)
        rw [if_neg nz] at e2
        rw [if_pos ((cw 2 (by decide)).mpr w2), if_neg (fun e => w1 ((cw 1 (by decide)).mp e)), if_pos w2]
        simp only [S63, gFs, pFs, okq, bls, bo_true, eUp_at, eUp_eUp, eKls, cl_some, Option.toList_some, Option.toList_none, List.cons_append, List.nil_append, hK_o, e1, e2]
        exact RT.fin r0 r1
      · rw [if_neg (fun e => w2 ((cw 2 (by decide)).mp e)), if_neg w2]
        exact RT.fin r0 r1
theorem r67 {b : Bool} {i : Int} (mi : MI h g) (ki : iok i) : ∃ h', den 67 [.ref 239, .int (ldI b), .int (iI i)] h = some (some (.int (iI (partR g.2.2 b i))), h') ∧ FJ h h' ∧ MI h' g := by
  obtain ⟨b0, b1, -, -⟩ := mi.b
  refine mi.lift (t := g.2.2) b0 b1 (fun hi wi rk co ro R s r0 r1 mn hv ms => ?_)
  obtain ⟨a, z, ha, hz, hbz, bz, sel⟩ : ∃ (a : Nat) (z : Int), a < 2 ∧ R a = z ∧ z.natAbs = (if b = true then g.2.2.2.natAbs else g.2.2.1.natAbs) ∧ n23 z ∧ (a = if b = true then 1 else 0) := by
    cases b with
    | true => exact ⟨1, g.2.2.2, by decide, r1, rfl, b1.1, rfl⟩
    | false => exact ⟨0, g.2.2.1, by decide, r0, rfl, b0, rfl⟩
  obtain ⟨s', e1, ln⟩ := m19 (h := h) (jt := nI (nJ g.2.1)) (mb := nI (nM g.2.1)) (hi := hi) (wi := wi) (rk := rk) (co := co) (ro := ro) (s := s) (R := R) (a := a) (by omega) (by rw [hz]; exact bz)
  rw [hz] at ln
  have n23' : nd z.natAbs ≤ 23 := nd_le.mpr bz
  have t : ru 67 17 [some (.ref 239), some (.int (ldI b)), some (.int (iI i))] [] (hK h (nI (nJ g.2.1)) (nI (nM g.2.1)) hi wi rk co ro R s') = some (some (.int (iI (partR g.2.2 b i))), hK h (nI (nJ g.2.1)) (nI (nM g.2.1)) hi wi rk co ro R s') := by
    simp only [S67, gFs, pFs, okq, bls, bo_true, eUp_at, eUp_eUp, eKls, cl_some, Option.toList_some, Option.toList_none, List.cons_append, List.nil_append, hK_o]
    unfold partR
    rw [← hbz]
    by_cases q : i < 0
    · rw [if_pos ((lt0 ki).mpr q), if_pos q]
      rfl
    · rw [if_neg (fun e => q ((lt0 ki).mp e)), if_neg q]
      obtain ⟨m, hm⟩ : ∃ m : Nat, i = m := ⟨i.toNat, by omega⟩
      subst hm
      rw [Int.toNat_natCast]
      by_cases q2 : m < 24
      · rw [if_pos (by rw [nI_I, iI_lt ki (by unfold iok; omega)]; omega), show iI (m : Int) = nI m from rfl, ln.get q2, lN_I, lI_i]
      · rw [if_neg (by rw [nI_I, iI_lt ki (by unfold iok; omega)]; omega), dgt_big (by omega)]
        rfl
  have go : den 67 [.ref 239, .int (ldI b), .int (iI i)] (hK h (nI (nJ g.2.1)) (nI (nM g.2.1)) hi wi rk co ro R s) = some (some (.int (iI (partR g.2.2 b i))), hK h (nI (nJ g.2.1)) (nI (nM g.2.1)) hi wi rk co ro R s') := by
    rw [E67 239 _ _ hK_o, ← t]
    simp only [S67, gFs, pFs, okq, bls, bo_true, eUp_at, eUp_eUp, eKls, cl_some, Option.toList_some, Option.toList_none, List.cons_append, List.nil_append, hK_o]
    cases b with
    | true =>
      rw [if_pos rfl] at sel
      subst sel
      rw [if_neg (show ¬ ldI true = 0 by decide)]
      simp only [S67, gFs, pFs, okq, bls, bo_true, eUp_at, eUp_eUp, eKls, cl_some, Option.toList_some, Option.toList_none, List.cons_append, List.nil_append, e1, hK_o]
    | false =>
      rw [if_neg (by decide)] at sel
      subst sel
      rw [if_pos (show ldI false = 0 by decide)]
      simp only [S67, gFs, pFs, okq, bls, bo_true, eUp_at, eUp_eUp, eKls, cl_some, Option.toList_some, Option.toList_none, List.cons_append, List.nil_append, e1, hK_o]
  rw [go]
  exact RT.fin r0 r1
theorem r77 {k w : Int} (hb : ∀ n, NV n → HB n) (mi : MI h g) (kk : iok k) (kw : iok w) : ∃ h', den 77 [.ref 239, .int (iI k), .int (iI w)] h = some (some (.int (iI (toldR g.2.1 k w))), h') ∧ FJ h h' ∧ MI h' g := by
  obtain ⟨b0, b1, -, -⟩ := mi.b
  refine mi.lift (t := g.2.2) b0 b1 (fun hi wi rk co ro R s r0 r1 mn hv ms => ?_)
  have v1 := hv.1
  have cw : ∀ z : Nat, z ≤ 20 → (iI w = nI z ↔ w = z) := fun z hz => by rw [nI_I]; exact iI_eq kw (by unfold iok; omega)
  have c0 : iI w = 0 ↔ w = 0 := by rw [show (0 : Int32) = iI 0 from by decide]; exact iI_eq kw iok_0
  have cl' : ∀ z : Nat, z ≤ 20 → (iI w < nI z ↔ w < z) := fun z hz => by rw [nI_I]; exact iI_lt kw (by unfold iok; omega)
  have cg : ∀ z : Nat, z ≤ 20 → (nI z < iI w ↔ (z : Int) < w) := fun z hz => by rw [nI_I]; exact iI_lt (by unfold iok; omega) kw
  have e1 := m55 (h := h) (mb := nI (nM g.2.1)) (hi := hi) (wi := wi) (rk := rk) (co := co) (ro := ro) (s := s) (R := R) hv kk
  have e2 := m34 (h := h) (jt := nI (nJ g.2.1)) (hi := hi) (wi := wi) (rk := rk) (co := co) (ro := ro) (s := s) (R := R) hv kk
  rw [E77 239 _ _ hK_o]
  simp only [S77, gFs, pFs, okq, bls, bo_true, eUp_at, eUp_eUp, eKls, cl_some, Option.toList_some, Option.toList_none, List.cons_append, List.nil_append, hK_o, e1, e2]
  unfold toldR
  have tail : (w < 0 ∨ 4 < w) → RT h g.2.1 (if iI w < nI 10 then some (some (.int (nI 0)), hK h (nI (nJ g.2.1)) (nI (nM g.2.1)) hi wi rk co ro R s) else if nI 14 < iI w then some (some (.int (nI 0)), hK h (nI (nJ g.2.1)) (nI (nM g.2.1)) hi wi rk co ro R s) else if ldI (decide (0 ≤ k ∧ k < nM g.2.1)) = 0 then some (some (.int (nI 0)), hK h (nI (nJ g.2.1)) (nI (nM g.2.1)) hi wi rk co ro R s) else ru 77 111 [some (.ref 239), some (.int (iI k)), some (.int (iI w))] [] (hK h (nI (nJ g.2.1)) (nI (nM g.2.1)) hi wi rk co ro R s)) (some (.int (iI (if w = 14 then (if (0 ≤ k ∧ k < nM g.2.1) ∧ (sF g.2.1).2.2.2.1 k.toNat ≠ none then 1 else 0) else if w < 10 then ofJ g.2.1 k w else ofM g.2.1 k w)))) g.2.2 := by
    intro hw
    by_cases q10 : w < 10
    · have oj : ofJ g.2.1 k w = 0 := by
        unfold ofJ
        split
        · rw [if_neg (by omega), if_neg (by omega), if_neg (by omega), if_neg (by omega), if_neg (by omega)]
        · rfl
      rw [if_pos ((cl' 10 (by decide)).mpr q10), if_neg (by omega), if_pos q10, oj]
      exact RT.fin r0 r1
    · rw [if_neg (fun e => q10 ((cl' 10 (by decide)).mp e))]
      by_cases q14 : 14 < w
      · have om : ofM g.2.1 k w = 0 := by
          unfold ofM
          split
          · rw [if_neg (by omega), if_neg (by omega), if_neg (by omega), if_neg (by omega)]
          · rfl
        rw [if_pos ((cg 14 (by decide)).mpr q14), if_neg (by omega), if_neg q10, om]
        exact RT.fin r0 r1
      · rw [if_neg (fun e => q14 ((cg 14 (by decide)).mp e))]
        by_cases qk : 0 ≤ k ∧ k < nM g.2.1
        · rw [decide_eq_true qk, if_neg (show ¬ ldI true = 0 by decide)]
          obtain ⟨m, hm⟩ : ∃ m : Nat, k = m := ⟨k.toNat, by omega⟩
          subst hm
          have hmm : m < nM g.2.1 := by omega
          rw [Int.toNat_natCast]
          simp only [S77, gFs, pFs, okq, bls, bo_true, eUp_at, eUp_eUp, eKls, cl_some, Option.toList_some, Option.toList_none, List.cons_append, List.nil_append, hK_o]
          by_cases w14 : w = 14
          · obtain ⟨R', s', ro', e3, k1, k2, k3, k4⟩ := m32 (h := h) (hi := hi) (wi := wi) (rk := rk) (co := co) (ro := ro) (s := s) (R := R) hv mn (hb _ hv)
            have q0 := (pc1 k4 0 (by decide)).trans r0
            have q1 := (pc1 k4 1 (by decide)).trans r1
            rw [if_pos ((cw 14 (by decide)).mpr w14), if_pos w14]
            simp only [S77, gFs, pFs, okq, bls, bo_true, eUp_at, eUp_eUp, eKls, cl_some, Option.toList_some, Option.toList_none, List.cons_append, List.nil_append, e3, hK_o, hK_ro]
            rw [show iI (m : Int) = nI m from rfl, aI_nI (by omega) (by decide), k3.1 m hmm]
            by_cases qr : (sF g.2.1).2.2.2.1 m = none
            · rw [if_pos (k3.m1.mpr qr), if_neg (fun e => e.2 qr)]
              exact RT.fin q0 q1
            · rw [if_neg (fun e => qr (k3.m1.mp e)), if_pos ⟨qk, qr⟩]
              exact RT.fin q0 q1
          · rw [if_neg (fun e => w14 ((cw 14 (by decide)).mp e)), if_neg w14, if_neg q10]
            unfold ofM
            rw [if_pos qk, Int.toNat_natCast]
            by_cases w10 : w = 10
            · rw [if_pos ((cw 10 (by decide)).mpr w10), if_pos w10]
              simp only [S77, gFs, pFs, okq, bls, bo_true, eUp_at, eUp_eUp, eKls, cl_some, Option.toList_some, Option.toList_none, List.cons_append, List.nil_append, hK_hs, show iI (m : Int) = nI m from rfl, MNt.a (α := eR) mn hv hmm]
              exact RT.fin r0 r1
            · rw [if_neg (fun e => w10 ((cw 10 (by decide)).mp e)), if_neg w10]
              by_cases w11 : w = 11
              · rw [if_pos ((cw 11 (by decide)).mpr w11), if_pos w11]
                simp only [S77, gFs, pFs, okq, bls, bo_true, eUp_at, eUp_eUp, eKls, cl_some, Option.toList_some, Option.toList_none, List.cons_append, List.nil_append, hK_hs, show iI (m : Int) = nI m from rfl, MNt.b (α := eR) mn hv hmm]
                exact RT.fin r0 r1
              · rw [if_neg (fun e => w11 ((cw 11 (by decide)).mp e)), if_neg w11]
                by_cases w12 : w = 12
                · rw [if_pos ((cw 12 (by decide)).mpr w12), if_pos w12]
                  simp only [S77, gFs, pFs, okq, bls, bo_true, eUp_at, eUp_eUp, eKls, cl_some, Option.toList_some, Option.toList_none, List.cons_append, List.nil_append, hK_hs, show iI (m : Int) = nI m from rfl, MNt.s (α := eR) mn hv hmm]
                  exact RT.fin r0 r1
                · rw [if_neg (fun e => w12 ((cw 12 (by decide)).mp e)), if_neg w12, if_pos (show w = 13 by omega)]
                  simp only [S77, gFs, pFs, okq, bls, bo_true, eUp_at, eUp_eUp, eKls, cl_some, Option.toList_some, Option.toList_none, List.cons_append, List.nil_append, hK_hs, show iI (m : Int) = nI m from rfl, MNt.u (α := eR) mn hv hmm]
                  exact RT.fin r0 r1
        · have om : ofM g.2.1 k w = 0 := by unfold ofM; rw [if_neg qk]
          rw [decide_eq_false qk, if_pos (show ldI false = 0 by decide)]
          by_cases w14 : w = 14
          · rw [if_pos w14, if_neg (fun e => qk e.1)]; exact RT.fin r0 r1
          · rw [if_neg w14, if_neg q10, om]; exact RT.fin r0 r1
  by_cases qn : w < 0
  · rw [if_pos ((lt0 kw).mpr qn)]
    have := tail (Or.inl qn)
    revert this
    simp only [S77, gFs, pFs, okq, bls, bo_true, eUp_at, eUp_eUp, eKls, cl_some, Option.toList_some, Option.toList_none, List.cons_append, List.nil_append, hK_o, e2]
    exact id
  · rw [if_neg (fun e => qn ((lt0 kw).mp e))]
    by_cases q4 : 4 < w
    · rw [if_pos ((cg 4 (by decide)).mpr q4)]
      have := tail (Or.inr q4)
      revert this
      simp only [S77, gFs, pFs, okq, bls, bo_true, eUp_at, eUp_eUp, eKls, cl_some, Option.toList_some, Option.toList_none, List.cons_append, List.nil_append, hK_o, e2]
      exact id
    · rw [if_neg (fun e => q4 ((cg 4 (by decide)).mp e)), if_neg (show ¬ w = 14 by omega), if_pos (show w < 10 by omega)]
      unfold ofJ
      by_cases qk : 0 ≤ k ∧ k < nJ g.2.1
      · obtain ⟨m, hm⟩ : ∃ m : Nat, k = m := ⟨k.toNat, by omega⟩
        subst hm
        have hmm : m < nJ g.2.1 := by omega
        rw [decide_eq_true qk, if_neg (show ¬ ldI true = 0 by decide), if_pos qk, Int.toNat_natCast]
        by_cases w0 : w = 0
        · rw [if_pos (c0.mpr w0), if_pos w0]
          simp only [S77, gFs, pFs, okq, bls, bo_true, eUp_at, eUp_eUp, eKls, cl_some, Option.toList_some, Option.toList_none, List.cons_append, List.nil_append, hK_hs, show iI (m : Int) = nI m from rfl, MNt.x (α := eR) mn hv hmm]
          exact RT.fin r0 r1
        · rw [if_neg (fun e => w0 (c0.mp e)), if_neg w0]
          by_cases w1 : w = 1
          · rw [if_pos ((cw 1 (by decide)).mpr w1), if_pos w1]
            simp only [S77, gFs, pFs, okq, bls, bo_true, eUp_at, eUp_eUp, eKls, cl_some, Option.toList_some, Option.toList_none, List.cons_append, List.nil_append, hK_hs, show iI (m : Int) = nI m from rfl, MNt.y (α := eR) mn hv hmm]
            exact RT.fin r0 r1
          · rw [if_neg (fun e => w1 ((cw 1 (by decide)).mp e)), if_neg w1]
            by_cases w2 : w = 2
            · rw [if_pos ((cw 2 (by decide)).mpr w2), if_pos w2]
              simp only [S77, gFs, pFs, okq, bls, bo_true, eUp_at, eUp_eUp, eKls, cl_some, Option.toList_some, Option.toList_none, List.cons_append, List.nil_append, hK_hs, show iI (m : Int) = nI m from rfl, MNt.fx (α := eR) mn hv hmm]
              by_cases qf : nF g.2.1 m = true
              · rw [qf, if_neg (show ¬ ldI true = 0 by decide), if_pos rfl]
                exact RT.fin r0 r1
              · rw [if_neg qf, show nF g.2.1 m = false by cases z : nF g.2.1 m with | true => exact absurd z qf | false => rfl, if_pos (show ldI false = 0 by decide)]
                exact RT.fin r0 r1
            · rw [if_neg (fun e => w2 ((cw 2 (by decide)).mp e)), if_neg w2]
              by_cases w3 : w = 3
              · rw [if_pos ((cw 3 (by decide)).mpr w3), if_pos w3]
                simp only [S77, gFs, pFs, okq, bls, bo_true, eUp_at, eUp_eUp, eKls, cl_some, Option.toList_some, Option.toList_none, List.cons_append, List.nil_append, hK_hs, show iI (m : Int) = nI m from rfl, MNt.lx (α := eR) mn hv hmm]
                exact RT.fin r0 r1
              · rw [if_neg (fun e => w3 ((cw 3 (by decide)).mp e)), if_neg w3, if_pos (show w = 4 by omega)]
                simp only [S77, gFs, pFs, okq, bls, bo_true, eUp_at, eUp_eUp, eKls, cl_some, Option.toList_some, Option.toList_none, List.cons_append, List.nil_append, hK_hs, show iI (m : Int) = nI m from rfl, MNt.ly (α := eR) mn hv hmm]
                exact RT.fin r0 r1
      · rw [decide_eq_false qk, if_pos (show ldI false = 0 by decide), if_neg qk]
        exact RT.fin r0 r1
theorem m46_loop {st : ST} (ms : MSl h st) (sv : SV st) {x1 : Int32} : ∀ r k, k + r = 8 → ru 46 51 [some (.ref 239), some (.int x1), some (.int (nI (cntF st k))), some (.int (nI k))] [] (hK h jt mb hi wi rk co ro R s) = some (some (.int (nI (cntF st 8))), hK h jt mb hi wi rk co ro R s) := by
  intro r
  induction r with
  | zero =>
    intro k hk
    have : k = 8 := by omega
    subst this
    rw [H46_51]
    simp only [S46, gFs, pFs, okq, bls, bo_true, eUp_at, eUp_eUp, eKls, cl_some, Option.toList_some, Option.toList_none, List.cons_append, List.nil_append]
    rw [if_pos (by decide), H46_80]
    simp only [S46, gFs, pFs, okq, bls, bo_true, eUp_at, eUp_eUp, eKls, cl_some, Option.toList_some, Option.toList_none, List.cons_append, List.nil_append]
  | succ r ih =>
    intro k hk
    have g1 := AR.get (α := eR) ms.1 (show k < 8 by omega) (by decide) (by decide)
    have ec : cntF st (k + 1) = cntF st k + (if (st.1 k).isSome = true then 1 else 0) := rfl
    have st' := ih (k + 1) (by omega)
    rw [H46_51]
    simp only [S46, gFs, pFs, okq, bls, bo_true, eUp_at, eUp_eUp, eKls, cl_some, Option.toList_some, Option.toList_none, List.cons_append, List.nil_append, hK_o, hK_hs, g1]
    rw [if_neg (nI_ge (by omega) (by decide))]
    cases q : st.1 k with
    | none =>
      rw [q] at ec
      have ec' : cntF st (k + 1) = cntF st k + 0 := ec
      rw [if_pos (show nI (enO none) = 0 by decide), nI_add, nI_1, ← ec']
      exact st'
    | some z =>
      rw [q] at ec
      have ec' : cntF st (k + 1) = cntF st k + 1 := ec
      have hz := (sv k (by omega)).2 z q
      rw [if_neg (show ¬ nI (enO (some z)) = 0 from nI_ne0 (Nat.succ_pos z) (show z + 1 < 2 ^ 31 by omega)), nI_add, nI_1, ← ec']
      exact st'
theorem r46 {w : Int} (mi : MI h g) (kw : iok w) : ∃ h', den 46 [.ref 239, .int (iI w)] h = some (some (.int (iI (cntR g w))), h') ∧ FJ h h' ∧ MI h' g := by
  obtain ⟨b0, b1, -, sv⟩ := mi.b
  refine mi.lift (t := g.2.2) b0 b1 (fun hi wi rk co ro R s r0 r1 mn hv ms => ?_)
  have e1 := m23 (h := h) (mb := nI (nM g.2.1)) (hi := hi) (wi := wi) (rk := rk) (co := co) (ro := ro) (s := s) (R := R) hv mn
  rw [E46 239 _ hK_o]
  simp only [S46, gFs, pFs, okq, bls, bo_true, eUp_at, eUp_eUp, eKls, cl_some, Option.toList_some, Option.toList_none, List.cons_append, List.nil_append]
  unfold cntR
  by_cases w0 : w = 0
  · subst w0
    rw [if_pos rfl, show eSw 1 (iI 0) 81 0 3 #[31, 36, 41, 46] = some 32 from by decide, swF_at (z := 32) (k := 32) rfl]
    simp only [S46, gFs, pFs, okq, bls, bo_true, eUp_at, eUp_eUp, eKls, cl_some, Option.toList_some, Option.toList_none, List.cons_append, List.nil_append, hK_o]
    exact RT.fin r0 r1
  · rw [if_neg w0]
    by_cases w1 : w = 1
    · subst w1
      rw [if_pos rfl, show eSw 1 (iI 1) 81 0 3 #[31, 36, 41, 46] = some 37 from by decide, swF_at (z := 37) (k := 37) rfl]
      simp only [S46, gFs, pFs, okq, bls, bo_true, eUp_at, eUp_eUp, eKls, cl_some, Option.toList_some, Option.toList_none, List.cons_append, List.nil_append, e1]
      exact RT.fin r0 r1
    · rw [if_neg w1]
      by_cases w2 : w = 2
      · subst w2
        rw [if_pos rfl, show eSw 1 (iI 2) 81 0 3 #[31, 36, 41, 46] = some 42 from by decide, swF_at (z := 42) (k := 42) rfl]
        simp only [S46, gFs, pFs, okq, bls, bo_true, eUp_at, eUp_eUp, eKls, cl_some, Option.toList_some, Option.toList_none, List.cons_append, List.nil_append, hK_o]
        exact RT.fin r0 r1
      · rw [if_neg w2]
        by_cases w3 : w = 3
        · subst w3
          have l := m46_loop (h := h) (jt := nI (nJ g.2.1)) (mb := nI (nM g.2.1)) (hi := hi) (wi := wi) (rk := rk) (co := co) (ro := ro) (s := s) (R := R) (x1 := iI 3) ms sv 8 0 (by decide)
          rw [show cntF g.1 0 = 0 from rfl] at l
          rw [if_pos rfl, show eSw 1 (iI 3) 81 0 3 #[31, 36, 41, 46] = some 47 from by decide, swF_at (z := 47) (k := 47) rfl]
          simp only [S46, gFs, pFs, okq, bls, bo_true, eUp_at, eUp_eUp, eKls, cl_some, Option.toList_some, Option.toList_none, List.cons_append, List.nil_append]
          rw [l]
          exact RT.fin r0 r1
        · rw [if_neg w3, eSw_out kw (by omega), swF_at (z := ((1 : Nat) : Int) + 81) (k := 82) rfl]
          simp only [S46, gFs, pFs, okq, bls, bo_true, eUp_at, eUp_eUp, eKls, cl_some, Option.toList_some, Option.toList_none, List.cons_append, List.nil_append]
          exact RT.fin r0 r1
end LK1
