/-! THE REFERENCE: way -/
section AS2
variable {h : eH} {g : SG}
theorem sN_ro (n : NT) : (sN n).2.2.2.1 = (sM n).2.2.2.1 := by obtain ⟨e, -, g⟩ := sN_ng n; exact g.2.2.1
theorem r78 {i j x : Int} (hb : ∀ n, NV n → HB n) (mi : MI h g) (ki : iok i) (kj : iok j) (kx : iok x) : ∃ h', den 78 [.ref 239, .int (iI i), .int (iI j), .int (iI x)] h = some (some (.int (ldI (wayB g.2.1 i j x))), h') ∧ FJ h h' ∧ MI h' (wayS g i j x) := by
  obtain ⟨c0, c1, hv0, -⟩ := mi.b
  have hbn := hb _ hv0
  have fx : ∀ c : Int, n23 (ffr (sM g.2.1) (2 * nFr g.2.1) i c) := fun c => n23_5 (ffr_lt hbn.2.1 (Nat.le_refl _) i c)
  have fb : n23 (sM g.2.1).2.2.1 := gbd_bot hbn.2.1
  have gN : GBd (nM g.2.1) (2 * nFr g.2.1) (2 * nFr g.2.1) (mN g.2.1) := gbd_ng (fun r c => mN_neg g.2.1 r c) hbn.2.1
  have fxN : ∀ c : Int, n23 (ffr (sN g.2.1) (2 * nFr g.2.1) i c) := fun c => n23_5 (ffr_lt gN (Nat.le_refl _) i c)
  have fbN : n23 (sN g.2.1).2.2.1 := gbd_bot gN
  obtain ⟨e, he, ng⟩ := sN_ng g.2.1
  have fe : ∀ c : Int, frac (ffr (sN g.2.1) (2 * nFr g.2.1) i c) (sN g.2.1).2.2.1 = frac (ffr (sM g.2.1) (2 * nFr g.2.1) i c) (sM g.2.1).2.2.1 := fun c => by
    rw [ng.2.1, show ffr (sN g.2.1) (2 * nFr g.2.1) i c = e * ffr (sM g.2.1) (2 * nFr g.2.1) i c from ffr_ng ng i c]
    exact frac_ng he (red_bot _ _ _)
  have ff := fun c => frac_n23 (fx c) fb (red_bot _ _ _)
  have goal := mi.lift (k := 78) (as := [.ref 239, .int (iI i), .int (iI j), .int (iI x)]) (ret := some (.int (ldI (wayB g.2.1 i j x)))) (t := if wayB g.2.1 i j x = true then frac (ffr (sM g.2.1) (2 * nFr g.2.1) i (mvI (mov g.2.1 j.toNat x.toNat))) (sM g.2.1).2.2.1 else g.2.2) (by split; exact (ff _).1; exact c0) (by split; exact (ff _).2; exact c1) (fun hi wi rk co ro R s r0 r1 mn hv ms => by
    obtain ⟨R1, s1, ro1, e1, k1, k2, k3, k4⟩ := m65 (h := h) (hi := hi) (wi := wi) (rk := rk) (co := co) (ro := ro) (s := s) (R := R) hv mn hbn
    have q0 := (pc1 k4 0 (by decide)).trans r0
    have q1 := (pc1 k4 1 (by decide)).trans r1
    have v1 := hv.1
    have hFr := nFr_le hv
    have bad : wayB g.2.1 i j x = false → RT h g.2.1 (some (some (.int (nI 0)), hK h (nI (nJ g.2.1)) (nI (nM g.2.1)) (nI (nM g.2.1)) (nI (2 * nFr g.2.1)) (nI (sN g.2.1).2.1) co ro1 R1 s1)) (some (.int (ldI (wayB g.2.1 i j x)))) (if wayB g.2.1 i j x = true then frac (ffr (sM g.2.1) (2 * nFr g.2.1) i (mvI (mov g.2.1 j.toNat x.toNat))) (sM g.2.1).2.2.1 else g.2.2) := fun sb => by
      rw [sb, if_neg (by decide)]
      exact RT.fin q0 q1
    rw [E78 239 _ _ _ hK_o]
    simp only [S78, gFs, pFs, okq, bls, bo_true, eUp_at, eUp_eUp, eKls, cl_some, Option.toList_some, Option.toList_none, List.cons_append, List.nil_append, e1, hK_o]
    by_cases qi : 0 ≤ i
    · have e2 := m52 (h := h) (jt := nI (nJ g.2.1)) (mb := nI (nM g.2.1)) (hi := nI (nM g.2.1)) (wi := nI (2 * nFr g.2.1)) (rk := nI (sN g.2.1).2.1) (co := co) (s := s1) (R := R1) (i := i) k3 (by omega) ki qi
      have fi := fcl_red (rows := nM g.2.1) (M := mM g.2.1) (n := 2 * nFr g.2.1) qi
      have e3 := m55 (h := h) (mb := nI (nM g.2.1)) (hi := nI (nM g.2.1)) (wi := nI (2 * nFr g.2.1)) (rk := nI (sN g.2.1).2.1) (co := co) (ro := ro1) (s := s1) (R := R1) hv kj
      rw [if_pos ((ge0 ki).mpr qi)]
      simp only [S78, gFs, pFs, okq, bls, bo_true, eUp_at, eUp_eUp, eKls, cl_some, Option.toList_some, Option.toList_none, List.cons_append, List.nil_append, e2]
      cases hf : fcl (sN g.2.1).2.2.2.1 i (2 * nFr g.2.1) 0 0 with
      | none =>
        rw [if_pos (show roI none = -1 from rfl)]
        refine bad ?_
        unfold wayB
        rw [decide_eq_false (fun e => by
            have := fi.mpr e.2
            rw [show (red (nM g.2.1) (mM g.2.1) (2 * nFr g.2.1)) = sM g.2.1 from rfl, ← sN_ro, hf] at this
            cases this), Bool.false_and]
      | some f =>
        have fl := fcl_some hf
        have si : i < (2 * nFr g.2.1 - (sM g.2.1).2.1 : Nat) := fi.mp (by rw [show (red (nM g.2.1) (mM g.2.1) (2 * nFr g.2.1)) = sM g.2.1 from rfl, ← sN_ro, hf]; rfl)
        rw [if_neg (show ¬ roI (some f) = -1 from nI_nm1 (by omega))]
        simp only [S78, gFs, pFs, okq, bls, bo_true, eUp_at, eUp_eUp, eKls, cl_some, Option.toList_some, Option.toList_none, List.cons_append, List.nil_append, e3]
        by_cases qj : 0 ≤ j ∧ j < nJ g.2.1
        · rw [decide_eq_true qj, if_neg (show ¬ ldI true = 0 by decide)]
          by_cases qx : x = 0 ∨ x = 1
          · rw [if_neg (fun e => by have := (lt0 kx).mp e; omega), if_pos (by rw [nI_I, iI_le kx (by unfold iok; omega)]; omega)]
            obtain ⟨jn, hjn⟩ : ∃ z : Nat, j = z := ⟨j.toNat, by omega⟩
            obtain ⟨xn, hxn⟩ : ∃ z : Nat, x = z := ⟨x.toNat, by omega⟩
            subst hjn hxn
            have hjn' : jn < nJ g.2.1 := by omega
            have sb : wayB g.2.1 i jn xn = true := by
              unfold wayB
              rw [decide_eq_true ⟨qi, si⟩, decide_eq_true qj, decide_eq_true qx]
              rfl
            rw [sb, if_pos rfl, Int.toNat_natCast, Int.toNat_natCast, ← fe]
            have hro : ∀ c r, (sN g.2.1).2.2.2.1 c = some r → r < nM g.2.1 := ro_hh
            simp only [S78, gFs, pFs, okq, bls, bo_true, eUp_at, eUp_eUp, eKls, cl_some, Option.toList_some, Option.toList_none, List.cons_append, List.nil_append, hK_o, hK_hs, show iI (jn : Int) = nI jn from rfl, show iI (xn : Int) = nI xn from rfl, MNt.fx (α := eR) mn hv hjn']
            by_cases qf : nF g.2.1 jn = true
            · have mv : mvI (mov g.2.1 jn xn) = -1 := by unfold mov; rw [if_pos qf]; rfl
              have f0 : ffr (sN g.2.1) (2 * nFr g.2.1) i (-1) = 0 := by unfold ffr; rw [hf]; dsimp only; rw [if_neg (by omega)]
              have e4 := m12 (h := h) (jt := nI (nJ g.2.1)) (mb := nI (nM g.2.1)) (hi := nI (nM g.2.1)) (wi := nI (2 * nFr g.2.1)) (rk := nI (sN g.2.1).2.1) (co := co) (ro := ro1) (s := s1) (R := R1) (a := 5) (v := 0) (by decide) (by decide)
              obtain ⟨R2, s2, e5, z0, z1⟩ := m38' (h := h) (jt := nI (nJ g.2.1)) (mb := nI (nM g.2.1)) (hi := nI (nM g.2.1)) (wi := nI (2 * nFr g.2.1)) (rk := nI (sN g.2.1).2.1) (co := co) (ro := ro1) (s := s1) (R := ur R1 5 0) (ur_at _ _ _) ((ur_ne (by decide)).trans k2) (n23_s (by decide)) fbN (red_bot _ _ _)
              rw [qf, if_neg (show ¬ ldI true = 0 by decide), mv, f0]
              simp only [S78, gFs, pFs, okq, bls, bo_true, eUp_at, eUp_eUp, eKls, cl_some, Option.toList_some, Option.toList_none, List.cons_append, List.nil_append, show (lN 0 : Int64) = lI 0 from rfl, e4, e5]
              exact RT.fin z0 z1
            · have hc : cnt (nF g.2.1) jn < nFr g.2.1 := cnt_lt hjn' qf
              have mv : mvI (mov g.2.1 jn xn) = ((2 * cnt (nF g.2.1) jn + xn : Nat) : Int) := by unfold mov; rw [if_neg qf]; rfl
              have q' : nF g.2.1 jn = false := by cases z : nF g.2.1 jn with | true => exact absurd z qf | false => rfl
              have e0 := m13 (h := h) (jt := nI (nJ g.2.1)) (mb := nI (nM g.2.1)) (hi := nI (nM g.2.1)) (wi := nI (2 * nFr g.2.1)) (rk := nI (sN g.2.1).2.1) (co := co) (ro := ro1) (s := s1) (R := R1) hv mn hjn'
              rw [show ordr g.2.1 jn = some (cnt (nF g.2.1) jn) by unfold ordr; rw [if_neg qf]] at e0
              have e4 := m22 (h := h) (jt := nI (nJ g.2.1)) (mb := nI (nM g.2.1)) (hi := nI (nM g.2.1)) (wi := nI (2 * nFr g.2.1)) (rk := nI (sN g.2.1).2.1) (co := co) (s := s1) (R := R1) (f := f) (c := 2 * cnt (nF g.2.1) jn + xn) k3 (by omega) (by omega) (by omega) (fun r hr => by
                rw [show 20 + 17 * r + f = cel r f from rfl, k1 r f (hro _ r hr) (by omega)]
                exact n23_5 ((gN (2 * nFr g.2.1) (Nat.le_refl _)).1 r f (hro _ r hr) (by omega)))
              rw [bsc_ffr k1 k2 hf (by omega) (by omega) hro] at e4
              obtain ⟨R2, s2, e5, z0, z1⟩ := m38' (h := h) (jt := nI (nJ g.2.1)) (mb := nI (nM g.2.1)) (hi := nI (nM g.2.1)) (wi := nI (2 * nFr g.2.1)) (rk := nI (sN g.2.1).2.1) (co := co) (ro := ro1) (s := s1) (R := ur R1 5 (ffr (sN g.2.1) (2 * nFr g.2.1) i ((2 * cnt (nF g.2.1) jn + xn : Nat) : Int))) (ur_at _ _ _) ((ur_ne (by decide)).trans k2) (fxN _) fbN (red_bot _ _ _)
              rw [q', if_pos (show ldI false = 0 by decide), mv]
              simp only [S78, gFs, pFs, okq, bls, bo_true, eUp_at, eUp_eUp, eKls, cl_some, Option.toList_some, Option.toList_none, List.cons_append, List.nil_append, e0, show roI (some (cnt (nF g.2.1) jn)) = nI (cnt (nF g.2.1) jn) from rfl, nI_mul, nI_add, show roI (some f) = nI f from rfl, e4, e5]
              exact RT.fin z0 z1
          · have fin := bad (by unfold wayB; rw [decide_eq_false qx, Bool.and_false, Bool.and_false])
            by_cases q2 : x < 0
            · rw [if_pos ((lt0 kx).mpr q2)]; exact fin
            · rw [if_neg (fun e => q2 ((lt0 kx).mp e)), if_neg (by rw [nI_I, iI_le kx (by unfold iok; omega)]; omega)]; exact fin
        · rw [decide_eq_false qj, if_pos (show ldI false = 0 by decide)]
          exact bad (by unfold wayB; rw [decide_eq_false qj, Bool.false_and, Bool.and_false])
    · rw [if_neg (fun e => qi ((ge0 ki).mp e)), if_pos (by decide)]
      exact bad (by unfold wayB; rw [decide_eq_false (fun e => qi e.1), Bool.false_and]))
  unfold wayS
  by_cases sb : wayB g.2.1 i j x = true
  · rw [if_pos sb] at goal ⊢; exact goal
  · rw [if_neg sb] at goal ⊢; exact goal
end AS2
