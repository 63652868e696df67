/-! THE REFERENCE: stress, way -/
theorem gbd_bot {rows cols unk : Nat} {M : Nat → Nat → Int} (g : GBd rows cols unk M) : n23 (red rows M unk).2.2.1 := n23_5 (g unk (Nat.le_refl _)).2
theorem lt0 {i : Int} (hi : iok i) : iI i < 0 ↔ i < 0 := by rw [show (0 : Int32) = iI 0 from by decide]; exact iI_lt hi iok_0
theorem ge0 {i : Int} (hi : iok i) : 0 ≤ iI i ↔ 0 ≤ i := by rw [show (0 : Int32) = iI 0 from by decide]; exact iI_le iok_0 hi
theorem ro_hh {rows : Nat} {M : Nat → Nat → Int} {u : Nat} : ∀ c r, (red rows M u).2.2.2.1 c = some r → r < rows := fun c r hr => by
  have := (red_ro rows M u c r hr).2
  have := (red_rank rows M u).1
  omega
section AS1
variable {h : eH} {g : SG} {jt mb hi wi rk co : Int32} {ro : Nat → Int32} {s : SC} {R : Nat → Int}
/-- result out of D and LAST -/
theorem m38' {x y : Int} (h5 : R 5 = x) (h8 : R 8 = y) (bx : n23 x) (bY : n23 y) (y0 : y ≠ 0) : ∃ R' s', den 38 [.ref 239, .int (nI 5), .int (nI 8)] (hK h jt mb hi wi rk co ro R s) = some (none, hK h jt mb hi wi rk co ro R' s') ∧ R' 0 = (frac x y).1 ∧ R' 1 = (frac x y).2 := by
  obtain ⟨R', s', e, k0, k1, -⟩ := m38 (h := h) (jt := jt) (mb := mb) (hi := hi) (wi := wi) (rk := rk) (co := co) (ro := ro) (s := s) (R := R) (a := 5) (b := 8) (by decide) (by decide) (by decide) (by decide) (by rw [h5]; exact bx) (by rw [h8]; exact bY) (by rw [h8]; exact y0)
  rw [h5, h8] at k0 k1
  exact ⟨R', s', e, k0, k1⟩
theorem r73 {i m : Int} (hb : ∀ n, NV n → HB n) (mi : MI h g) (ki : iok i) (km : iok m) : ∃ h', den 73 [.ref 239, .int (iI i), .int (iI m)] h = some (some (.int (ldI (strB g.2.1 i m))), h') ∧ FJ h h' ∧ MI h' (strS g i m) := by
  obtain ⟨c0, c1, hv0, -⟩ := mi.b
  have hbn := hb _ hv0
  have fx : n23 (ffr (sF g.2.1) (nM g.2.1) i m) := n23_5 (ffr_lt hbn.1 (Nat.le_succ _) i m)
  have fb : n23 (sF g.2.1).2.2.1 := gbd_bot hbn.1
  have ff := frac_n23 fx fb (red_bot _ _ _)
  have goal := mi.lift (k := 73) (as := [.ref 239, .int (iI i), .int (iI m)]) (ret := some (.int (ldI (strB g.2.1 i m)))) (t := if strB g.2.1 i m = true then frac (ffr (sF g.2.1) (nM g.2.1) i m) (sF g.2.1).2.2.1 else g.2.2) (by split; exact ff.1; exact c0) (by split; exact ff.2; exact c1) (fun hi wi rk co ro R s r0 r1 mn hv ms => by
    obtain ⟨R1, s1, ro1, e1, k1, k2, k3, k4⟩ := m32 (h := h) (hi := hi) (wi := wi) (rk := rk) (co := co) (ro := ro) (s := s) (R := R) hv mn hbn
    have q0 := (pc1 k4 0 (by decide)).trans r0
    have q1 := (pc1 k4 1 (by decide)).trans r1
    have v1 := hv.1
    rw [E73 239 _ _ hK_o]
    simp only [S73, gFs, pFs, okq, bls, bo_true, eUp_at, eUp_eUp, eKls, cl_some, Option.toList_some, Option.toList_none, List.cons_append, List.nil_append, e1, hK_o]
    by_cases qi : 0 ≤ i
    · have e2 := m52 (h := h) (jt := nI (nJ g.2.1)) (mb := nI (nM g.2.1)) (hi := nI (2 * nFr g.2.1)) (wi := nI (nM g.2.1 + 1)) (rk := nI (sF g.2.1).2.1) (co := co) (s := s1) (R := R1) (i := i) k3 (by omega) ki qi
      have fi := fcl_red (rows := 2 * nFr g.2.1) (M := fM g.2.1) (n := nM g.2.1) qi
      have e3 := m34 (h := h) (jt := nI (nJ g.2.1)) (hi := nI (2 * nFr g.2.1)) (wi := nI (nM g.2.1 + 1)) (rk := nI (sF g.2.1).2.1) (co := co) (ro := ro1) (s := s1) (R := R1) hv km
      rw [if_pos ((ge0 ki).mpr qi)]
      simp only [S73, gFs, pFs, okq, bls, bo_true, eUp_at, eUp_eUp, eKls, cl_some, Option.toList_some, Option.toList_none, List.cons_append, List.nil_append, e2]
      cases hf : fcl (sF g.2.1).2.2.2.1 i (nM g.2.1) 0 0 with
      | none =>
        have sb : strB g.2.1 i m = false := by
          unfold strB
          rw [decide_eq_false (fun e => by
            have := fi.mpr e.2
            rw [show (red (2 * nFr g.2.1) (fM g.2.1) (nM g.2.1)) = sF g.2.1 from rfl, hf] at this
            cases this), Bool.false_and]
        rw [if_pos (show roI none = -1 from rfl), sb, if_neg (by decide)]
        exact RT.fin q0 q1
      | some f =>
        have fl := fcl_some hf
        have si : i < (nM g.2.1 - (sF g.2.1).2.1 : Nat) := fi.mp (by rw [show (red (2 * nFr g.2.1) (fM g.2.1) (nM g.2.1)) = sF g.2.1 from rfl, hf]; rfl)
        rw [if_neg (show ¬ roI (some f) = -1 from nI_nm1 (by omega))]
        simp only [S73, gFs, pFs, okq, bls, bo_true, eUp_at, eUp_eUp, eKls, cl_some, Option.toList_some, Option.toList_none, List.cons_append, List.nil_append, e3]
        by_cases qm : 0 ≤ m ∧ m < nM g.2.1
        · obtain ⟨mn', hmn⟩ : ∃ z : Nat, m = z := ⟨m.toNat, by omega⟩
          subst hmn
          have sb : strB g.2.1 i mn' = true := by
            unfold strB
            rw [decide_eq_true ⟨qi, si⟩, decide_eq_true qm]
            rfl
          have hro : ∀ c r, (sF g.2.1).2.2.2.1 c = some r → r < 2 * nFr g.2.1 := ro_hh
          have e4 := m22 (h := h) (jt := nI (nJ g.2.1)) (mb := nI (nM g.2.1)) (hi := nI (2 * nFr g.2.1)) (wi := nI (nM g.2.1 + 1)) (rk := nI (sF g.2.1).2.1) (co := co) (s := s1) (R := R1) (f := f) (c := mn') k3 (by omega) (by omega) (by omega) (fun r hr => by
            rw [show 20 + 17 * r + f = cel r f from rfl, k1 r f (hro _ r hr) (by omega)]
            exact n23_5 ((hbn.1 (nM g.2.1) (Nat.le_refl _)).1 r f (hro _ r hr) (by omega)))
          rw [bsc_ffr k1 k2 hf (by omega) (by omega) hro] at e4
          obtain ⟨R2, s2, e5, z0, z1⟩ := m38' (h := h) (jt := nI (nJ g.2.1)) (mb := nI (nM g.2.1)) (hi := nI (2 * nFr g.2.1)) (wi := nI (nM g.2.1 + 1)) (rk := nI (sF g.2.1).2.1) (co := co) (ro := ro1) (s := s1) (R := ur R1 5 (ffr (sF g.2.1) (nM g.2.1) i mn')) (ur_at _ _ _) ((ur_ne (by decide)).trans k2) fx fb (red_bot _ _ _)
          rw [decide_eq_true qm, if_neg (show ¬ ldI true = 0 by decide), sb, if_pos rfl, show iI (mn' : Int) = nI mn' from rfl, show roI (some f) = nI f from rfl]
          simp only [S73, gFs, pFs, okq, bls, bo_true, eUp_at, eUp_eUp, eKls, cl_some, Option.toList_some, Option.toList_none, List.cons_append, List.nil_append, e4, e5]
          exact RT.fin z0 z1
        · have sb : strB g.2.1 i m = false := by
            unfold strB
            rw [decide_eq_false qm, Bool.and_false]
          rw [decide_eq_false qm, if_pos (show ldI false = 0 by decide), sb, if_neg (by decide)]
          exact RT.fin q0 q1
    · have sb : strB g.2.1 i m = false := by
        unfold strB
        rw [decide_eq_false (fun e => qi e.1), Bool.false_and]
      rw [if_neg (fun e => qi ((ge0 ki).mp e)), if_pos (by decide), sb, if_neg (by decide)]
      exact RT.fin q0 q1)
  unfold strS
  by_cases sb : strB g.2.1 i m = true
  · rw [if_pos sb] at goal ⊢; exact goal
  · rw [if_neg sb] at goal ⊢; exact goal
end AS1
