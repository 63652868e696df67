/-! THE CLASS: rows of numbers -/
theorem d149 {x : Int} (hx : iok x) (h : eH) : den 149 [.int (iI x)] h = some (some (.int (ldI (decide (x = 0 ∨ x = 1)))), h) := by
  rw [E149]
  simp only [S149, gFs, pFs, okq, bls, bo_true, eUp_at, eUp_eUp, eKls, cl_some, Option.toList_some, Option.toList_none, List.cons_append, List.nil_append]
  have l0 : iI x = 0 ↔ x = 0 := by rw [show (0 : Int32) = iI 0 from by decide]; exact iI_eq hx iok_0
  have l1 : iI x = nI 1 ↔ x = 1 := by rw [nI_I]; exact iI_eq hx (by unfold iok; omega)
  by_cases q0 : x = 0
  · rw [if_pos (l0.mpr q0), decide_eq_true (Or.inl q0)]; rfl
  · rw [if_neg (fun e => q0 (l0.mp e))]
    by_cases q1 : x = 1
    · rw [if_pos (l1.mpr q1), decide_eq_true (Or.inr q1)]; rfl
    · rw [if_neg (fun e => q1 (l1.mp e)), decide_eq_false (fun e => e.elim q0 q1)]; rfl
theorem d150 {x : Int} (hx : iok x) (h : eH) : den 150 [.int (iI x)] h = some (some (.int (ldI (decide (0 ≤ x ∧ x < 8)))), h) := by
  rw [E150]
  simp only [S150, gFs, pFs, okq, bls, bo_true, eUp_at, eUp_eUp, eKls, cl_some, Option.toList_some, Option.toList_none, List.cons_append, List.nil_append]
  have l0 : iI x < 0 ↔ x < 0 := by rw [show (0 : Int32) = iI 0 from by decide]; exact iI_lt hx iok_0
  have l1 : nI 8 ≤ iI x ↔ 8 ≤ x := by rw [nI_I]; exact iI_le (by unfold iok; omega) hx
  by_cases q0 : x < 0
  · rw [if_pos (l0.mpr q0), decide_eq_false (fun e => by omega)]; rfl
  · rw [if_neg (fun e => q0 (l0.mp e))]
    by_cases q1 : 8 ≤ x
    · rw [if_pos (l1.mpr q1), decide_eq_false (fun e => by omega)]; rfl
    · rw [if_neg (fun e => q1 (l1.mp e)), decide_eq_true (show 0 ≤ x ∧ x < 8 by omega)]; rfl
theorem d151 {x : Int} (hx : iok x) (h : eH) : den 151 [.int (iI x)] h = some (some (.int (ldI (decide (-1000 ≤ x ∧ x ≤ 1000)))), h) := by
  rw [E151]
  simp only [S151, gFs, pFs, okq, bls, bo_true, eUp_at, eUp_eUp, eKls, cl_some, Option.toList_some, Option.toList_none, List.cons_append, List.nil_append]
  have l0 : iI x < -1000 ↔ x < -1000 := by rw [show (-1000 : Int32) = iI (-1000) from by decide]; exact iI_lt hx (by unfold iok; omega)
  have l1 : nI 1000 < iI x ↔ 1000 < x := by rw [nI_I]; exact iI_lt (by unfold iok; omega) hx
  by_cases q0 : x < -1000
  · rw [if_pos (l0.mpr q0), decide_eq_false (fun e => by omega)]; rfl
  · rw [if_neg (fun e => q0 (l0.mp e))]
    by_cases q1 : 1000 < x
    · rw [if_pos (l1.mpr q1), decide_eq_false (fun e => by omega)]; rfl
    · rw [if_neg (fun e => q1 (l1.mp e)), decide_eq_true (show -1000 ≤ x ∧ x ≤ 1000 by omega)]; rfl
theorem FL.fk {h h' : eH} (x : FL h h') : FK h h' := ⟨x.1, fun i hi => x.2 i (by omega)⟩
theorem CI.sl {h h' : eH} {g : SG} {st : ST} (ci : CI h g) (f : FL h h') (sl : ∃ op tt rf, SLO h' st op tt rf) (sv : SV st) : CI h' (st, g.2) := by
  obtain ⟨a, b, fk, bk, mk, pk, tk, ct, ca, -, -, c, ck, no, nx, hv, ti⟩ := ci
  have ab := ca.2
  exact ⟨a, b, fk, bk, mk, pk, tk, ct, ⟨(f.2 0 (by omega)).trans ca.1, ca.2⟩, sl, sv, c.keep (fun i hi => f.2 i (by omega)), ck.keep (fun i i1 i2 => f.2 i (by omega)), no.keep (fun i i1 i2 => f.2 i (by omega)), nx.keep (fun i i1 i2 => f.2 i (by omega)), hv, ti⟩
def rowR (s w k : Int) : Int := if ¬ (0 ≤ s ∧ s < 8) ∨ w < 0 ∨ 4 ≤ w ∨ 60 < k then -2 else if k < 0 then -3 else 0
def rowS (g : SG) (s w k : Int) : SG := if rowR s w k = 0 then (stM g.1 s.toNat w.toNat k.toNat, g.2) else g
theorem stM_sv {st : ST} {s w k : Nat} (sv : SV st) (hw : w < 4) (hk : k ≤ 60) : SV (stM st s w k) := by
  intro j hj
  obtain ⟨a1, a2⟩ := sv j hj
  unfold stM
  dsimp only
  by_cases q : j = s
  · rw [if_pos q, if_pos q]
    exact ⟨hw, fun r hr => by cases hr; exact hk⟩
  · rw [if_neg q, if_neg q]
    exact ⟨a1, a2⟩
section OP
variable {h : eH} {g : SG}
theorem p172 {s w k : Int} (ci : CI h g) (ks : iok s) (kw : iok w) (kk : iok k) : ∃ h', den 172 [.ref 0, .int (iI s), .int (iI w), .int (iI k)] h = some (some (.int (iI (rowR s w k))), h') ∧ FK h h' ∧ CI h' (rowS g s w k) := by
  have ci0 := ci
  obtain ⟨a, b, fk, bk, mk, pk, tk, ct, ca, ⟨op, tt, rf, sl⟩, sv, c, ck, no, nx, hv, ti⟩ := ci
  have ca1 := ca.1
  have e1 := d150 ks h
  have l0 : iI w < 0 ↔ w < 0 := by rw [show (0 : Int32) = iI 0 from by decide]; exact iI_lt kw iok_0
  have l1 : nI 4 ≤ iI w ↔ 4 ≤ w := by rw [nI_I]; exact iI_le (by unfold iok; omega) kw
  have l2 : iI k ≤ nI 60 ↔ k ≤ 60 := by rw [nI_I]; exact iI_le kk (by unfold iok; omega)
  have l3 : 0 ≤ iI k ↔ 0 ≤ k := by rw [show (0 : Int32) = iI 0 from by decide]; exact iI_le iok_0 kk
  rw [E172 0 _ _ _ ca1]
  simp only [S172, gFs, pFs, okq, bls, bo_true, eUp_at, eUp_eUp, eKls, cl_some, Option.toList_some, Option.toList_none, List.cons_append, List.nil_append, e1]
  unfold rowS
  have bad : rowR s w k = -2 → ∃ h', (some (some (.int (-2)), h) : Option eR) = some (some (.int (iI (rowR s w k))), h') ∧ FK h h' ∧ CI h' (if rowR s w k = 0 then (stM g.1 s.toNat w.toNat k.toNat, g.2) else g) := by
    intro q
    rw [q, if_neg (by decide)]
    exact ⟨h, rfl, FK.refl _, ci0⟩
  by_cases q0 : 0 ≤ s ∧ s < 8
  · rw [decide_eq_true q0, if_neg (show ¬ ldI true = 0 by decide)]
    by_cases q1 : w < 0
    · rw [if_pos (l0.mpr q1)]
      exact bad (by unfold rowR; rw [if_pos (Or.inr (Or.inl q1))])
    · rw [if_neg (fun e => q1 (l0.mp e))]
      by_cases q2 : 4 ≤ w
      · rw [if_pos (l1.mpr q2)]
        exact bad (by unfold rowR; rw [if_pos (Or.inr (Or.inr (Or.inl q2)))])
      · rw [if_neg (fun e => q2 (l1.mp e))]
        by_cases q3 : k ≤ 60
        · rw [if_pos (l2.mpr q3)]
          by_cases q4 : 0 ≤ k
          · rw [if_pos (l3.mpr q4)]
            have hr : rowR s w k = 0 := by unfold rowR; rw [if_neg (by omega), if_neg (by omega)]
            rw [hr, if_pos rfl]
            obtain ⟨sn, hsn⟩ : ∃ m : Nat, s = m := ⟨s.toNat, by omega⟩
            obtain ⟨wn, hwn⟩ : ∃ m : Nat, w = m := ⟨w.toNat, by omega⟩
            obtain ⟨kn, hkn⟩ : ∃ m : Nat, k = m := ⟨k.toNat, by omega⟩
            subst hsn
            subst hwn
            subst hkn
            rw [Int.toNat_natCast, Int.toNat_natCast, Int.toNat_natCast]
            obtain ⟨h1, e2, f1, sl1⟩ := d171 (s := sn) (w := wn) (k := kn) sl (by omega) (by omega)
            simp only [S172, gFs, pFs, okq, bls, bo_true, eUp_at, eUp_eUp, eKls, cl_some, Option.toList_some, Option.toList_none, List.cons_append, List.nil_append, ca1]
            rw [← nI_I sn, ← nI_I wn, ← nI_I kn, e2]
            simp only [S172, gFs, pFs, okq, bls, bo_true, eUp_at, eUp_eUp, eKls, cl_some, Option.toList_some, Option.toList_none, List.cons_append, List.nil_append]
            exact ⟨h1, rfl, f1.fk, ci0.sl f1 ⟨op, tt, rf, sl1⟩ (stM_sv sv (by omega) (by omega))⟩
          · rw [if_neg (fun e => q4 (l3.mp e))]
            have hr : rowR s w k = -3 := by unfold rowR; rw [if_neg (by omega), if_pos (by omega)]
            rw [hr, if_neg (by decide)]
            exact ⟨h, rfl, FK.refl _, ci0⟩
        · rw [if_neg (fun e => q3 (l2.mp e))]
          exact bad (by unfold rowR; rw [if_pos (by omega)])
  · rw [decide_eq_false q0, if_pos (show ldI false = 0 by decide)]
    exact bad (by unfold rowR; rw [if_pos (Or.inl q0)])
def fld (st : ST) (s : Int) : Bool := decide (0 ≤ s ∧ s < 8) && (st.1 s.toNat).isSome
def tearS (g : SG) (s : Int) : SG := if fld g.1 s = true then (stD g.1 s.toNat, g.2) else g
theorem stD_sv {st : ST} {s : Nat} (sv : SV st) : SV (stD st s) := by
  intro j hj
  obtain ⟨a1, a2⟩ := sv j hj
  refine ⟨a1, fun k hk => ?_⟩
  unfold stD at hk
  dsimp only at hk
  by_cases q : j = s
  · rw [if_pos q] at hk; cases hk
  · rw [if_neg q] at hk; exact a2 k hk
theorem p182 {s : Int} (ci : CI h g) (ks : iok s) : ∃ h', den 182 [.ref 0, .int (iI s)] h = some (some (.int (ldI (fld g.1 s))), h') ∧ FK h h' ∧ CI h' (tearS g s) := by
  have ci0 := ci
  obtain ⟨a, b, fk, bk, mk, pk, tk, ct, ca, ⟨op, tt, rf, sl⟩, sv, c, ck, no, nx, hv, ti⟩ := ci
  have ca1 := ca.1
  have e1 := d150 ks h
  rw [E182 0 _ ca1]
  simp only [S182, gFs, pFs, okq, bls, bo_true, eUp_at, eUp_eUp, eKls, cl_some, Option.toList_some, Option.toList_none, List.cons_append, List.nil_append, e1]
  unfold tearS fld
  by_cases q0 : 0 ≤ s ∧ s < 8
  · rw [decide_eq_true q0, if_neg (show ¬ ldI true = 0 by decide), Bool.true_and]
    obtain ⟨sn, hsn⟩ : ∃ m : Nat, s = m := ⟨s.toNat, by omega⟩
    subst hsn
    rw [Int.toNat_natCast]
    have e2 := d134 sl sv (show sn < 8 by omega)
    rw [nI_I] at e2
    simp only [S182, gFs, pFs, okq, bls, bo_true, eUp_at, eUp_eUp, eKls, cl_some, Option.toList_some, Option.toList_none, List.cons_append, List.nil_append, ca1, e2]
    cases hq : (g.1.1 sn).isSome with
    | false =>
      rw [if_pos (show ldI false = 0 by decide), if_neg (by decide)]
      exact ⟨h, rfl, FK.refl _, ci0⟩
    | true =>
      obtain ⟨h1, e3, f1, sl1⟩ := d181 (s := sn) sl (by omega)
      rw [nI_I] at e3
      rw [if_neg (show ¬ ldI true = 0 by decide), if_pos rfl]
      simp only [S182, gFs, pFs, okq, bls, bo_true, eUp_at, eUp_eUp, eKls, cl_some, Option.toList_some, Option.toList_none, List.cons_append, List.nil_append, ca1, e3]
      exact ⟨h1, rfl, f1.fk, ci0.sl f1 ⟨op, tt, rf, sl1⟩ (stD_sv sv)⟩
  · rw [decide_eq_false q0, if_pos (show ldI false = 0 by decide), Bool.false_and, if_neg (by decide)]
    exact ⟨h, rfl, FK.refl _, ci0⟩
def wrR (st : ST) (s i : Int) : Int := if ¬ (0 ≤ s ∧ s < 8) then -2 else match st.1 s.toNat with
  | none => -5
  | some k => if 0 ≤ i ∧ i < k then 0 else -6
def wrS (g : SG) (s i : Int) (v : Int64) : SG := if wrR g.1 s i = 0 then (stW g.1 s.toNat i.toNat (cut v (g.1.2.1 s.toNat)), g.2) else g
theorem p191 {s i : Int} {v : Int64} (ci : CI h g) (ks : iok s) (ki : iok i) : ∃ h', den 191 [.ref 0, .int (iI s), .int (iI i), .long v] h = some (some (.int (iI (wrR g.1 s i))), h') ∧ FK h h' ∧ CI h' (wrS g s i v) := by
  have ci0 := ci
  obtain ⟨a, b, fk, bk, mk, pk, tk, ct, ca, ⟨op, tt, rf, sl⟩, sv, c, ck, no, nx, hv, ti⟩ := ci
  have ca1 := ca.1
  have e1 := d150 ks h
  rw [E191 0 _ _ _ ca1]
  simp only [S191, gFs, pFs, okq, bls, bo_true, eUp_at, eUp_eUp, eKls, cl_some, Option.toList_some, Option.toList_none, List.cons_append, List.nil_append, e1]
  unfold wrS
  by_cases q0 : 0 ≤ s ∧ s < 8
  · rw [decide_eq_true q0, if_neg (show ¬ ldI true = 0 by decide)]
    obtain ⟨sn, hsn⟩ : ∃ m : Nat, s = m := ⟨s.toNat, by omega⟩
    subst hsn
    have e2 := d134 sl sv (show sn < 8 by omega)
    rw [nI_I] at e2
    simp only [S191, gFs, pFs, okq, bls, bo_true, eUp_at, eUp_eUp, eKls, cl_some, Option.toList_some, Option.toList_none, List.cons_append, List.nil_append, ca1, e2]
    cases hq : g.1.1 sn with
    | none =>
      have hr : wrR g.1 sn i = -5 := by unfold wrR; rw [if_neg (fun e => e q0), Int.toNat_natCast, hq]
      rw [if_pos (show ldI (none : Option Nat).isSome = 0 by decide), hr, if_neg (by decide)]
      exact ⟨h, rfl, FK.refl _, ci0⟩
    | some k =>
      have e3 := d190 (s := sn) (i := i) (v := v) sl sv (by omega) hq ki
      rw [nI_I] at e3
      rw [if_neg (show ¬ ldI (some k).isSome = 0 from (show ¬ ldI true = 0 by decide))]
      by_cases q1 : 0 ≤ i ∧ i < k
      · rw [if_pos q1] at e3
        obtain ⟨h1, e3, f1, sl1⟩ := e3
        have hr : wrR g.1 sn i = 0 := by unfold wrR; rw [if_neg (fun e => e q0), Int.toNat_natCast, hq]; dsimp only; rw [if_pos q1]
        rw [hr, if_pos rfl, Int.toNat_natCast]
        simp only [S191, gFs, pFs, okq, bls, bo_true, eUp_at, eUp_eUp, eKls, cl_some, Option.toList_some, Option.toList_none, List.cons_append, List.nil_append, e3]
        rw [if_neg (by decide)]
        refine ⟨h1, rfl, f1.fk, ci0.sl f1 ⟨op, tt, rf, sl1⟩ (fun j hj => sv j hj)⟩
      · rw [if_neg q1] at e3
        have hr : wrR g.1 sn i = -6 := by unfold wrR; rw [if_neg (fun e => e q0), Int.toNat_natCast, hq]; dsimp only; rw [if_neg q1]
        rw [hr, if_neg (by decide)]
        simp only [S191, gFs, pFs, okq, bls, bo_true, eUp_at, eUp_eUp, eKls, cl_some, Option.toList_some, Option.toList_none, List.cons_append, List.nil_append, e3]
        rw [if_pos (by decide)]
        exact ⟨h, rfl, FK.refl _, ci0⟩
  · rw [decide_eq_false q0, if_pos (show ldI false = 0 by decide)]
    have hr : wrR g.1 s i = -2 := by unfold wrR; rw [if_pos q0]
    rw [hr, if_neg (by decide)]
    exact ⟨h, rfl, FK.refl _, ci0⟩
end OP
