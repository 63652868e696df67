/-! THE LAW: both sides stand side by side -/
theorem MI.fk {h h' : eH} {g : SG} (mi : MI h g) (f : FK h h') : MI h' g := by
  obtain ⟨hi, wi, rk, co, ro, R, s, eh, r0, r1, b0, b1, mn, hv, ms, sv, mr⟩ := mi
  refine ⟨hi, wi, rk, co, ro, R, s, ?_, r0, r1, b0, b1, mn.keep (fun i i1 i2 => f.2 i (by omega)), hv, ms.keep (fun i i1 i2 => f.2 i (by omega)), sv, ?_⟩
  · refine eH_ext (fun i => ?_) rfl
    have hh : ∀ i, 238 < i → h'.1 i = (hK h (nI (nJ g.2.1)) (nI (nM g.2.1)) hi wi rk co ro R s).1 i := fun i hi' => by
      rw [← eh]
      exact f.2 i hi'
    by_cases q1 : i = 239
    · rw [q1, hh 239 (by decide)]; rfl
    · by_cases q2 : i = 240
      · rw [q2, hh 240 (by decide)]; rfl
      · by_cases q3 : i = 253
        · rw [q3, hh 253 (by decide)]; rfl
        · by_cases q4 : i = 254
          · rw [q4, hh 254 (by decide)]; rfl
          · by_cases q5 : i = 255
            · rw [q5, hh 255 (by decide)]; rfl
            · by_cases q6 : i = 257
              · rw [q6, hh 257 (by decide)]; rfl
              · exact (hK_ne (by omega)).symm
  · obtain ⟨x, e⟩ := mr
    exact ⟨x, (f.2 256 (by decide)).trans e⟩
theorem CI.fj {h h' : eH} {g : SG} (ci : CI h g) (f : FJ h h') : CI h' g := by
  obtain ⟨a, b, fk, bk, mk, pk, tk, ct, ca, ⟨op, tt, rf, sl⟩, sv, c, ck, no, nx, hv, ti⟩ := ci
  have ab := ca.2
  exact ⟨a, b, fk, bk, mk, pk, tk, ct, ⟨(f.2 0 (by omega)).trans ca.1, ca.2⟩, ⟨op, tt, rf, sl.keep (fun i i1 i2 => f.2 i (by omega))⟩, sv, c.keep (fun i hi => f.2 i (by omega)), ck.keep (fun i i1 i2 => f.2 i (by omega)), no.keep (fun i i1 i2 => f.2 i (by omega)), nx.keep (fun i i1 i2 => f.2 i (by omega)), hv, ti⟩
theorem both {h : eH} {k1 k2 : Nat} {as1 as2 : List Value} {r : Option Value} {g g' : SG} (mi : MI h g) (P : ∃ h1, den k1 as1 h = some (r, h1) ∧ FK h h1 ∧ CI h1 g') (Q : ∀ h1, MI h1 g → ∃ h2, den k2 as2 h1 = some (r, h2) ∧ FJ h1 h2 ∧ MI h2 g') : ∃ h1 h2, den k1 as1 h = some (r, h1) ∧ den k2 as2 h1 = some (r, h2) ∧ CI h2 g' ∧ MI h2 g' ∧ h2.2 = h.2 := by
  obtain ⟨h1, e1, f1, c1⟩ := P
  obtain ⟨h2, e2, f2, m2⟩ := Q h1 (mi.fk f1)
  exact ⟨h1, h2, e1, e2, c1.fj f2, m2, f2.1.trans f1.1⟩
theorem d53 {h : eH} (ha : h.1 239 = ob0) (hc : h.2.1 = 240) : ∃ h', den 53 [.ref 239] h = some (none, h') ∧ h'.2.1 = 258 ∧ h'.2.2 = h.2.2 + 10629 ∧ (∀ i, i < 239 → h'.1 i = h.1 i) ∧ MI h' (st0, nt0, 0, 1) := by
  obtain ⟨x, e, c, s, lo, ex, z1, z2, z3, z4, z5, z6, z7, z8, z9, z10, z11, z12, mr⟩ := d53a ha hc
  have e1 := m12 (h := x) (jt := nI 1) (mb := 0) (hi := 0) (wi := 0) (rk := 0) (co := 0) (ro := fun _ => 0) (s := (fun _ => 0, fun _ => 0, fun _ => 0)) (R := fun _ => 0) (a := 0) (v := 0) (by decide) (by decide)
  have e2 := m12 (h := x) (jt := nI 1) (mb := 0) (hi := 0) (wi := 0) (rk := 0) (co := 0) (ro := fun _ => 0) (s := (fun _ => 0, fun _ => 0, fun _ => 0)) (R := ur (fun _ => 0) 0 0) (a := 1) (v := 1) (by decide) (by decide)
  have go : ru 53 155 [some (.ref 239)] [] (hK x (nI 1) 0 0 0 0 0 (fun _ => 0) (fun _ => 0) (fun _ => 0, fun _ => 0, fun _ => 0)) = some (none, hK x (nI 1) 0 0 0 0 0 (fun _ => 0) (ur (ur (fun _ => 0) 0 0) 1 1) (fun _ => 0, fun _ => 0, fun _ => 0)) := by
    simp only [S53, gFs, pFs, okq, bls, bo_true, eUp_at, eUp_eUp, eKls, cl_some, Option.toList_some, Option.toList_none, List.cons_append, List.nil_append, show (lN 0 : Int64) = lI 0 from rfl, e1, show (lN 1 : Int64) = lI 1 from rfl, e2]
  rw [← ex] at go
  refine ⟨_, e.trans go, c, s, fun i hi => (hK_ne (Or.inl hi)).trans (lo i hi), ?_⟩
  have sv : SV st0 := fun s hs => ⟨by show (0 : Nat) < 4; decide, fun k hk => by cases hk⟩
  have mn : MNt x nt0 := by
    obtain ⟨f6, x6, x6'⟩ := z6
    exact ⟨z4.le (by decide) (fun _ _ => rfl), z5.le (by decide) (fun _ _ => rfl), ⟨f6, x6, fun j hj => x6' j (by have : j < 1 := hj; omega)⟩, z7.le (by decide) (fun _ _ => rfl), z8.le (by decide) (fun _ _ => rfl), z9.le (by decide) (fun _ _ => rfl), z10.le (by decide) (fun _ _ => rfl), z11.le (by decide) (fun _ _ => rfl), z12.le (by decide) (fun _ _ => rfl)⟩
  have ms : MSl x st0 := by
    obtain ⟨f3, x3⟩ := z3
    exact ⟨z1.le (by decide) (fun _ _ => rfl), z2.le (by decide) (fun _ _ => rfl), f3, x3, fun s i hs hi => absurd hi (by show ¬ i < 0; omega)⟩
  exact MI.of (h := x) (n := nt0) (st := st0) (t := (0, 1)) mn nt0_nv ms sv mr (by rw [ur_ne (by decide), ur_at]) (by rw [ur_at]) (n23_s (by decide)) ⟨n23_s (by decide), by decide⟩
