/-! NET: readJoints, readMembers, readFrom -/
/-- the net while its members are read -/
def RM (h : eH) (a J fr M m : Nat) (P : Nat → Nat → Int) (O : Nat → Int32) (A B S : Nat → Nat) : Prop := h.1 a = .inr (6, [.int (nI J), .int (nI fr), .int (nI M), .ref (a + 1), .ref (a + 4), .ref (a + 7), .ref (a + 8), .ref (a + 9), .ref (a + 10), .ref (a + 11)]) ∧ RW h (a + 1) (a + 2) ∧ (∀ ax, ax < 2 → AR h (a + 2 + ax) 8 J (fun i => iI (P ax i))) ∧ RW h (a + 4) (a + 5) ∧ (∀ ax, ax < 2 → AR h (a + 5 + ax) 8 0 (fun _ => 0)) ∧ AR h (a + 7) 8 J O ∧ AR h (a + 8) 14 m (fun i => nI (A i)) ∧ AR h (a + 9) 14 m (fun i => nI (B i)) ∧ AR h (a + 10) 14 m (fun i => nI (S i)) ∧ AR h (a + 11) 14 0 (fun _ => 0)
section RD2
variable {h : eH} {st : ST} {s k a : Nat} {mm : Int32}
theorem d164_loop (sv : SV st) (hs : s < 8) (hk : st.1 s = some k) (ha : 213 ≤ a) : ∀ r j h x3, j + r = rdJ k (st.2.2 s) → SLO h st s (tJ k (st.2.2 s) j).1 (tJ k (st.2.2 s) j).2 → RJ h a (rdJ k (st.2.2 s)) mm j (rdP k (st.2.2 s)) (rdF k (st.2.2 s)) → ∃ h', ru 164 18 [some (.ref a), some (.ref 1), some (.int (nI j)), x3] [] h = some (none, h') ∧ FN a h h' ∧ SLO h' st s (tJ k (st.2.2 s) (rdJ k (st.2.2 s))).1 (tJ k (st.2.2 s) (rdJ k (st.2.2 s))).2 ∧ RJ h' a (rdJ k (st.2.2 s)) mm (rdJ k (st.2.2 s)) (rdP k (st.2.2 s)) (rdF k (st.2.2 s)) := by
  intro r
  have hJ := rdJ_bd k (st.2.2 s)
  induction r with
  | zero =>
    intro j h x3 hj o rj
    have : j = rdJ k (st.2.2 s) := by omega
    subst this
    refine ⟨h, ?_, ⟨rfl, fun _ _ _ => rfl⟩, o, rj⟩
    rw [H164_18]
    simp only [S164, gFs, pFs, okq, bls, bo_true, eUp_at, eUp_eUp, eKls, cl_some, Option.toList_some, Option.toList_none, List.cons_append, List.nil_append, rj.1]
    rw [if_pos (nI_le (Nat.le_refl _) (by omega))]
  | succ r ih =>
    intro j h x3 hj o rj
    obtain ⟨h1, y3, e1, f1, o1, r1⟩ := d164_step sv hs hk ha o rj (by omega)
    obtain ⟨h2, e2, f2, r2⟩ := ih (j + 1) h1 y3 (by omega) o1 r1
    exact ⟨h2, e1.trans e2, f1.trans f2, r2⟩
theorem d164 (sv : SV st) (hs : s < 8) (hk : st.1 s = some k) (ha : 213 ≤ a) (o : SLO h st s 0 0) (x : NX h a) : ∃ h' mm, den 164 [.ref a, .ref 1] h = some (none, h') ∧ FN a h h' ∧ SLO h' st s (tJ k (st.2.2 s) (rdJ k (st.2.2 s))).1 (tJ k (st.2.2 s) (rdJ k (st.2.2 s))).2 ∧ RJ h' a (rdJ k (st.2.2 s)) mm (rdJ k (st.2.2 s)) (rdP k (st.2.2 s)) (rdF k (st.2.2 s)) := by
  obtain ⟨⟨u, v, w, x0⟩, x1, x2, x3, x4, x5, x6, x7, x8, x9⟩ := x
  have hJ := rdJ_bd k (st.2.2 s)
  obtain ⟨h1, e1, f1, o1⟩ := d163 (lo := 1) (hi := 8) (t := (0, 0)) o sv hs hk (Nat.zero_le _) (Or.inl rfl) (by unfold iok; omega) (by unfold iok; omega)
  rw [← hJ.2.2, show iI 1 = nI 1 from rfl, show iI 8 = nI 8 from rfl, ← nI_I] at e1
  have x01 := (f1.2 a (by omega)).trans x0
  obtain ⟨h2, hh2⟩ : ∃ h2, h2 = eUp h1 a (.inr (6, [.int (nI (rdJ k (st.2.2 s))), .int (nI 0), .int w, .ref (a + 1), .ref (a + 4), .ref (a + 7), .ref (a + 8), .ref (a + 9), .ref (a + 10), .ref (a + 11)])) := ⟨_, rfl⟩
  have n2 : ∀ i, i ≠ a → h2.1 i = h1.1 i := fun i hi => by rw [hh2]; exact eUp_ne hi
  have nn : ∀ i, i ≠ 1 → i ≠ a → h2.1 i = h.1 i := fun i i1 i2 => (n2 i i2).trans (f1.2 i i1)
  have rj : RJ h2 a (rdJ k (st.2.2 s)) w 0 (rdP k (st.2.2 s)) (rdF k (st.2.2 s)) := ⟨by rw [hh2]; exact eUp_at .., x1.keep (nn _ (by omega) (by omega)), fun ax hx => ((x2 ax hx).keep (nn _ (by omega) (by omega))).z, x3.keep (nn _ (by omega) (by omega)), fun ax hx => (x4 ax hx).keep (nn _ (by omega) (by omega)), (x5.keep (nn _ (by omega) (by omega))).z, x6.keep (nn _ (by omega) (by omega)), x7.keep (nn _ (by omega) (by omega)), x8.keep (nn _ (by omega) (by omega)), x9.keep (nn _ (by omega) (by omega))⟩
  obtain ⟨h3, e3, f3, r3⟩ := d164_loop sv hs hk ha (rdJ k (st.2.2 s)) 0 h2 none (by omega) (o1.keep (fun i i1 i2 => n2 i (by omega))) rj
  refine ⟨h3, w, ?_, FN.trans ⟨by rw [hh2]; exact f1.1, fun i i1 i2 => nn i i1 (by omega)⟩ f3, r3⟩
  rw [E164 a _ x0, ← e3]
  simp only [S164, gFs, pFs, okq, bls, bo_true, eUp_at, eUp_eUp, eKls, cl_some, Option.toList_some, Option.toList_none, List.cons_append, List.nil_append, e1, x01]
  rw [hh2]
theorem d109' {J fr M m : Nat} {P : Nat → Nat → Int} {A B : Nat → Nat} {kA kB ax : Nat} (hx : ax < 2) (c : h.1 a = .inr (6, [.int (nI J), .int (nI fr), .int (nI M), .ref (a + 1), .ref (a + 4), .ref (a + 7), .ref (a + 8), .ref (a + 9), .ref (a + 10), .ref (a + 11)])) (x1 : RW h (a + 1) (a + 2)) (x2 : ∀ ax, ax < 2 → AR h (a + 2 + ax) 8 J (fun i => iI (P ax i))) (xa : AR h (a + 8) 14 kA (fun i => nI (A i))) (xb : AR h (a + 9) 14 kB (fun i => nI (B i))) (hJ : J ≤ 8) (hA : m < kA) (hB : m < kB) (hkA : kA ≤ 14) (hkB : kB ≤ 14) (ha : A m < J) (hb : B m < J) : den 109 [.ref a, .int (nI m), .int (nI ax)] h = some (some (.int (iI (P ax (B m) - P ax (A m)))), h) := by
  rw [E109 a _ _ c]
  simp only [S109, gFs, pFs, okq, bls, bo_true, eUp_at, eUp_eUp, eKls, cl_some, Option.toList_some, Option.toList_none, List.cons_append, List.nil_append, c, x1.get hx, xa.get hA hkA (by decide), xb.get hB hkB (by decide), (x2 ax hx).get ha hJ (by decide), (x2 ax hx).get hb hJ (by decide), iI_sub]
theorem d166_step {m fr M J : Nat} {O : Nat → Int32} {P : Nat → Nat → Int} {A B S : Nat → Nat} {t u3 : Nat × Int} {p1 p2 p4 : Int × Nat × Int} (hp1 : nx k (st.2.2 s) 0 ((J : Int) - 1) t = p1) (hp2 : nx k (st.2.2 s) 0 ((J : Int) - 1) p1.2 = p2) (hu3 : u3 = if P 0 (B m) - P 0 (A m) = 0 ∧ P 1 (B m) - P 1 (A m) = 0 then rfs p2.2 else p2.2) (hp4 : nx k (st.2.2 s) 0 2 u3 = p4) (hA : (A m : Int) = p1.1) (hB : (B m : Int) = p2.1) (hS : (S m : Int) = p4.1) (bA : A m < J) (bB : B m < J) (hJ : J ≤ 8) (hP : ∀ ax j, -20 ≤ P ax j ∧ P ax j ≤ 20) (t1 : t.1 ≤ k) (t2 : rfo t.2) (sv : SV st) (hs : s < 8) (hk : st.1 s = some k) (ha : 213 ≤ a) (o : SLO h st s t.1 t.2) (r : RM h a J fr M m P O A B S) (hm : m < M) (hM : M ≤ 14) : ∃ h', ru 166 13 [some (.ref a), some (.ref 1), some (.int (nI m))] [] h = ru 166 13 [some (.ref a), some (.ref 1), some (.int (nI (m + 1)))] [] h' ∧ FN a h h' ∧ SLO h' st s p4.2.1 p4.2.2 ∧ RM h' a J fr M (m + 1) P O A B S := by
  obtain ⟨x0, x1, x2, x3, x4, x5, x6, x7, x8, x9⟩ := id r
  have kJ : iok ((J : Int) - 1) := by unfold iok; omega
  have iJ : iI ((J : Int) - 1) = nI J - nI 1 := by rw [nI_I, nI_I, iI_sub]; rfl
  have q1a : p1.2.1 ≤ k := by rw [← hp1]; exact nx_at t1
  have q1r : rfo p1.2.2 := by rw [← hp1]; exact nx_rf t2
  have q2a : p2.2.1 ≤ k := by rw [← hp2]; exact nx_at q1a
  have q2r : rfo p2.2.2 := by rw [← hp2]; exact nx_rf q1r
  have q3 : u3.1 ≤ k ∧ rfo u3.2 := by
    rw [hu3]
    split
    · exact rfs_ok ⟨q2a, q2r⟩
    · exact ⟨q2a, q2r⟩
  obtain ⟨h1, e1, f1, o1⟩ := d163 (lo := 0) (hi := (J : Int) - 1) o sv hs hk t1 t2 iok_0 kJ
  rw [hp1, ← hA, iJ, show iI 0 = nI 0 from rfl, ← nI_I] at e1
  rw [hp1] at o1
  obtain ⟨ea, wa, va⟩ := (x6.keep (f1.2 _ (by omega)) : AR h1 (a + 8) 14 m _).put (show m < 14 by omega) (by decide) (z := nI (A m)) rfl (α := eR)
  obtain ⟨h2, hh2⟩ : ∃ h2, h2 = eUp h1 (a + 8) ea := ⟨_, rfl⟩
  have n2 : ∀ i, i ≠ a + 8 → h2.1 i = h1.1 i := fun i hi => by rw [hh2]; exact eUp_ne hi
  have va2 := va h2 (by rw [hh2]; exact eUp_at ..)
  obtain ⟨h3, e3, f3, o3⟩ := d163 (lo := 0) (hi := (J : Int) - 1) (t := p1.2) (o1.keep (h' := h2) (fun i i1 i2 => n2 i (by omega))) sv hs hk q1a q1r iok_0 kJ
  rw [hp2, ← hB, iJ, show iI 0 = nI 0 from rfl, ← nI_I] at e3
  rw [hp2] at o3
  obtain ⟨eb, wb, vb⟩ := (((x7.keep (f1.2 _ (by omega))).keep (n2 _ (by omega))).keep (f3.2 _ (by omega)) : AR h3 (a + 9) 14 m _).put (show m < 14 by omega) (by decide) (z := nI (B m)) rfl (α := eR)
  obtain ⟨h4, hh4⟩ : ∃ h4, h4 = eUp h3 (a + 9) eb := ⟨_, rfl⟩
  have n4 : ∀ i, i ≠ a + 9 → h4.1 i = h3.1 i := fun i hi => by rw [hh4]; exact eUp_ne hi
  have vb4 := vb h4 (by rw [hh4]; exact eUp_at ..)
  have va4 := (va2.keep (f3.2 _ (by omega))).keep (n4 _ (by omega))
  have nn : ∀ i, i ≠ 1 → i ≠ a + 8 → i ≠ a + 9 → h4.1 i = h.1 i := fun i i1 i2 i3 => (n4 i i3).trans ((f3.2 i i1).trans ((n2 i i2).trans (f1.2 i i1)))
  have o4 := o3.keep (h' := h4) (fun i i1 i2 => n4 i (by omega))
  have c4 := (nn a (by omega) (by omega) (by omega)).trans x0
  have s0 := d109' (ax := 0) (m := m) (by decide) c4 (x1.keep (nn _ (by omega) (by omega) (by omega))) (fun ax hx => (x2 ax hx).keep (nn _ (by omega) (by omega) (by omega))) va4 vb4 hJ (by omega) (by omega) (by omega) (by omega) bA bB
  have s1 := d109' (ax := 1) (m := m) (by decide) c4 (x1.keep (nn _ (by omega) (by omega) (by omega))) (fun ax hx => (x2 ax hx).keep (nn _ (by omega) (by omega) (by omega))) va4 vb4 hJ (by omega) (by omega) (by omega) (by omega) bA bB
  have mid : ∃ h5, ru 166 55 [some (.ref a), some (.ref 1), some (.int (nI m))] [] h4 = ru 166 77 [some (.ref a), some (.ref 1), some (.int (nI m))] [] h5 ∧ F1 h4 h5 ∧ SLO h5 st s u3.1 u3.2 := by
    have pa := hP 0 (A m)
    have pb := hP 1 (A m)
    have pc := hP 0 (B m)
    have pd := hP 1 (B m)
    have z0 : iI (P 0 (B m) - P 0 (A m)) = 0 ↔ P 0 (B m) - P 0 (A m) = 0 := by rw [show (0 : Int32) = iI 0 from by decide]; exact iI_eq (by unfold iok; omega) iok_0
    have z1 : iI (P 1 (B m) - P 1 (A m)) = 0 ↔ P 1 (B m) - P 1 (A m) = 0 := by rw [show (0 : Int32) = iI 0 from by decide]; exact iI_eq (by unfold iok; omega) iok_0
    obtain ⟨h6, e6, f6, o6⟩ := d165 (t := p2.2) o4 q2r
    by_cases q0 : P 0 (B m) - P 0 (A m) = 0
    · by_cases q1 : P 1 (B m) - P 1 (A m) = 0
      · rw [if_pos ⟨q0, q1⟩] at hu3
        refine ⟨h6, ?_, f6, by rw [hu3]; exact o6⟩
        simp only [S166, gFs, pFs, okq, bls, bo_true, eUp_at, eUp_eUp, eKls, cl_some, Option.toList_some, Option.toList_none, List.cons_append, List.nil_append, s0, s1]
        rw [if_pos (z0.mpr q0), if_pos (z1.mpr q1)]
        simp only [S166, gFs, pFs, okq, bls, bo_true, eUp_at, eUp_eUp, eKls, cl_some, Option.toList_some, Option.toList_none, List.cons_append, List.nil_append, e6]
      · rw [if_neg (fun e => q1 e.2)] at hu3
        refine ⟨h4, ?_, ⟨rfl, fun _ _ => rfl⟩, by rw [hu3]; exact o4⟩
        simp only [S166, gFs, pFs, okq, bls, bo_true, eUp_at, eUp_eUp, eKls, cl_some, Option.toList_some, Option.toList_none, List.cons_append, List.nil_append, s0, s1]
        rw [if_pos (z0.mpr q0), if_neg (fun e => q1 (z1.mp e))]
    · rw [if_neg (fun e => q0 e.1)] at hu3
      refine ⟨h4, ?_, ⟨rfl, fun _ _ => rfl⟩, by rw [hu3]; exact o4⟩
      simp only [S166, gFs, pFs, okq, bls, bo_true, eUp_at, eUp_eUp, eKls, cl_some, Option.toList_some, Option.toList_none, List.cons_append, List.nil_append, s0, s1]
      rw [if_neg (fun e => q0 (z0.mp e))]
  obtain ⟨h5, e5, f5, o5⟩ := mid
  obtain ⟨h6, e6, f6, o6⟩ := d163 (lo := 0) (hi := 2) (t := u3) o5 sv hs hk q3.1 q3.2 iok_0 (by unfold iok; omega)
  rw [hp4, ← hS, show iI 0 = nI 0 from rfl, show iI 2 = nI 2 from rfl, ← nI_I] at e6
  rw [hp4] at o6
  have m6 : ∀ i, i ≠ 1 → h6.1 i = h4.1 i := fun i i1 => (f6.2 i i1).trans (f5.2 i i1)
  obtain ⟨ec, wc, vc⟩ := ((x8.keep (nn _ (by omega) (by omega) (by omega))).keep (m6 _ (by omega)) : AR h6 (a + 10) 14 m _).put (show m < 14 by omega) (by decide) (z := nI (S m)) rfl (α := eR)
  obtain ⟨h7, hh7⟩ : ∃ h7, h7 = eUp h6 (a + 10) ec := ⟨_, rfl⟩
  have n7 : ∀ i, i ≠ a + 10 → h7.1 i = h6.1 i := fun i hi => by rw [hh7]; exact eUp_ne hi
  have vc7 := vc h7 (by rw [hh7]; exact eUp_at ..)
  have mm7 : ∀ i, i ≠ 1 → i ≠ a + 8 → i ≠ a + 9 → i ≠ a + 10 → h7.1 i = h.1 i := fun i i0 i1 i2 i3 => (n7 i i3).trans ((m6 i i0).trans (nn i i0 i1 i2))
  refine ⟨h7, ?_, ⟨?_, fun i i1 i2 => mm7 i i1 (by omega) (by omega) (by omega)⟩, o6.keep (fun i i1 i2 => n7 i (by omega)), ⟨(mm7 _ (by omega) (by omega) (by omega) (by omega)).trans x0, x1.keep (mm7 _ (by omega) (by omega) (by omega) (by omega)), fun ax hx => (x2 ax hx).keep (mm7 _ (by omega) (by omega) (by omega) (by omega)), x3.keep (mm7 _ (by omega) (by omega) (by omega) (by omega)), fun ax hx => (x4 ax hx).keep (mm7 _ (by omega) (by omega) (by omega) (by omega)), x5.keep (mm7 _ (by omega) (by omega) (by omega) (by omega)), (va4.keep (m6 _ (by omega))).keep (n7 _ (by omega)), (vb4.keep (m6 _ (by omega))).keep (n7 _ (by omega)), vc7, x9.keep (mm7 _ (by omega) (by omega) (by omega) (by omega))⟩⟩
  · have c2 := ((n2 a (by omega)).trans (f1.2 a (by omega))).trans x0
    have c5 := (f5.2 a (by omega)).trans c4
    have tl : ru 166 77 [some (.ref a), some (.ref 1), some (.int (nI m))] [] h5 = ru 166 13 [some (.ref a), some (.ref 1), some (.int (nI (m + 1)))] [] h7 := by
      simp only [S166, gFs, pFs, okq, bls, bo_true, eUp_at, eUp_eUp, eKls, cl_some, Option.toList_some, Option.toList_none, List.cons_append, List.nil_append, c5, e6, wc]
      rw [← hh7, nI_1]
    have hd : ru 166 13 [some (.ref a), some (.ref 1), some (.int (nI m))] [] h = ru 166 55 [some (.ref a), some (.ref 1), some (.int (nI m))] [] h4 := by
      rw [H166_13]
      simp only [S166, gFs, pFs, okq, bls, bo_true, eUp_at, eUp_eUp, eKls, cl_some, Option.toList_some, Option.toList_none, List.cons_append, List.nil_append, x0]
      rw [if_neg (nI_ge hm (by omega))]
      simp only [S166, gFs, pFs, okq, bls, bo_true, eUp_at, eUp_eUp, eKls, cl_some, Option.toList_some, Option.toList_none, List.cons_append, List.nil_append, x0, e1, wa]
      rw [← hh2]
      simp only [S166, gFs, pFs, okq, bls, bo_true, eUp_at, eUp_eUp, eKls, cl_some, Option.toList_some, Option.toList_none, List.cons_append, List.nil_append, c2, e3, wb]
      rw [← hh4]
    rw [hd, e5, tl]
  · rw [hh7]
    exact f6.1.trans (f5.1.trans (by rw [hh4]; exact f3.1.trans (by rw [hh2]; exact f1.1)))
theorem d166_loop {fr M : Nat} {O : Nat → Int32} (sv : SV st) (hs : s < 8) (hk : st.1 s = some k) (ha : 213 ≤ a) (hM : M ≤ 14) : ∀ r m h, m + r = M → SLO h st s (tM k (st.2.2 s) m).1 (tM k (st.2.2 s) m).2 → RM h a (rdJ k (st.2.2 s)) fr M m (rdP k (st.2.2 s)) O (fun m => rdA k (st.2.2 s) (tM k (st.2.2 s) m)) (fun m => rdB k (st.2.2 s) (tM k (st.2.2 s) m)) (fun m => rdS k (st.2.2 s) (tM k (st.2.2 s) m)) → ∃ h', ru 166 13 [some (.ref a), some (.ref 1), some (.int (nI m))] [] h = some (none, h') ∧ FN a h h' ∧ SLO h' st s (tM k (st.2.2 s) M).1 (tM k (st.2.2 s) M).2 ∧ RM h' a (rdJ k (st.2.2 s)) fr M M (rdP k (st.2.2 s)) O (fun m => rdA k (st.2.2 s) (tM k (st.2.2 s) m)) (fun m => rdB k (st.2.2 s) (tM k (st.2.2 s) m)) (fun m => rdS k (st.2.2 s) (tM k (st.2.2 s) m)) := by
  intro r
  induction r with
  | zero =>
    intro m h hm o rm
    have : m = M := by omega
    subst this
    refine ⟨h, ?_, ⟨rfl, fun _ _ _ => rfl⟩, o, rm⟩
    rw [H166_13]
    simp only [S166, gFs, pFs, okq, bls, bo_true, eUp_at, eUp_eUp, eKls, cl_some, Option.toList_some, Option.toList_none, List.cons_append, List.nil_append, rm.1]
    rw [if_pos (nI_le (Nat.le_refl _) (by omega))]
  | succ r ih =>
    intro m h hm o rm
    have hJ := rdJ_bd k (st.2.2 s)
    obtain ⟨t1, t2⟩ := tM_ok k (st.2.2 s) m
    have bA := rdA_bd k (st.2.2 s) (tM k (st.2.2 s) m)
    have bB := rdB_bd k (st.2.2 s) (tM k (st.2.2 s) m)
    have bS := rdS_bd k (st.2.2 s) (tM k (st.2.2 s) m)
    obtain ⟨h1, e1, f1, o1, r1⟩ := d166_step (u3 := rdT k (st.2.2 s) (tM k (st.2.2 s) m)) rfl rfl rfl rfl bA.2 bB.2 bS.2 bA.1 bB.1 hJ.2.1 (fun ax j => rdP_bd k (st.2.2 s) ax j) t1 t2 sv hs hk ha o rm (by omega) hM
    obtain ⟨h2, e2, f2, r2⟩ := ih (m + 1) h1 (by omega) o1 r1
    exact ⟨h2, e1.trans e2, f1.trans f2, r2⟩
theorem d166 (sv : SV st) (hs : s < 8) (hk : st.1 s = some k) (ha : 213 ≤ a) (o : SLO h st s (tJ k (st.2.2 s) (rdJ k (st.2.2 s))).1 (tJ k (st.2.2 s) (rdJ k (st.2.2 s))).2) (x : RJ h a (rdJ k (st.2.2 s)) mm (rdJ k (st.2.2 s)) (rdP k (st.2.2 s)) (rdF k (st.2.2 s))) : ∃ h', den 166 [.ref a, .ref 1] h = some (none, h') ∧ FN a h h' ∧ SLO h' st s (tM k (st.2.2 s) (rdM k (st.2.2 s))).1 (tM k (st.2.2 s) (rdM k (st.2.2 s))).2 ∧ RM h' a (rdJ k (st.2.2 s)) (cnt (rdF k (st.2.2 s)) (rdJ k (st.2.2 s))) (rdM k (st.2.2 s)) (rdM k (st.2.2 s)) (rdP k (st.2.2 s)) (fun i => roI (if rdF k (st.2.2 s) i = true then none else some (cnt (rdF k (st.2.2 s)) i))) (fun m => rdA k (st.2.2 s) (tM k (st.2.2 s) m)) (fun m => rdB k (st.2.2 s) (tM k (st.2.2 s) m)) (fun m => rdS k (st.2.2 s) (tM k (st.2.2 s) m)) := by
  obtain ⟨x0, x1, x2, x3, x4, x5, x6, x7, x8, x9⟩ := x
  have hM := rdM_bd k (st.2.2 s)
  obtain ⟨t1, t2⟩ := tJ_ok k (st.2.2 s) (rdJ k (st.2.2 s))
  obtain ⟨h1, e1, f1, o1⟩ := d163 (lo := 0) (hi := 14) o sv hs hk t1 t2 iok_0 (by unfold iok; omega)
  rw [← hM.2, show iI 0 = nI 0 from rfl, show iI 14 = nI 14 from rfl, ← nI_I] at e1
  have x01 := (f1.2 a (by omega)).trans x0
  obtain ⟨h2, hh2⟩ : ∃ h2, h2 = eUp h1 a (.inr (6, [.int (nI (rdJ k (st.2.2 s))), .int (nI (cnt (rdF k (st.2.2 s)) (rdJ k (st.2.2 s)))), .int (nI (rdM k (st.2.2 s))), .ref (a + 1), .ref (a + 4), .ref (a + 7), .ref (a + 8), .ref (a + 9), .ref (a + 10), .ref (a + 11)])) := ⟨_, rfl⟩
  have n2 : ∀ i, i ≠ a → h2.1 i = h1.1 i := fun i hi => by rw [hh2]; exact eUp_ne hi
  have nn : ∀ i, i ≠ 1 → i ≠ a → h2.1 i = h.1 i := fun i i1 i2 => (n2 i i2).trans (f1.2 i i1)
  obtain ⟨h3, e3, f3, r3⟩ := d166_loop sv hs hk ha hM.1 (rdM k (st.2.2 s)) 0 h2 (by omega) (o1.keep (fun i i1 i2 => n2 i (by omega))) ⟨by rw [hh2]; exact eUp_at .., x1.keep (nn _ (by omega) (by omega)), fun ax hx => (x2 ax hx).keep (nn _ (by omega) (by omega)), x3.keep (nn _ (by omega) (by omega)), fun ax hx => (x4 ax hx).keep (nn _ (by omega) (by omega)), x5.keep (nn _ (by omega) (by omega)), (x6.keep (nn _ (by omega) (by omega))).z, (x7.keep (nn _ (by omega) (by omega))).z, (x8.keep (nn _ (by omega) (by omega))).z, x9.keep (nn _ (by omega) (by omega))⟩
  refine ⟨h3, ?_, FN.trans ⟨by rw [hh2]; exact f1.1, fun i i1 i2 => nn i i1 (by omega)⟩ f3, r3⟩
  rw [E166 a _ x0, ← e3]
  simp only [S166, gFs, pFs, okq, bls, bo_true, eUp_at, eUp_eUp, eKls, cl_some, Option.toList_some, Option.toList_none, List.cons_append, List.nil_append, e1, x01]
  rw [hh2]
theorem AR.fill0 {h : eH} {i L k : Nat} {v : Nat → Int32} (x : AR h i L k v) (hL : L < 2 ^ 31) : ∃ h', den 1 [.ref i, .int (nI 0)] h = some (none, h') ∧ F2 i h h' ∧ (∀ j, j ≠ i → h'.1 j = h.1 j) ∧ AR h' i L L (fun _ => iI 0) := by
  obtain ⟨f, x1, -⟩ := x
  refine ⟨_, d1 x1 hL, F2.up i h _, fun j hj => eUp_ne hj, _, eUp_at .., fun j hj => ?_⟩
  unfold fl
  rw [if_pos ⟨Nat.zero_le _, hj⟩]
  rfl
theorem AR.le {h : eH} {i L k k' : Nat} {v w : Nat → Int32} (x : AR h i L k v) (hk : k' ≤ k) (hv : ∀ j, j < k' → v j = w j) : AR h i L k' w := by
  obtain ⟨f, x1, x2⟩ := x
  exact ⟨f, x1, fun j hj => (x2 j (by omega)).trans (hv j hj)⟩
theorem d167 (sv : SV st) (hs : s < 8) (hk : st.1 s = some k) (ha : 213 ≤ a) (o : SLO h st s 0 0) (x : NX h a) : ∃ h' tt, den 167 [.ref a, .ref 1] h = some (none, h') ∧ FN a h h' ∧ SLO h' st s tt (rdR k (st.2.2 s)) ∧ NO h' a (rdN k (st.2.2 s)) := by
  have hJ := rdJ_bd k (st.2.2 s)
  have hM := rdM_bd k (st.2.2 s)
  obtain ⟨h1, mm, e1, f1, o1, r1⟩ := d164 sv hs hk ha o x
  obtain ⟨h2, e2, f2, o2, x0, x1, x2, x3, x4, x5, x6, x7, x8, x9⟩ := d166 sv hs hk ha o1 r1
  obtain ⟨h3, e3, -, n3, v3⟩ := (x4 0 (by decide)).fill0 (by decide)
  obtain ⟨h4, e4, -, n4, v4⟩ := ((x4 1 (by decide)).keep (n3 _ (by omega)) : AR h3 (a + 5 + 1) 8 0 _).fill0 (by decide)
  obtain ⟨h5, e5, g5, n5, v5⟩ := ((x9.keep (n3 _ (by omega))).keep (n4 _ (by omega)) : AR h4 (a + 11) 14 0 _).fill0 (by decide)
  have nn : ∀ i, i ≠ a + 5 → i ≠ a + 6 → i ≠ a + 11 → h5.1 i = h2.1 i := fun i i1 i2 i3 => (n5 i i3).trans ((n4 i (by omega)).trans (n3 i (by omega)))
  have x03 := (n3 a (by omega)).trans x0
  have x04 := (n4 a (by omega)).trans x03
  refine ⟨h5, (tM k (st.2.2 s) (rdM k (st.2.2 s))).1, ?_, f1.trans (f2.trans ⟨?_, fun i i1 i2 => nn i (by omega) (by omega) (by omega)⟩), o2.keep (fun i i1 i2 => nn i (by omega) (by omega) (by omega)), ⟨(nn a (by omega) (by omega) (by omega)).trans x0, x1.keep (nn _ (by omega) (by omega) (by omega)), fun ax hx => (x2 ax hx).keep (nn _ (by omega) (by omega) (by omega)), x3.keep (nn _ (by omega) (by omega) (by omega)), fun ax hx => ?_, x5.keep (nn _ (by omega) (by omega) (by omega)), x6.keep (nn _ (by omega) (by omega) (by omega)), x7.keep (nn _ (by omega) (by omega) (by omega)), x8.keep (nn _ (by omega) (by omega) (by omega)), v5.le hM.1 (fun j hj => rfl)⟩⟩
  · obtain ⟨⟨u, v, w, xx⟩, -⟩ := x
    rw [E167 a _ xx]
    simp only [S167, gFs, pFs, okq, bls, bo_true, eUp_at, eUp_eUp, eKls, cl_some, Option.toList_some, Option.toList_none, List.cons_append, List.nil_append, e1, e2, x0, x3.get (j := 0) (by decide), e3, x03, (x3.keep (h' := h3) (n3 _ (by omega))).get (j := 1) (by decide), e4, x04, e5]
  · exact g5.1.trans (by
      have a3 : h3.2 = h2.2 := by
        have := (x4 0 (by decide)).fill0 (by decide)
        obtain ⟨h3', e3', g3', -, -⟩ := this
        rw [e3] at e3'
        cases e3'
        exact g3'.1
      have a4 : h4.2 = h3.2 := by
        have := ((x4 1 (by decide)).keep (n3 _ (by omega)) : AR h3 (a + 5 + 1) 8 0 _).fill0 (by decide)
        obtain ⟨h4', e4', g4', -, -⟩ := this
        rw [e4] at e4'
        cases e4'
        exact g4'.1
      exact a4.trans a3)
  · rcases (by omega : ax = 0 ∨ ax = 1) with q | q
    · subst q
      exact ((v3.keep (n4 _ (by omega))).keep (n5 _ (by omega))).le hJ.2.1 (fun j hj => rfl)
    · subst q
      exact (v4.keep (n5 _ (by omega))).le hJ.2.1 (fun j hj => rfl)
end RD2
