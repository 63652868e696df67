/-! THE CLASS: load, pull, even, left, look, part, told, count -/
theorem qv_wLd (n : NT) (L : Nat → Nat → Int) (m : Nat) : qv (wLd n L) (sF (wLd n L)) (nM (wLd n L)) m = qv n (sF n) (nM n) m := by
  funext i
  have h := ffr_ag (sF_wLd n L) i m
  unfold qv
  show (if nS n m = 1 then ffr (sF (wLd n L)) (nM n) i m else if nS n m = 2 then - ffr (sF (wLd n L)) (nM n) i m else 0) = _
  rw [h]
theorem TI_wLd (n : NT) (L : Nat → Nat → Int) : TI (wLd n L) ↔ TI n := by
  unfold TI
  constructor
  · intro ⟨y, h⟩
    refine ⟨y, fun m hm hs => ?_⟩
    have := h m hm hs
    rw [qv_wLd] at this
    exact this
  · intro ⟨y, h⟩
    refine ⟨y, fun m hm hs => ?_⟩
    rw [qv_wLd]
    exact h m hm hs
def loadR (n : NT) (j x y : Int) : Int := if ¬ (0 ≤ j ∧ j < nJ n) then -2 else if ¬ (-1000 ≤ x ∧ x ≤ 1000) ∨ ¬ (-1000 ≤ y ∧ y ≤ 1000) then -4 else 0
def loadN (n : NT) (j x y : Int) : NT := wLd n (fun ax k => if k = j.toNat then (if ax = 0 then x else y) else nL n ax k)
def loadS (g : SG) (j x y : Int) : SG := if loadR g.2.1 j x y = 0 then (g.1, loadN g.2.1 j x y, g.2.2) else g
def pullR (n : NT) (m v : Int) : Int := if ¬ (0 ≤ m ∧ m < nM n) then -2 else if ¬ (-1000 ≤ v ∧ v ≤ 1000) then -4 else 0
def pullN (n : NT) (m v : Int) : NT := wPu n (fun k => if k = m.toNat then v else nU n k)
def pullS (g : SG) (m v : Int) : SG := if pullR g.2.1 m v = 0 then (g.1, pullN g.2.1 m v, g.2.2) else g
theorem loadN_nv {n : NT} {j x y : Int} (hv : NV n) (h : loadR n j x y = 0) : NV (loadN n j x y) := by
  unfold loadR at h
  by_cases q1 : ¬ (0 ≤ j ∧ j < nJ n)
  · rw [if_pos q1] at h; omega
  · rw [if_neg q1] at h
    by_cases q2 : ¬ (-1000 ≤ x ∧ x ≤ 1000) ∨ ¬ (-1000 ≤ y ∧ y ≤ 1000)
    · rw [if_pos q2] at h; omega
    · refine ⟨hv.1, hv.2.1, fun a k hk => ?_, hv.2.2.2⟩
      show -1000 ≤ (if k = j.toNat then (if a = 0 then x else y) else nL n a k) ∧ (if k = j.toNat then (if a = 0 then x else y) else nL n a k) ≤ 1000
      have := hv.2.2.1 a k hk
      split
      · split <;> omega
      · omega
theorem pullN_nv {n : NT} {m v : Int} (hv : NV n) (h : pullR n m v = 0) : NV (pullN n m v) := by
  unfold pullR at h
  by_cases q1 : ¬ (0 ≤ m ∧ m < nM n)
  · rw [if_pos q1] at h; omega
  · rw [if_neg q1] at h
    by_cases q2 : ¬ (-1000 ≤ v ∧ v ≤ 1000)
    · rw [if_pos q2] at h; omega
    · refine ⟨hv.1, hv.2.1, hv.2.2.1, fun k hk => ?_⟩
      obtain ⟨a1, a2, a3, a4, a5⟩ := hv.2.2.2 k hk
      refine ⟨a1, a2, a3, a4, ?_⟩
      show -1000 ≤ (if k = m.toNat then v else nU n k) ∧ (if k = m.toNat then v else nU n k) ≤ 1000
      split <;> omega
theorem CT.ff {h h' : eH} {t t' : Int × Int} (c : CT h t) (f : FF h h') (fx : FRX h') (dd : DD h') (w1 : WV h' 14 36 t'.1) (w2 : WV h' 16 36 t'.2) : CT h' t' := by
  obtain ⟨c1, c2, c3, -, ⟨d0, d1, d2, d3, d4, d5, d6, d7, d8⟩, c6, c7, c8, c9⟩ := c
  have e : ∀ i, 29 < i → h'.1 i = h.1 i := fun i hi => f.2 i (by omega)
  exact ⟨fx, w1, w2, dd, ⟨(f.2 20 (by omega)).trans d0, dd.1, dd.2.1, dd.2.2.1, d4.keep (e _ (by omega)) (e _ (by omega)), d5.keep (e _ (by omega)) (e _ (by omega)), d6.keep (e _ (by omega)) (e _ (by omega)), d7.keep (e _ (by omega)) (e _ (by omega)), d8.keep (e _ (by omega)) (e _ (by omega))⟩, c6.keep (e _ (by omega)) (e _ (by omega)), c7.keep (e _ (by omega)) (e _ (by omega)), c8.keep (fun i i1 i2 => e i (by omega)), c9.keep (fun i i1 i2 => e i (by omega))⟩
theorem FF.fk {h h' : eH} (x : FF h h') : FK h h' := ⟨x.1, fun i hi => x.2 i (by omega)⟩
section OP3
variable {h : eH} {g : SG}
theorem p160 {j x y : Int} (ci : CI h g) (kj : iok j) (kx : iok x) (ky : iok y) : ∃ h', den 160 [.ref 0, .int (iI j), .int (iI x), .int (iI y)] h = some (some (.int (iI (loadR g.2.1 j x y))), h') ∧ FK h h' ∧ CI h' (loadS g j x y) := by
  have ci0 := ci
  obtain ⟨a, b, fk, bk, mk, pk, tk, ct, ca, ⟨op, tt, rf, sl⟩, sv, c, ck, no, nx, hv, ti⟩ := ci
  have ca1 := ca.1
  have ab := ca.2
  have e1 := d157 no hv kj
  have e2 := d151 kx h
  have e3 := d151 ky h
  have hnv := loadN_nv (j := j) (x := x) (y := y) hv
  unfold loadS
  rw [E160 0 _ _ _ ca1]
  simp only [S160, gFs, pFs, okq, bls, bo_true, eUp_at, eUp_eUp, eKls, cl_some, Option.toList_some, Option.toList_none, List.cons_append, List.nil_append, ca1, e1, e2, e3]
  by_cases q0 : 0 ≤ j ∧ j < nJ g.2.1
  · rw [if_pos q0, if_neg (show ¬ nI 1 = 0 by decide)]
    by_cases q1 : -1000 ≤ x ∧ x ≤ 1000
    · rw [decide_eq_true q1, if_neg (show ¬ ldI true = 0 by decide)]
      by_cases q2 : -1000 ≤ y ∧ y ≤ 1000
      · rw [decide_eq_true q2, if_neg (show ¬ ldI true = 0 by decide)]
        have hr : loadR g.2.1 j x y = 0 := by unfold loadR; rw [if_neg (fun e => e q0), if_neg (fun e => e.elim (fun e => e q1) (fun e => e q2))]
        have hn := hnv hr
        rw [hr, if_pos rfl]
        obtain ⟨jn, hjn⟩ : ∃ m : Nat, j = m := ⟨j.toNat, by omega⟩
        subst hjn
        have hj8 : jn < 8 := by have := hv.1; omega
        obtain ⟨x0, x1, x2, x3, x4, x5, x6, x7, x8, x9⟩ := id no
        obtain ⟨ea, wa, va, -⟩ := (x4 0 (by decide)).set hj8 (by decide) (iI x) (α := eR)
        obtain ⟨h1, hh1⟩ : ∃ h1, h1 = eUp h (a + 5 + 0) ea := ⟨_, rfl⟩
        have n1 : ∀ i, i ≠ a + 5 → h1.1 i = h.1 i := fun i hi => by rw [hh1]; exact eUp_ne hi
        have va1 := va h1 (by rw [hh1]; exact eUp_at ..)
        obtain ⟨eb, wb, vb, -⟩ := ((x4 1 (by decide)).keep (n1 _ (by omega)) : AR h1 (a + 5 + 1) 8 _ _).set hj8 (by decide) (iI y) (α := eR)
        obtain ⟨h2, hh2⟩ : ∃ h2, h2 = eUp h1 (a + 5 + 1) eb := ⟨_, rfl⟩
        have n2 : ∀ i, i ≠ a + 6 → h2.1 i = h1.1 i := fun i hi => by rw [hh2]; exact eUp_ne (by omega)
        have vb2 := vb h2 (by rw [hh2]; exact eUp_at ..)
        obtain ⟨h3, hh3⟩ : ∃ h3, h3 = eUp h2 0 (.inr (10, [.ref 1, .ref 13, .ref 20, .ref 42, .ref 48, .ref 54, .ref 60, .ref 196, .ref 213, .ref a, .ref b, .int (ldI fk), .int (nI 0), .int (ldI mk), .int (nI 0), .int (ldI tk), .int (ldI ct)])) := ⟨_, rfl⟩
        have n3 : ∀ i, i ≠ 0 → h3.1 i = h2.1 i := fun i hi => by rw [hh3]; exact eUp_ne hi
        have nn : ∀ i, i ≠ 0 → i ≠ a + 5 → i ≠ a + 6 → h3.1 i = h.1 i := fun i i0 i1 i2 => (n3 i i0).trans ((n2 i i2).trans (n1 i i1))
        have ca11 := (n1 0 (by omega)).trans ca1
        have ca12 := (n2 0 (by omega)).trans ca11
        have x01 := (n1 a (by omega)).trans x0
        have x31 : RW h1 (a + 4) (a + 5) := x3.keep (n1 _ (by omega))
        refine ⟨h3, ?_, ⟨by rw [hh3, hh2, hh1]; rfl, fun i hi => nn i (by omega) (by omega) (by omega)⟩, a, b, fk, false, mk, false, tk, ct, ⟨by rw [hh3]; exact eUp_at .., ab⟩, ⟨op, tt, rf, sl.keep (fun i i1 i2 => nn i (by omega) (by omega) (by omega))⟩, sv, c.keep (fun i hi => nn i (by omega) (by omega) (by omega)), ?_, ?_, nx.keep (fun i i1 i2 => nn i (by omega) (by omega) (by omega)), hn, fun q => (ti q).trans (TI_wLd g.2.1 _).symm⟩
        · simp only [S160, gFs, pFs, okq, bls, bo_true, eUp_at, eUp_eUp, eKls, cl_some, Option.toList_some, Option.toList_none, List.cons_append, List.nil_append, x0, x3.get (j := 0) (by decide)]
          rw [← nI_I jn]
          simp only [S160, gFs, pFs, okq, bls, bo_true, eUp_at, eUp_eUp, eKls, cl_some, Option.toList_some, Option.toList_none, List.cons_append, List.nil_append, wa]
          rw [← hh1]
          simp only [S160, gFs, pFs, okq, bls, bo_true, eUp_at, eUp_eUp, eKls, cl_some, Option.toList_some, Option.toList_none, List.cons_append, List.nil_append, ca11, x01, x31.get (j := 1) (by decide), wb]
          rw [← hh2]
          simp only [S160, gFs, pFs, okq, bls, bo_true, eUp_at, eUp_eUp, eKls, cl_some, Option.toList_some, Option.toList_none, List.cons_append, List.nil_append, ca12]
          rw [← hh3]
          rfl
        · obtain ⟨k1, k2, k3, k4, k5, k6, k7⟩ := ck
          refine ⟨k1.keep (fun i i1 i2 => nn i (by omega) (by omega) (by omega)), k2.keep (fun i i1 i2 => nn i (by omega) (by omega) (by omega)), k3.keep (fun i i1 i2 => nn i (by omega) (by omega) (by omega)), fun q => ?_, (fun q => by cases q), fun q => ?_, (fun q => by cases q)⟩
          · obtain ⟨L, kf, bL⟩ := k4 q
            exact ⟨L, KG.keep kf (fun i i1 i2 => nn i (by omega) (by omega) (by omega)), bL⟩
          · exact KG.keep (k6 q) (fun i i1 i2 => nn i (by omega) (by omega) (by omega))
        · refine ⟨(nn _ (by omega) (by omega) (by omega)).trans x0, x1.keep (nn _ (by omega) (by omega) (by omega)), fun ax hx => (x2 ax hx).keep (nn _ (by omega) (by omega) (by omega)), x3.keep (nn _ (by omega) (by omega) (by omega)), fun ax hx => ?_, x5.keep (nn _ (by omega) (by omega) (by omega)), x6.keep (nn _ (by omega) (by omega) (by omega)), x7.keep (nn _ (by omega) (by omega) (by omega)), x8.keep (nn _ (by omega) (by omega) (by omega)), x9.keep (nn _ (by omega) (by omega) (by omega))⟩
          rcases (by omega : ax = 0 ∨ ax = 1) with q | q
          · subst q
            refine ((va1.keep (n2 _ (by omega))).keep (n3 _ (by omega))).le (Nat.le_refl _) (fun i hi => ?_)
            show (if i = jn then iI x else iI (nL g.2.1 0 i)) = iI (if i = (jn : Int).toNat then (if 0 = 0 then x else y) else nL g.2.1 0 i)
            rw [Int.toNat_natCast]
            by_cases qi : i = jn
            · rw [if_pos qi, if_pos qi, if_pos rfl]
            · rw [if_neg qi, if_neg qi]
          · subst q
            refine (vb2.keep (n3 _ (by omega))).le (Nat.le_refl _) (fun i hi => ?_)
            show (if i = jn then iI y else iI (nL g.2.1 1 i)) = iI (if i = (jn : Int).toNat then (if 1 = 0 then x else y) else nL g.2.1 1 i)
            rw [Int.toNat_natCast]
            by_cases qi : i = jn
            · rw [if_pos qi, if_pos qi, if_neg (by decide)]
            · rw [if_neg qi, if_neg qi]
      · rw [decide_eq_false q2, if_pos (show ldI false = 0 by decide)]
        have hr : loadR g.2.1 j x y = -4 := by unfold loadR; rw [if_neg (fun e => e q0), if_pos (Or.inr q2)]
        rw [hr, if_neg (by decide)]
        exact ⟨h, rfl, FK.refl _, ci0⟩
    · rw [decide_eq_false q1, if_pos (show ldI false = 0 by decide)]
      have hr : loadR g.2.1 j x y = -4 := by unfold loadR; rw [if_neg (fun e => e q0), if_pos (Or.inl q1)]
      rw [hr, if_neg (by decide)]
      exact ⟨h, rfl, FK.refl _, ci0⟩
  · rw [if_neg q0, if_pos (show nI 0 = 0 by decide)]
    have hr : loadR g.2.1 j x y = -2 := by unfold loadR; rw [if_pos q0]
    rw [hr, if_neg (by decide)]
    exact ⟨h, rfl, FK.refl _, ci0⟩
theorem p170 {m v : Int} (ci : CI h g) (km : iok m) (kv : iok v) : ∃ h', den 170 [.ref 0, .int (iI m), .int (iI v)] h = some (some (.int (iI (pullR g.2.1 m v))), h') ∧ FK h h' ∧ CI h' (pullS g m v) := by
  have ci0 := ci
  obtain ⟨a, b, fk, bk, mk, pk, tk, ct, ca, ⟨op, tt, rf, sl⟩, sv, c, ck, no, nx, hv, ti⟩ := ci
  have ca1 := ca.1
  have ab := ca.2
  have e1 := d124 no hv km
  have e2 := d151 kv h
  have hnv := pullN_nv (m := m) (v := v) hv
  unfold pullS
  rw [E170 0 _ _ ca1]
  simp only [S170, gFs, pFs, okq, bls, bo_true, eUp_at, eUp_eUp, eKls, cl_some, Option.toList_some, Option.toList_none, List.cons_append, List.nil_append, ca1, e1, e2]
  by_cases q0 : 0 ≤ m ∧ m < nM g.2.1
  · rw [if_pos q0, if_neg (show ¬ nI 1 = 0 by decide)]
    by_cases q1 : -1000 ≤ v ∧ v ≤ 1000
    · rw [decide_eq_true q1, if_neg (show ¬ ldI true = 0 by decide)]
      have hr : pullR g.2.1 m v = 0 := by unfold pullR; rw [if_neg (fun e => e q0), if_neg (fun e => e q1)]
      have hn := hnv hr
      rw [hr, if_pos rfl]
      obtain ⟨jn, hjn⟩ : ∃ k : Nat, m = k := ⟨m.toNat, by omega⟩
      subst hjn
      have hj8 : jn < 14 := by have := hv.1; omega
      obtain ⟨x0, x1, x2, x3, x4, x5, x6, x7, x8, x9⟩ := id no
      obtain ⟨ea, wa, va, -⟩ := x9.set hj8 (by decide) (iI v) (α := eR)
      obtain ⟨h1, hh1⟩ : ∃ h1, h1 = eUp h (a + 11) ea := ⟨_, rfl⟩
      have n1 : ∀ i, i ≠ a + 11 → h1.1 i = h.1 i := fun i hi => by rw [hh1]; exact eUp_ne hi
      have va1 := va h1 (by rw [hh1]; exact eUp_at ..)
      obtain ⟨h3, hh3⟩ : ∃ h3, h3 = eUp h1 0 (.inr (10, [.ref 1, .ref 13, .ref 20, .ref 42, .ref 48, .ref 54, .ref 60, .ref 196, .ref 213, .ref a, .ref b, .int (ldI fk), .int (ldI bk), .int (ldI mk), .int (nI 0), .int (ldI tk), .int (ldI ct)])) := ⟨_, rfl⟩
      have n3 : ∀ i, i ≠ 0 → h3.1 i = h1.1 i := fun i hi => by rw [hh3]; exact eUp_ne hi
      have nn : ∀ i, i ≠ 0 → i ≠ a + 11 → h3.1 i = h.1 i := fun i i0 i1 => (n3 i i0).trans (n1 i i1)
      have ca11 := (n1 0 (by omega)).trans ca1
      refine ⟨h3, ?_, ⟨by rw [hh3, hh1]; rfl, fun i hi => nn i (by omega) (by omega)⟩, a, b, fk, bk, mk, false, tk, ct, ⟨by rw [hh3]; exact eUp_at .., ab⟩, ⟨op, tt, rf, sl.keep (fun i i1 i2 => nn i (by omega) (by omega))⟩, sv, c.keep (fun i hi => nn i (by omega) (by omega)), ?_, ?_, nx.keep (fun i i1 i2 => nn i (by omega) (by omega)), hn, fun q => ti q⟩
      · simp only [S170, gFs, pFs, okq, bls, bo_true, eUp_at, eUp_eUp, eKls, cl_some, Option.toList_some, Option.toList_none, List.cons_append, List.nil_append, x0]
        rw [← nI_I jn]
        simp only [S170, gFs, pFs, okq, bls, bo_true, eUp_at, eUp_eUp, eKls, cl_some, Option.toList_some, Option.toList_none, List.cons_append, List.nil_append, wa]
        rw [← hh1]
        simp only [S170, gFs, pFs, okq, bls, bo_true, eUp_at, eUp_eUp, eKls, cl_some, Option.toList_some, Option.toList_none, List.cons_append, List.nil_append, ca11]
        rw [← hh3]
        rfl
      · obtain ⟨k1, k2, k3, k4, k5, k6, k7⟩ := ck
        refine ⟨k1.keep (fun i i1 i2 => nn i (by omega) (by omega)), k2.keep (fun i i1 i2 => nn i (by omega) (by omega)), k3.keep (fun i i1 i2 => nn i (by omega) (by omega)), fun q => ?_, fun q => ?_, fun q => ?_, (fun q => by cases q)⟩
        · obtain ⟨L, kf, bL⟩ := k4 q
          exact ⟨L, KG.keep kf (fun i i1 i2 => nn i (by omega) (by omega)), bL⟩
        · exact KG.keep (k5 q) (fun i i1 i2 => nn i (by omega) (by omega))
        · exact KG.keep (k6 q) (fun i i1 i2 => nn i (by omega) (by omega))
      · refine ⟨(nn _ (by omega) (by omega)).trans x0, x1.keep (nn _ (by omega) (by omega)), fun ax hx => (x2 ax hx).keep (nn _ (by omega) (by omega)), x3.keep (nn _ (by omega) (by omega)), fun ax hx => (x4 ax hx).keep (nn _ (by omega) (by omega)), x5.keep (nn _ (by omega) (by omega)), x6.keep (nn _ (by omega) (by omega)), x7.keep (nn _ (by omega) (by omega)), x8.keep (nn _ (by omega) (by omega)), ?_⟩
        refine (va1.keep (n3 _ (by omega))).le (Nat.le_refl _) (fun i hi => ?_)
        show (if i = jn then iI v else iI (nU g.2.1 i)) = iI (if i = (jn : Int).toNat then v else nU g.2.1 i)
        rw [Int.toNat_natCast]
        by_cases qi : i = jn
        · rw [if_pos qi, if_pos qi]
        · rw [if_neg qi, if_neg qi]
    · rw [decide_eq_false q1, if_pos (show ldI false = 0 by decide)]
      have hr : pullR g.2.1 m v = -4 := by unfold pullR; rw [if_neg (fun e => e q0), if_pos q1]
      rw [hr, if_neg (by decide)]
      exact ⟨h, rfl, FK.refl _, ci0⟩
  · rw [if_neg q0, if_pos (show nI 0 = 0 by decide)]
    have hr : pullR g.2.1 m v = -2 := by unfold pullR; rw [if_pos q0]
    rw [hr, if_neg (by decide)]
    exact ⟨h, rfl, FK.refl _, ci0⟩
theorem p139 (ci : CI h g) : den 139 [.ref 0] h = some (some (.int (ldI (evn g.2.1 true (nJ g.2.1) 0))), h) := by
  obtain ⟨a, b, fk, bk, mk, pk, tk, ct, ca, ⟨op, tt, rf, sl⟩, sv, c, ck, no, nx, hv, ti⟩ := ci
  have ca1 := ca.1
  have e1 := d138 (w := true) no hv
  rw [show ldI true = nI 1 from rfl] at e1
  rw [E139 0 ca1]
  simp only [S139, gFs, pFs, okq, bls, bo_true, eUp_at, eUp_eUp, eKls, cl_some, Option.toList_some, Option.toList_none, List.cons_append, List.nil_append, ca1, e1]
  rw [ldI01, bo_true]
def leftB (n : NT) (j x : Int) : Bool := decide (0 ≤ j ∧ j < nJ n) && decide (x = 0 ∨ x = 1)
def leftS (g : SG) (j x : Int) : SG := if leftB g.2.1 j x = true then (g.1, g.2.1, lft g.2.1 true j.toNat x.toNat, 1) else g
theorem p159 {j x : Int} (ci : CI h g) (kj : iok j) (kx : iok x) : ∃ h', den 159 [.ref 0, .int (iI j), .int (iI x)] h = some (some (.int (ldI (leftB g.2.1 j x))), h') ∧ FK h h' ∧ CI h' (leftS g j x) := by
  have ci0 := ci
  obtain ⟨a, b, fk, bk, mk, pk, tk, ct, ca, ⟨op, tt, rf, sl⟩, sv, c, ck, no, nx, hv, ti⟩ := ci
  have ca1 := ca.1
  have ab := ca.2
  have v1 := hv.1
  have e1 := d157 no hv kj
  have e2 := d149 kx h
  unfold leftS leftB
  rw [E159 0 _ _ ca1]
  simp only [S159, gFs, pFs, okq, bls, bo_true, eUp_at, eUp_eUp, eKls, cl_some, Option.toList_some, Option.toList_none, List.cons_append, List.nil_append, ca1, e1, e2]
  by_cases q0 : 0 ≤ j ∧ j < nJ g.2.1
  · rw [if_pos q0, if_neg (show ¬ nI 1 = 0 by decide), decide_eq_true q0, Bool.true_and]
    by_cases q1 : x = 0 ∨ x = 1
    · rw [decide_eq_true q1, if_neg (show ¬ ldI true = 0 by decide), if_pos rfl]
      obtain ⟨jn, hjn⟩ : ∃ k : Nat, j = k := ⟨j.toNat, by omega⟩
      obtain ⟨xn, hxn⟩ : ∃ k : Nat, x = k := ⟨x.toNat, by omega⟩
      subst hjn
      subst hxn
      rw [Int.toNat_natCast, Int.toNat_natCast]
      have hj : jn < nJ g.2.1 := by omega
      have hx : xn < 2 := by omega
      have e3 := d137 (k := jn) no hv hx (by omega)
      obtain ⟨x0, x1, x2, x3, x4, x5, x6, x7, x8, x9⟩ := id no
      have hl := lft_ok hv (w := true) (ax := xn) hj
      have el : psum g.2.1 jn xn (nM g.2.1) + nL g.2.1 xn jn = lft g.2.1 true jn xn := by unfold lft; rw [if_pos rfl]
      have hti : (iI (lft g.2.1 true jn xn)).toInt = lft g.2.1 true jn xn := iI_toInt (by unfold iok; omega)
      obtain ⟨h1, e4, f1, n1, fx1, w1, w2⟩ := d158 c.1 (iI (lft g.2.1 true jn xn)) (by rw [hti]; show _ < 1000000000; omega)
      rw [hti] at w1
      rw [← nI_I jn, ← nI_I xn]
      simp only [S159, gFs, pFs, okq, bls, bo_true, eUp_at, eUp_eUp, eKls, cl_some, Option.toList_some, Option.toList_none, List.cons_append, List.nil_append, ca1, e3, x0, x3.get hx, (x4 xn hx).get hj v1.2.1 (by decide), iI_add, el, e4]
      obtain ⟨d1, d2, d3, d4, d5⟩ := c.2.2.2.1
      refine ⟨h1, rfl, f1.fk, a, b, fk, bk, mk, pk, tk, ct, ⟨(f1.2 0 (by omega)).trans ca1, ab⟩, ⟨op, tt, rf, sl.keep (fun i i1 i2 => f1.2 i (by omega))⟩, sv, c.ff f1 fx1 ⟨(n1 _ (by decide)).trans d1, d2.keep (n1 _ (by decide)) (n1 _ (by decide)), d3.keep (n1 _ (by decide)) (n1 _ (by decide)), d4.keep (n1 _ (by decide)) (n1 _ (by decide)), d5.keep (n1 _ (by decide)) (n1 _ (by decide))⟩ w1 w2, ck.keep (fun i i1 i2 => f1.2 i (by omega)), no.keep (fun i i1 i2 => f1.2 i (by omega)), nx.keep (fun i i1 i2 => f1.2 i (by omega)), hv, ti⟩
    · rw [decide_eq_false q1, if_pos (show ldI false = 0 by decide), if_neg (by decide)]
      exact ⟨h, rfl, FK.refl _, ci0⟩
  · rw [if_neg q0, if_pos (show nI 0 = 0 by decide), decide_eq_false q0, Bool.false_and, if_neg (by decide)]
    exact ⟨h, rfl, FK.refl _, ci0⟩
end OP3
