/-! THE CLASS: shape, tight, stiff -/
def stfB (n : NT) : Bool := (red (2 * nFr n - (sM n).2.1) (fun r c => frm n (sM n) (2 * nFr n) r c (nM n)) (2 * nFr n - (sM n).2.1)).2.2.2.2
def stfR (n : NT) : Int := if evn n false (nJ n) 0 = false then 0 else if 3 < 2 * nFr n - (sM n).2.1 then -7 else if stfB n = true then 1 else 0
section OP6
variable {h : eH} {g : SG}
theorem p173 {j x : Int} (hb : ∀ n, NV n → HB n) (ci : CI h g) (kj : iok j) (kx : iok x) : ∃ h', den 173 [.ref 0, .int (iI j), .int (iI x)] h = some (some (.int (ldI (shpB g.2.1 j x))), h') ∧ FK h h' ∧ CI h' (shpS g j x) := by
  obtain ⟨a, b, fk, bk, mk, pk, tk, ct, ca, sl, sv, c, ck, no, nx, hv, ti⟩ := ci
  have ca1 := ca.1
  have v1 := hv.1
  obtain ⟨h1, e1, f1, ca', c', ck', kf⟩ := d156 (hb _ hv) hv ca c ck no
  obtain ⟨ci1, no1⟩ := CI.fg f1 (by decide) ca' ca.2 sl sv c' ck' no nx hv ti
  have ca1' := ca'.1
  have ab := ca.2
  have n8 := nFr_le hv
  have rk := sP_rk g.2.1
  have e2 := d132 kf.1 rk
  have e3 := d157 no1 hv kj
  have e3' := d149 kx h1
  unfold shpS shpB
  rw [E173 0 _ _ ca1]
  simp only [S173, gFs, pFs, okq, bls, bo_true, eUp_at, eUp_eUp, eKls, cl_some, Option.toList_some, Option.toList_none, List.cons_append, List.nil_append, e1, ca1', e2]
  by_cases q : (sP g.2.1).2.1 = nFr g.2.1
  · rw [if_pos (show nI (nFr g.2.1 - (sP g.2.1).2.1) = 0 by rw [q, Nat.sub_self]; rfl), decide_eq_true q, Bool.true_and]
    simp only [S173, gFs, pFs, okq, bls, bo_true, eUp_at, eUp_eUp, eKls, cl_some, Option.toList_some, Option.toList_none, List.cons_append, List.nil_append, ca1', e3]
    by_cases q2 : 0 ≤ j ∧ j < nJ g.2.1
    · rw [if_pos q2, if_neg (show ¬ nI 1 = 0 by decide), decide_eq_true q2, Bool.true_and]
      simp only [S173, gFs, pFs, okq, bls, bo_true, eUp_at, eUp_eUp, eKls, cl_some, Option.toList_some, Option.toList_none, List.cons_append, List.nil_append, e3']
      by_cases q3 : x = 0 ∨ x = 1
      · rw [decide_eq_true q3, if_neg (show ¬ ldI true = 0 by decide), if_pos rfl]
        obtain ⟨jn, hjn⟩ : ∃ k : Nat, j = k := ⟨j.toNat, by omega⟩
        obtain ⟨xn, hxn⟩ : ∃ k : Nat, x = k := ⟨x.toNat, by omega⟩
        subst hjn
        subst hxn
        rw [Int.toNat_natCast, Int.toNat_natCast]
        have hj : jn < nJ g.2.1 := by omega
        have hx : xn < 2 := by omega
        have e4 := d107 no1 hv hj
        obtain ⟨x0, x1, x2, x3, x4, x5, x6, x7, x8, x9⟩ := id no1
        rw [← nI_I jn, ← nI_I xn]
        simp only [S173, gFs, pFs, okq, bls, bo_true, eUp_at, eUp_eUp, eKls, cl_some, Option.toList_some, Option.toList_none, List.cons_append, List.nil_append, ca1', e4]
        by_cases qf : nF g.2.1 jn = true
        · rw [if_pos qf, if_neg (show ¬ nI 1 = 0 by decide), if_pos qf]
          have pb := hv.2.1 xn jn hj
          have hti : (iI (nP g.2.1 xn jn)).toInt = nP g.2.1 xn jn := iI_toInt (by unfold iok; omega)
          obtain ⟨h2, e5, f2, n2, fx2, w1, w2⟩ := d158 c'.1 (iI (nP g.2.1 xn jn)) (by rw [hti]; show _ < 1000000000; omega)
          rw [hti] at w1
          obtain ⟨d1, d2, d3, d4, d5⟩ := c'.2.2.2.1
          obtain ⟨op, tt, rf, sl⟩ := sl
          have sl1 := sl.keep (h' := h1) (fun i i1 i2 => f1.2 i (by omega) (by omega) (by omega) (by omega))
          simp only [S173, gFs, pFs, okq, bls, bo_true, eUp_at, eUp_eUp, eKls, cl_some, Option.toList_some, Option.toList_none, List.cons_append, List.nil_append, ca1', x0, x1.get hx, (x2 xn hx).get hj v1.2.1 (by decide), e5]
          refine ⟨h2, rfl, (f1.fk (by decide)).trans f2.fk, a, b, fk, bk, mk, true, tk, ct, ⟨(f2.2 0 (by omega)).trans ca1', ab⟩, ⟨op, tt, rf, sl1.keep (fun i i1 i2 => f2.2 i (by omega))⟩, sv, c'.ff f2 fx2 ⟨(n2 _ (by decide)).trans d1, d2.keep (n2 _ (by decide)) (n2 _ (by decide)), d3.keep (n2 _ (by decide)) (n2 _ (by decide)), d4.keep (n2 _ (by decide)) (n2 _ (by decide)), d5.keep (n2 _ (by decide)) (n2 _ (by decide))⟩ w1 w2, ck'.keep (fun i i1 i2 => f2.2 i (by omega)), no1.keep (fun i i1 i2 => f2.2 i (by omega)), (nx.keep (h' := h1) (fun i i1 i2 => f1.2 i (by omega) (by omega) (by omega) (by omega))).keep (fun i i1 i2 => f2.2 i (by omega)), hv, ti⟩
        · rw [if_neg qf, if_pos (show nI 0 = 0 by decide), if_neg qf]
          have hg := (hb _ hv).2.2.1
          have ko : iok (mvI (ordr g.2.1 jn)) := by
            unfold ordr
            rw [if_neg qf]
            have := cnt_le (nF g.2.1) jn
            show iok (cnt (nF g.2.1) jn : Int)
            exact iok_nI (by omega)
          obtain ⟨h2, e5, f2, w2⟩ := d126 (a := 213) (c := mvI (ordr g.2.1 jn)) (side := nFr g.2.1 + xn) kf (gb54 hv) (by omega) (sP_ro g.2.1) ko (by omega) c'.2.2.2.2.2.2.1 (by decide) (by decide) (Or.inr (by decide))
          rw [← roI_mv] at e5
          have xl : (fso (sP g.2.1) (nFr g.2.1) (mvI (ordr g.2.1 jn)) (nFr g.2.1 + xn)).natAbs < BB ^ 5 := fso_lt hg _ (by omega)
          have yl : (sP g.2.1).2.2.1.natAbs < BB ^ 5 := (hg _ (Nat.le_refl _)).2
          obtain ⟨h3, e6, f3, ci3, z3⟩ := CI.res (h' := h) ci1 f2 w2 kf (by decide) rfl xl yl
          have ca2' := (f2.2 0 (by decide) (by decide)).trans ca1'
          have dk2 : h2.1 20 = .inr (1, [.ref 21, .ref 30, .ref 32, .ref 34, .ref 36, .ref 38, .ref 40]) := (f2.2 20 (by decide) (by decide)).trans c'.2.2.2.2.1.1
          have go2 := (f2.2 54 (by decide) (by decide)).trans kf.1
          simp only [S173, gFs, pFs, okq, bls, bo_true, eUp_at, eUp_eUp, eKls, cl_some, Option.toList_some, Option.toList_none, List.cons_append, List.nil_append, ca1', x0, x5.get hj v1.2.1 (by decide), nI_add, e5, ca2', go2, dk2, e6]
          exact ⟨h3, rfl, (f1.fk (by decide)).trans f3, ci3⟩
      · rw [decide_eq_false q3, if_pos (show ldI false = 0 by decide), if_neg (by decide)]
        exact ⟨h1, rfl, f1.fk (by decide), ci1⟩
    · rw [if_neg q2, if_pos (show nI 0 = 0 by decide), decide_eq_false q2, Bool.false_and, if_neg (by decide)]
      exact ⟨h1, rfl, f1.fk (by decide), ci1⟩
  · rw [if_neg (nI_ne0 (by omega) (by omega)), decide_eq_false q, Bool.false_and, if_neg (by decide)]
    exact ⟨h1, rfl, f1.fk (by decide), ci1⟩
theorem p183 (hb : ∀ n, NV n → HB n) (ci : CI h g) : ∃ h' r, den 183 [.ref 0] h = some (some (.int (iI r)), h') ∧ FK h h' ∧ CI h' g ∧ (3 < nM g.2.1 - (sF g.2.1).2.1 → r = -7) ∧ (nM g.2.1 - (sF g.2.1).2.1 ≤ 3 → (r = 1 ∧ TI g.2.1) ∨ (r = 0 ∧ ¬ TI g.2.1)) := by
  obtain ⟨a, b, fk, bk, mk, pk, tk, ct, ca, sl, sv, c, ck, no, nx, hv, ti⟩ := ci
  have ca1 := ca.1
  have v1 := hv.1
  have ab := ca.2
  obtain ⟨h1, bk1, L, e1, f1, ca', c', ck', kf, hbL, -⟩ := d123 (w := false) hb hv ca c ck no
  obtain ⟨ci1, no1⟩ := CI.fg f1 (by decide) ca' ca.2 sl sv c' ck' no nx hv ti
  have ca1' := ca'.1
  rw [show ldI false = nI 0 from rfl] at e1
  have ag := sF_wLd g.2.1 L
  have e2 := d132 kf.1 (sF_rk (wLd g.2.1 L)).1
  rw [ag.2] at e2
  rw [E183 0 ca1]
  simp only [S183, gFs, pFs, okq, bls, bo_true, eUp_at, eUp_eUp, eKls, cl_some, Option.toList_some, Option.toList_none, List.cons_append, List.nil_append, e1, ca1', e2]
  by_cases q : nM g.2.1 - (sF g.2.1).2.1 ≤ 3
  · rw [if_pos (nI_le q (by decide))]
    have fin : ∀ (b0 : Bool), (b0 = true ↔ TI g.2.1) → (nM g.2.1 - (sF g.2.1).2.1 ≤ 3 → ((if b0 = true then (1 : Int) else 0) = 1 ∧ TI g.2.1) ∨ ((if b0 = true then (1 : Int) else 0) = 0 ∧ ¬ TI g.2.1)) := by
      intro b0 hb0 _
      cases b0 with
      | true => exact Or.inl ⟨rfl, hb0.mp rfl⟩
      | false => exact Or.inr ⟨rfl, fun e => by have := hb0.mpr e; cases this⟩
    cases tk with
    | true =>
      refine ⟨h1, if ct = true then 1 else 0, ?_, f1.fk (by decide), ci1, fun e => by omega, fin ct (ti rfl)⟩
      rw [if_neg (show ¬ ldI true = 0 by decide)]
      cases ct with
      | true => rw [if_neg (show ¬ ldI true = 0 by decide), if_pos rfl]; rfl
      | false => rw [if_pos (show ldI false = 0 by decide), if_neg (by decide)]; rfl
    | false =>
      have hg := hbL.1
      have hqv : ∀ m, qv g.2.1 (sF (wLd g.2.1 L)) (nM g.2.1) m = qv g.2.1 (sF g.2.1) (nM g.2.1) m := fun m => by
        funext i
        unfold qv
        rw [ffr_ag ag i m]
      have hq5 : ∀ m, m < nM g.2.1 → ∀ i, i < 3 → (qv g.2.1 (sF (wLd g.2.1 L)) (nM g.2.1) m i).natAbs < BB ^ 5 := fun m hm i hi => by
        have := ffr_lt hg (Nat.le_succ _) i m
        have t5 : (ffr (sF (wLd g.2.1 L)) (nM g.2.1) i m).natAbs < BB ^ 5 := this
        unfold qv
        split
        · exact t5
        · split
          · rw [Int.natAbs_neg]; exact t5
          · rw [Int.natAbs_zero]; exact BP_pos 5
      have a196 : 196 ≤ a := by omega
      obtain ⟨h2, R, e3, f2, cx2, mo, so, cpl⟩ := d105 (a := a) (g := 42) hv (gb42 hv) (Nat.le_succ _) (sF_ro (wLd g.2.1 L)) (by decide) (lt_nd' ((hg (nM g.2.1) (Nat.le_refl _)).2 : (sF (wLd g.2.1 L)).2.2.1.natAbs < BB ^ 5) (by decide)) (by decide) a196 no1 kf c'.2.2.2.2.2.2.2.1 hq5
      have hiff := cone_iff (fun m hm hbm => ⟨qv_bar hbm 0, qv_bar hbm 1, qv_bar hbm 2⟩) mo so cpl
      have hTI : alr R (nM g.2.1) = true ↔ TI g.2.1 := by
        rw [hiff]
        unfold TI
        constructor
        · intro ⟨y, hy⟩
          refine ⟨y, fun m hm hs => ?_⟩
          rw [← hqv m]
          exact hy m hm (fun e => hs (of_decide_eq_true e))
        · intro ⟨y, hy⟩
          refine ⟨y, fun m hm hs => ?_⟩
          rw [hqv m]
          exact hy m hm (fun e => hs (decide_eq_true e))
      have ca2 := (f2.2 0 (by omega)).trans ca1'
      obtain ⟨h3, hh3⟩ : ∃ h3, h3 = eUp h2 0 (.inr (10, [.ref 1, .ref 13, .ref 20, .ref 42, .ref 48, .ref 54, .ref 60, .ref 196, .ref 213, .ref a, .ref b, .int (ldI true), .int (ldI bk1), .int (ldI mk), .int (ldI pk), .int (nI 1), .int (ldI (alr R (nM g.2.1)))])) := ⟨_, rfl⟩
      have n3 : ∀ i, i ≠ 0 → h3.1 i = h2.1 i := fun i hi => by rw [hh3]; exact eUp_ne hi
      have c3 : h3.1 0 = .inr (10, [.ref 1, .ref 13, .ref 20, .ref 42, .ref 48, .ref 54, .ref 60, .ref 196, .ref 213, .ref a, .ref b, .int (ldI true), .int (ldI bk1), .int (ldI mk), .int (ldI pk), .int (nI 1), .int (ldI (alr R (nM g.2.1)))]) := by rw [hh3]; exact eUp_at ..
      have nn : ∀ i, i ≠ 0 → ¬ (60 ≤ i ∧ i ≤ 195) → h3.1 i = h1.1 i := fun i i1 i2 => (n3 i i1).trans (f2.2 i i2)
      obtain ⟨op, tt, rf, sl⟩ := sl
      have sl1 := sl.keep (h' := h1) (fun i i1 i2 => f1.2 i (by omega) (by omega) (by omega) (by omega))
      obtain ⟨y1, y2, y3, ⟨z1, z2, z3, z4, z5⟩, y5, y6, y7, y8, y9⟩ := c'
      refine ⟨h3, if alr R (nM g.2.1) = true then 1 else 0, ?_, (f1.fk (by decide)).trans ⟨by rw [hh3]; exact f2.1, fun i hi => nn i (by omega) (by omega)⟩, ⟨a, b, true, bk1, mk, pk, true, alr R (nM g.2.1), ⟨c3, ab⟩, ⟨op, tt, rf, sl1.keep (fun i i1 i2 => nn i (by omega) (by omega))⟩, sv, ⟨y1.keep (fun i i1 i2 => nn i (by omega) (by omega)), y2.keep (nn _ (by omega) (by omega)) (nn _ (by omega) (by omega)), y3.keep (nn _ (by omega) (by omega)) (nn _ (by omega) (by omega)), ⟨(nn _ (by omega) (by omega)).trans z1, z2.keep (nn _ (by omega) (by omega)) (nn _ (by omega) (by omega)), z3.keep (nn _ (by omega) (by omega)) (nn _ (by omega) (by omega)), z4.keep (nn _ (by omega) (by omega)) (nn _ (by omega) (by omega)), z5.keep (nn _ (by omega) (by omega)) (nn _ (by omega) (by omega))⟩, y5.keep (fun i hi => nn i (by omega) (by omega)), y6.keep (nn _ (by omega) (by omega)) (nn _ (by omega) (by omega)), y7.keep (nn _ (by omega) (by omega)) (nn _ (by omega) (by omega)), cx2.keep (fun i i1 i2 => n3 i (by omega)), y9.keep (fun i i1 i2 => nn i (by omega) (by omega))⟩, ck'.keep (fun i i1 i2 => nn i (by omega) (by omega)), no1.keep (fun i i1 i2 => nn i (by omega) (by omega)), (nx.keep (h' := h1) (fun i i1 i2 => f1.2 i (by omega) (by omega) (by omega) (by omega))).keep (fun i i1 i2 => nn i (by omega) (by omega)), hv, fun _ => hTI⟩, fun e => by omega, fin _ hTI⟩
      have l01 := ldI01 (alr R (nM g.2.1))
      rw [if_pos (show ldI false = 0 by decide)]
      simp only [S183, gFs, pFs, okq, bls, bo_true, eUp_at, eUp_eUp, eKls, cl_some, Option.toList_some, Option.toList_none, List.cons_append, List.nil_append, ca1', e3, ca2, l01]
      rw [← hh3]
      cases alr R (nM g.2.1) with
      | true => rw [if_neg (show ¬ ldI true = 0 by decide), if_pos rfl]; rfl
      | false => rw [if_pos (show ldI false = 0 by decide), if_neg (by decide)]; rfl
  · rw [if_neg (nI_ge (by omega) (by omega))]
    exact ⟨h1, -7, rfl, f1.fk (by decide), ci1, fun _ => rfl, fun e => absurd e q⟩
theorem p178 (hb : ∀ n, NV n → HB n) (ci : CI h g) : ∃ h', den 178 [.ref 0] h = some (some (.int (iI (stfR g.2.1))), h') ∧ FK h h' ∧ CI h' g := by
  have ci0 := ci
  obtain ⟨a, b, fk, bk, mk, pk, tk, ct, ca, sl, sv, c, ck, no, nx, hv, ti⟩ := ci
  have ca1 := ca.1
  have v1 := hv.1
  have ab := ca.2
  have e0 := d138 (w := false) no hv
  rw [show ldI false = nI 0 from rfl] at e0
  unfold stfR
  rw [E178 0 ca1]
  simp only [S178, gFs, pFs, okq, bls, bo_true, eUp_at, eUp_eUp, eKls, cl_some, Option.toList_some, Option.toList_none, List.cons_append, List.nil_append, ca1, e0]
  cases hev : evn g.2.1 false (nJ g.2.1) 0 with
  | false =>
    rw [if_pos (show ldI false = 0 by decide), if_pos rfl]
    exact ⟨h, rfl, FK.refl _, ci0⟩
  | true =>
    rw [if_neg (show ¬ ldI true = 0 by decide), if_neg (by decide)]
    obtain ⟨h1, e1, f1, ca', c', ck', kf⟩ := d153 (hb _ hv) hv ca c ck no
    obtain ⟨ci1, no1⟩ := CI.fg f1 (by decide) ca' ca.2 sl sv c' ck' no nx hv ti
    have ca1' := ca'.1
    have n8 := nFr_le hv
    have e2 := d132 kf.1 (sM_rk g.2.1).1
    simp only [S178, gFs, pFs, okq, bls, bo_true, eUp_at, eUp_eUp, eKls, cl_some, Option.toList_some, Option.toList_none, List.cons_append, List.nil_append, e1, ca1', e2]
    by_cases q : 2 * nFr g.2.1 - (sM g.2.1).2.1 ≤ 3
    · rw [if_pos (nI_le q (by decide)), if_neg (show ¬ 3 < 2 * nFr g.2.1 - (sM g.2.1).2.1 by omega)]
      have hg := (hb _ hv).2.1
      have a213 : 213 ≤ a := by omega
      obtain ⟨h2, e3, ⟨s2, n2⟩, dk2, w302, fx2⟩ := d177 (a := a) (g := 48) hv (gb48 hv) (Nat.le_refl _) (sM_ro g.2.1) (lt_nd' ((hg _ (Nat.le_refl _)).2 : (sM g.2.1).2.2.1.natAbs < BB ^ 5) (by decide)) (by decide) (by decide) a213 (fun i c => ffr_lt hg (Nat.le_refl _) i c) (sM_rk g.2.1).1 rfl q no1 kf c'.2.2.2.2.1 c'.2.2.2.2.2.1 c'.2.2.2.2.2.2.2.2 ((hb _ hv).2.2.2 q)
      obtain ⟨op, tt, rf, sl⟩ := sl
      have sl1 := sl.keep (h' := h1) (fun i i1 i2 => f1.2 i (by omega) (by omega) (by omega) (by omega))
      obtain ⟨y1, y2, y3, ⟨z1, z2, z3, z4, z5⟩, y5, y6, y7, y8, y9⟩ := c'
      have nn : ∀ i, ¬ (22 ≤ i ∧ i ≤ 25) → ¬ (30 ≤ i ∧ i ≤ 41) → ¬ (197 ≤ i ∧ i ≤ 212) → h2.1 i = h1.1 i := n2
      have ci2 : CI h2 g := ⟨a, b, fk, bk, true, pk, tk, ct, ⟨(nn 0 (by omega) (by omega) (by omega)).trans ca1', ab⟩, ⟨op, tt, rf, sl1.keep (fun i i1 i2 => nn i (by omega) (by omega) (by omega))⟩, sv, ⟨y1.keep (fun i i1 i2 => nn i (by omega) (by omega) (by omega)), y2.keep (nn _ (by omega) (by omega) (by omega)) (nn _ (by omega) (by omega) (by omega)), y3.keep (nn _ (by omega) (by omega) (by omega)) (nn _ (by omega) (by omega) (by omega)), ⟨dk2.2.1, dk2.2.2.1, dk2.2.2.2.1, z4.keep (nn _ (by omega) (by omega) (by omega)) (nn _ (by omega) (by omega) (by omega)), z5.keep (nn _ (by omega) (by omega) (by omega)) (nn _ (by omega) (by omega) (by omega))⟩, dk2, w302, y7.keep (nn _ (by omega) (by omega) (by omega)) (nn _ (by omega) (by omega) (by omega)), y8.keep (fun i i1 i2 => nn i (by omega) (by omega) (by omega)), fx2⟩, ck'.keep (fun i i1 i2 => nn i (by omega) (by omega) (by omega)), no1.keep (fun i i1 i2 => nn i (by omega) (by omega) (by omega)), (nx.keep (h' := h1) (fun i i1 i2 => f1.2 i (by omega) (by omega) (by omega) (by omega))).keep (fun i i1 i2 => nn i (by omega) (by omega) (by omega)), hv, ti⟩
      refine ⟨h2, ?_, (f1.fk (by decide)).trans ⟨s2, fun i hi => nn i (by omega) (by omega) (by omega)⟩, ci2⟩
      simp only [S178, gFs, pFs, okq, bls, bo_true, eUp_at, eUp_eUp, eKls, cl_some, Option.toList_some, Option.toList_none, List.cons_append, List.nil_append, ca1', e3]
      show (if ldI (stfB g.2.1) = 0 then _ else _) = _
      cases stfB g.2.1 with
      | true => rw [if_neg (show ¬ ldI true = 0 by decide), if_pos rfl]; rfl
      | false => rw [if_pos (show ldI false = 0 by decide), if_neg (by decide)]; rfl
    · rw [if_neg (nI_ge (by omega) (by omega)), if_pos (by omega)]
      exact ⟨h1, rfl, f1.fk (by decide), ci1⟩
end OP6
