/-! THE CLASS: tight, stiff, stress, way, bears, shape -/
theorem cone_sound {q : Nat → Nat → Int} {M : Nat} {br : Nat → Bool} (h : ∀ m, m < M → br m = true ∨ ∃ v, OS q v M ∧ dot (q m) v ≠ 0) : ∃ y : Nat → Int, (∀ j, j < M → 0 ≤ dot (q j) y) ∧ ∀ m, m < M → ¬ br m = true → 0 < dot (q m) y := by
  have go : ∀ k, k ≤ M → ∃ y : Nat → Int, (∀ j, j < M → 0 ≤ dot (q j) y) ∧ ∀ m, m < k → ¬ br m = true → 0 < dot (q m) y := by
    intro k
    induction k with
    | zero =>
      intro _
      exact ⟨fun _ => 0, fun j _ => Int.le_of_eq (dot_0 (v := fun _ => 0) ⟨rfl, rfl, rfl⟩).symm, fun m hm => absurd hm (Nat.not_lt_zero _)⟩
    | succ k ih =>
      intro hk
      obtain ⟨y, y1, y2⟩ := ih (by omega)
      have hw : ∃ w : Nat → Int, (∀ j, j < M → 0 ≤ dot (q j) w) ∧ (¬ br k = true → 0 < dot (q k) w) := by
        rcases h k (by omega) with hb | ⟨v, os, hv⟩
        · exact ⟨fun _ => 0, fun j _ => Int.le_of_eq (dot_0 (v := fun _ => 0) ⟨rfl, rfl, rfl⟩).symm, fun e => absurd hb e⟩
        · rcases os with os | os
          · have := os k (by omega)
            exact ⟨v, os, fun _ => by omega⟩
          · have := os k (by omega)
            exact ⟨fun i => - v i, fun j hj => by rw [dot_neg]; have := os j hj; omega, fun _ => by rw [dot_neg]; omega⟩
      obtain ⟨w, w1, w2⟩ := hw
      refine ⟨fun i => y i + w i, fun j hj => by rw [dot_add]; have := y1 j hj; have := w1 j hj; omega, fun m hm hb => ?_⟩
      rw [dot_add]
      have a1 := y1 m (by omega)
      have a2 := w1 m (by omega)
      by_cases qm : m = k
      · rw [qm] at hb a1 ⊢
        have := w2 hb
        omega
      · have := y2 m (by omega) hb
        omega
  exact go M (Nat.le_refl _)
theorem cone_iff {q : Nat → Nat → Int} {M : Nat} {R br : Nat → Bool} (hbr : ∀ m, m < M → br m = true → q m 0 = 0 ∧ q m 1 = 0 ∧ q m 2 = 0) (mo : MO M br R) (so : SO q M R br) (cpl : alr R M = true ∨ ((∀ a', a' < M → TD q M R (q a')) ∧ ∃ pt', PL q M M 0 R pt')) : alr R M = true ↔ ∃ y : Nat → Int, ∀ m, m < M → ¬ br m = true → 0 < dot (q m) y := by
  constructor
  · intro hal
    rw [alr_iff] at hal
    obtain ⟨y, -, y2⟩ := cone_sound (fun m hm => so m hm (hal m hm))
    exact ⟨y, y2⟩
  · intro ⟨y, hy⟩
    rcases cpl with c | ⟨td, pt, pl⟩
    · exact c
    · rw [alr_iff]
      intro m hm
      by_cases hb : br m = true
      · exact mo m hm hb
      · have hz : ∀ j, j < M → 0 < dot (q j) y ∨ (q j 0 = 0 ∧ q j 1 = 0 ∧ q j 2 = 0) := fun j hj => by
          by_cases hbj : br j = true
          · exact Or.inr (hbr j hj hbj)
          · exact Or.inl (hy j hj hbj)
        have hge : ∀ j, j < M → 0 ≤ dot (q j) y := fun j hj => by
          rcases hz j hj with z | z
          · omega
          · rw [dot_comm, dot_0 z]; exact Int.le_refl _
        obtain ⟨e1, e2⟩ := edge hm hge (hy m hm hb) hz
        cases pt with
        | false =>
          obtain ⟨os, ne⟩ := e1 (fun a b h1 h2 => pl.2.2 rfl a b h1 (Or.inl h2))
          exact td m hm m hm os ne
        | true =>
          obtain ⟨a', b', g1, g2, g3, g4⟩ := pl.2.1 rfl
          rcases e2 a' b' g1 g2 g3 with ⟨m1, m2, k1, k2, os, ne⟩ | ⟨m1, k1, os, ne⟩
          · exact pl.1 m1 m2 k2 (Or.inl k1) m hm os ne
          · exact g4 m1 k1 m hm os ne
theorem qv_bar {n : NT} {s : RS} {unk m : Nat} (h : bar n m = true) : ∀ i, qv n s unk m i = 0 := by
  intro i
  have : nS n m = 0 := of_decide_eq_true h
  unfold qv
  rw [if_neg (by omega), if_neg (by omega)]
theorem CT.k213 {h h' : eH} {t : Int × Int} (c : CT h t) (f : F2 213 h h') (w : WX h' 213 36) : CT h' t := by
  obtain ⟨c1, c2, c3, ⟨d1, d2, d3, d4, d5⟩, c5, c6, c7, c8, c9⟩ := c
  have e : ∀ i, i < 213 → h'.1 i = h.1 i := fun i hi => f.2 i (by omega) (by omega)
  exact ⟨c1.keep (fun i i1 i2 => e i (by omega)), c2.keep (e _ (by omega)) (e _ (by omega)), c3.keep (e _ (by omega)) (e _ (by omega)), ⟨(e _ (by omega)).trans d1, d2.keep (e _ (by omega)) (e _ (by omega)), d3.keep (e _ (by omega)) (e _ (by omega)), d4.keep (e _ (by omega)) (e _ (by omega)), d5.keep (e _ (by omega)) (e _ (by omega))⟩, c5.keep (fun i hi => e i (by omega)), c6.keep (e _ (by omega)) (e _ (by omega)), w, c8.keep (fun i i1 i2 => e i (by omega)), c9.keep (fun i i1 i2 => e i (by omega))⟩
/-- a number at 213 over a grid's bottom becomes the result -/
theorem CI.res {h h' h1 : eH} {g : SG} {x y : Int} {gg H W C rows unk cols : Nat} {s : RS} (ci : CI h g) (f : F2 213 h h1) (w : WV h1 213 36 x) (k : KG h gg H W C rows unk cols s) (hgg : 42 ≤ gg ∧ gg ≤ 54) (hy : y = s.2.2.1) (hx5 : x.natAbs < BB ^ 5) (hy5 : y.natAbs < BB ^ 5) : ∃ h2, den 130 [.ref 13, .ref 213, .ref (gg + 1), .ref 21] h1 = some (none, h2) ∧ FK h h2 ∧ CI h2 (g.1, g.2.1, frac x y) ∧ h2.1 0 = h.1 0 := by
  obtain ⟨a, b, fk, bk, mk, pk, tk, ct, ca, ⟨op, tt, rf, sl⟩, sv, c, ck, no, nx, hv, ti⟩ := ci
  have ab := ca.2
  have c1 := c.k213 f w.x
  have p30 : BB ^ 5 < BB ^ 30 := Nat.pow_lt_pow_right (by decide) (by decide)
  have wb : WV h1 (gg + 1) 36 y := by rw [hy]; exact k.2.1.keep (f.2 _ (by omega) (by omega)) (f.2 _ (by omega) (by omega))
  obtain ⟨h2, e2, f2, fx, dd, w1, w2⟩ := d130 c1.1 c1.2.2.2.1 w wb (by decide) (by decide) (by decide) (by omega) (by omega) (by omega)
  have nn : ∀ i, (i < 14 ∨ 29 < i) → i ≠ 213 → i ≠ 214 → h2.1 i = h.1 i := fun i i1 i2 i3 => (f2.2 i (by omega)).trans (f.2 i i2 i3)
  refine ⟨h2, e2, ⟨f2.1.trans f.1, fun i hi => nn i (by omega) (by omega) (by omega)⟩, ⟨a, b, fk, bk, mk, pk, tk, ct, ⟨(nn 0 (by omega) (by omega) (by omega)).trans ca.1, ab⟩, ⟨op, tt, rf, sl.keep (fun i i1 i2 => nn i (by omega) (by omega) (by omega))⟩, sv, c1.ff f2 fx dd w1 w2, ck.keep (fun i i1 i2 => nn i (by omega) (by omega) (by omega)), no.keep (fun i i1 i2 => nn i (by omega) (by omega) (by omega)), nx.keep (fun i i1 i2 => nn i (by omega) (by omega) (by omega)), hv, ti⟩, nn 0 (by omega) (by omega) (by omega)⟩
def strB (n : NT) (i m : Int) : Bool := decide (0 ≤ i ∧ i < (nM n - (sF n).2.1 : Nat)) && decide (0 ≤ m ∧ m < nM n)
def strS (g : SG) (i m : Int) : SG := if strB g.2.1 i m = true then (g.1, g.2.1, frac (ffr (sF g.2.1) (nM g.2.1) i m) (sF g.2.1).2.2.1) else g
def wayB (n : NT) (i j x : Int) : Bool := decide (0 ≤ i ∧ i < (2 * nFr n - (sM n).2.1 : Nat)) && (decide (0 ≤ j ∧ j < nJ n) && decide (x = 0 ∨ x = 1))
def wayS (g : SG) (i j x : Int) : SG := if wayB g.2.1 i j x = true then (g.1, g.2.1, frac (ffr (sM g.2.1) (2 * nFr g.2.1) i (mvI (mov g.2.1 j.toNat x.toNat))) (sM g.2.1).2.2.1) else g
def berB (n : NT) (m : Int) : Bool := decide (0 ≤ m ∧ m < nM n) && decide (fr (sF n).1 (nM n) (2 * nFr n - (sF n).2.1) (sF n).2.1 = none)
def berS (g : SG) (m : Int) : SG := if berB g.2.1 m = true then (g.1, g.2.1, frac (fso (sF g.2.1) (nM g.2.1) m (nM g.2.1)) (sF g.2.1).2.2.1) else g
def shpB (n : NT) (j x : Int) : Bool := decide ((sP n).2.1 = nFr n) && (decide (0 ≤ j ∧ j < nJ n) && decide (x = 0 ∨ x = 1))
def shpS (g : SG) (j x : Int) : SG := if shpB g.2.1 j x = true then (g.1, g.2.1, if nF g.2.1 j.toNat = true then (nP g.2.1 x.toNat j.toNat, 1) else frac (fso (sP g.2.1) (nFr g.2.1) (mvI (ordr g.2.1 j.toNat)) (nFr g.2.1 + x.toNat)) (sP g.2.1).2.2.1) else g
section OP5
variable {h : eH} {g : SG}
theorem p179 {i m : Int} (hb : ∀ n, NV n → HB n) (ci : CI h g) (ki : iok i) (km : iok m) : ∃ h', den 179 [.ref 0, .int (iI i), .int (iI m)] h = some (some (.int (ldI (strB g.2.1 i m))), h') ∧ FK h h' ∧ CI h' (strS g i m) := by
  obtain ⟨a, b, fk, bk, mk, pk, tk, ct, ca, sl, sv, c, ck, no, nx, hv, ti⟩ := ci
  have ca1 := ca.1
  have v1 := hv.1
  obtain ⟨h1, bk1, L, e1, f1, ca', c', ck', kf, hbL, -⟩ := d123 (w := false) hb hv ca c ck no
  obtain ⟨ci1, no1⟩ := CI.fg f1 (by decide) ca' ca.2 sl sv c' ck' no nx hv ti
  have ca1' := ca'.1
  rw [show ldI false = nI 0 from rfl] at e1
  have ag := sF_wLd g.2.1 L
  have e2 := d132 kf.1 (sF_rk (wLd g.2.1 L)).1
  rw [ag.2] at e2
  have e3 := d124 no1 hv km
  have l0 : iI i < 0 ↔ i < 0 := by rw [show (0 : Int32) = iI 0 from by decide]; exact iI_lt ki iok_0
  have l1 : nI (nM g.2.1 - (sF g.2.1).2.1) ≤ iI i ↔ ((nM g.2.1 - (sF g.2.1).2.1 : Nat) : Int) ≤ i := by rw [nI_I]; exact iI_le (iok_nI (by omega)) ki
  unfold strS strB
  rw [E179 0 _ _ ca1]
  simp only [S179, gFs, pFs, okq, bls, bo_true, eUp_at, eUp_eUp, eKls, cl_some, Option.toList_some, Option.toList_none, List.cons_append, List.nil_append, e1]
  by_cases q0 : i < 0
  · rw [if_pos (l0.mpr q0), decide_eq_false (fun e => by omega), Bool.false_and, if_neg (by decide)]
    exact ⟨h1, rfl, f1.fk (by decide), ci1⟩
  · rw [if_neg (fun e => q0 (l0.mp e))]
    simp only [S179, gFs, pFs, okq, bls, bo_true, eUp_at, eUp_eUp, eKls, cl_some, Option.toList_some, Option.toList_none, List.cons_append, List.nil_append, ca1', e2]
    by_cases q1 : ((nM g.2.1 - (sF g.2.1).2.1 : Nat) : Int) ≤ i
    · rw [if_pos (l1.mpr q1), decide_eq_false (fun e => by omega), Bool.false_and, if_neg (by decide)]
      exact ⟨h1, rfl, f1.fk (by decide), ci1⟩
    · rw [if_neg (fun e => q1 (l1.mp e)), decide_eq_true (show 0 ≤ i ∧ i < ((nM g.2.1 - (sF g.2.1).2.1 : Nat) : Int) by omega), Bool.true_and]
      simp only [S179, gFs, pFs, okq, bls, bo_true, eUp_at, eUp_eUp, eKls, cl_some, Option.toList_some, Option.toList_none, List.cons_append, List.nil_append, ca1', e3]
      by_cases q2 : 0 ≤ m ∧ m < nM g.2.1
      · rw [if_pos q2, if_neg (show ¬ nI 1 = 0 by decide), decide_eq_true q2, if_pos rfl]
        have hg := hbL.1
        obtain ⟨h2, e4, f2, w2⟩ := d88 (a := 213) (i := i) (c := m) kf (gb42 hv) (by omega) (sF_ro (wLd g.2.1 L)) ki km c'.2.2.2.2.2.2.1 (by decide) (by decide) (lt_nd' ((hg (nM g.2.1) (Nat.le_refl _)).2 : (sF (wLd g.2.1 L)).2.2.1.natAbs < BB ^ 5) (by decide)) (Or.inr (by decide))
        have xl : (ffr (sF (wLd g.2.1 L)) (nM g.2.1) i m).natAbs < BB ^ 5 := ffr_lt hg (Nat.le_succ _) i m
        have yl : (sF (wLd g.2.1 L)).2.2.1.natAbs < BB ^ 5 := (hg (nM g.2.1) (Nat.le_refl _)).2
        obtain ⟨h3, e5, f3, ci3, z3⟩ := CI.res (h' := h) ci1 f2 w2 kf (by decide) rfl xl yl
        rw [ffr_ag ag i m, ag.2] at ci3
        have ca2' := (f2.2 0 (by decide) (by decide)).trans ca1'
        have dk2 : h2.1 20 = .inr (1, [.ref 21, .ref 30, .ref 32, .ref 34, .ref 36, .ref 38, .ref 40]) := (f2.2 20 (by decide) (by decide)).trans c'.2.2.2.2.1.1
        have go2 := (f2.2 42 (by decide) (by decide)).trans kf.1
        simp only [S179, gFs, pFs, okq, bls, bo_true, eUp_at, eUp_eUp, eKls, cl_some, Option.toList_some, Option.toList_none, List.cons_append, List.nil_append, ca1', e4, ca2', go2, dk2, e5]
        exact ⟨h3, rfl, (f1.fk (by decide)).trans f3, ci3⟩
      · rw [if_neg q2, if_pos (show nI 0 = 0 by decide), decide_eq_false q2, if_neg (by decide)]
        exact ⟨h1, rfl, f1.fk (by decide), ci1⟩
theorem p187 {i j x : Int} (hb : ∀ n, NV n → HB n) (ci : CI h g) (ki : iok i) (kj : iok j) (kx : iok x) : ∃ h', den 187 [.ref 0, .int (iI i), .int (iI j), .int (iI x)] h = some (some (.int (ldI (wayB g.2.1 i j x))), h') ∧ FK h h' ∧ CI h' (wayS g i j x) := by
  obtain ⟨a, b, fk, bk, mk, pk, tk, ct, ca, sl, sv, c, ck, no, nx, hv, ti⟩ := ci
  have ca1 := ca.1
  have v1 := hv.1
  obtain ⟨h1, e1, f1, ca', c', ck', kf⟩ := d153 (hb _ hv) hv ca c ck no
  obtain ⟨ci1, no1⟩ := CI.fg f1 (by decide) ca' ca.2 sl sv c' ck' no nx hv ti
  have ca1' := ca'.1
  have n8 := nFr_le hv
  have e2 := d132 kf.1 (sM_rk g.2.1).1
  have e3 := d157 no1 hv kj
  have e3' := d149 kx h1
  have l0 : iI i < 0 ↔ i < 0 := by rw [show (0 : Int32) = iI 0 from by decide]; exact iI_lt ki iok_0
  have l1 : nI (2 * nFr g.2.1 - (sM g.2.1).2.1) ≤ iI i ↔ ((2 * nFr g.2.1 - (sM g.2.1).2.1 : Nat) : Int) ≤ i := by rw [nI_I]; exact iI_le (iok_nI (by omega)) ki
  unfold wayS wayB
  rw [E187 0 _ _ _ ca1]
  simp only [S187, gFs, pFs, okq, bls, bo_true, eUp_at, eUp_eUp, eKls, cl_some, Option.toList_some, Option.toList_none, List.cons_append, List.nil_append, e1]
  by_cases q0 : i < 0
  · rw [if_pos (l0.mpr q0), decide_eq_false (fun e => by omega), Bool.false_and, if_neg (by decide)]
    exact ⟨h1, rfl, f1.fk (by decide), ci1⟩
  · rw [if_neg (fun e => q0 (l0.mp e))]
    simp only [S187, gFs, pFs, okq, bls, bo_true, eUp_at, eUp_eUp, eKls, cl_some, Option.toList_some, Option.toList_none, List.cons_append, List.nil_append, ca1', e2]
    by_cases q1 : ((2 * nFr g.2.1 - (sM g.2.1).2.1 : Nat) : Int) ≤ i
    · rw [if_pos (l1.mpr q1), decide_eq_false (fun e => by omega), Bool.false_and, if_neg (by decide)]
      exact ⟨h1, rfl, f1.fk (by decide), ci1⟩
    · rw [if_neg (fun e => q1 (l1.mp e)), decide_eq_true (show 0 ≤ i ∧ i < ((2 * nFr g.2.1 - (sM g.2.1).2.1 : Nat) : Int) by omega), Bool.true_and]
      simp only [S187, gFs, pFs, okq, bls, bo_true, eUp_at, eUp_eUp, eKls, cl_some, Option.toList_some, Option.toList_none, List.cons_append, List.nil_append, ca1', e3]
      by_cases q2 : 0 ≤ j ∧ j < nJ g.2.1
      · rw [if_pos q2, if_neg (show ¬ nI 1 = 0 by decide), decide_eq_true q2, Bool.true_and]
        simp only [S187, gFs, pFs, okq, bls, bo_true, eUp_at, eUp_eUp, eKls, cl_some, Option.toList_some, Option.toList_none, List.cons_append, List.nil_append, e3']
        by_cases q3 : x = 0 ∨ x = 1
        · rw [decide_eq_true q3, if_neg (show ¬ ldI true = 0 by decide), if_pos rfl]
          obtain ⟨jn, hjn⟩ : ∃ k : Nat, j = k := ⟨j.toNat, by omega⟩
          obtain ⟨xn, hxn⟩ : ∃ k : Nat, x = k := ⟨x.toNat, by omega⟩
          subst hjn
          subst hxn
          rw [Int.toNat_natCast, Int.toNat_natCast]
          have hj : jn < nJ g.2.1 := by omega
          have hx : xn < 2 := by omega
          have p1 := d108 (ax := xn) no1 hv hj
          rw [roI_mv, nI_I, nI_I] at p1
          have hg := (hb _ hv).2.1
          obtain ⟨h2, e4, f2, w2⟩ := d88 (a := 213) (i := i) (c := mvI (mov g.2.1 jn xn)) kf (gb48 hv) (Nat.le_refl _) (sM_ro g.2.1) ki (iok_mv hv hj hx) c'.2.2.2.2.2.2.1 (by decide) (by decide) (lt_nd' ((hg _ (Nat.le_refl _)).2 : (sM g.2.1).2.2.1.natAbs < BB ^ 5) (by decide)) (Or.inr (by decide))
          have xl : (ffr (sM g.2.1) (2 * nFr g.2.1) i (mvI (mov g.2.1 jn xn))).natAbs < BB ^ 5 := ffr_lt hg (Nat.le_refl _) i _
          have yl : (sM g.2.1).2.2.1.natAbs < BB ^ 5 := (hg _ (Nat.le_refl _)).2
          obtain ⟨h3, e5, f3, ci3, z3⟩ := CI.res (h' := h) ci1 f2 w2 kf (by decide) rfl xl yl
          have ca2' := (f2.2 0 (by decide) (by decide)).trans ca1'
          have dk2 : h2.1 20 = .inr (1, [.ref 21, .ref 30, .ref 32, .ref 34, .ref 36, .ref 38, .ref 40]) := (f2.2 20 (by decide) (by decide)).trans c'.2.2.2.2.1.1
          have go2 := (f2.2 48 (by decide) (by decide)).trans kf.1
          simp only [S187, gFs, pFs, okq, bls, bo_true, eUp_at, eUp_eUp, eKls, cl_some, Option.toList_some, Option.toList_none, List.cons_append, List.nil_append, ca1', p1, e4, ca2', go2, dk2, e5]
          exact ⟨h3, rfl, (f1.fk (by decide)).trans f3, ci3⟩
        · rw [decide_eq_false q3, if_pos (show ldI false = 0 by decide), if_neg (by decide)]
          exact ⟨h1, rfl, f1.fk (by decide), ci1⟩
      · rw [if_neg q2, if_pos (show nI 0 = 0 by decide), decide_eq_false q2, Bool.false_and, if_neg (by decide)]
        exact ⟨h1, rfl, f1.fk (by decide), ci1⟩
theorem p131 {m : Int} (hb : ∀ n, NV n → HB n) (ci : CI h g) (km : iok m) : ∃ h', den 131 [.ref 0, .int (iI m)] h = some (some (.int (ldI (berB g.2.1 m))), h') ∧ FK h h' ∧ CI h' (berS g m) := by
  obtain ⟨a, b, fk, bk, mk, pk, tk, ct, ca, sl, sv, c, ck, no, nx, hv, ti⟩ := ci
  have ca1 := ca.1
  have v1 := hv.1
  obtain ⟨h1, bk1, L, e1, f1, ca', c', ck', -, -, kf⟩ := d123 (w := true) hb hv ca c ck no
  have kf := kf rfl
  obtain ⟨ci1, no1⟩ := CI.fg f1 (by decide) ca' ca.2 sl sv c' ck' no nx hv ti
  have ca1' := ca'.1
  have x0 := no1.1
  rw [show ldI true = nI 1 from rfl] at e1
  have rk := sF_rk g.2.1
  have e2 := d124 no1 hv km
  have e3 := d125 (side := nM g.2.1) kf (gb42 hv) (by omega) rk.2
  unfold berS berB
  rw [E131 0 _ ca1]
  simp only [S131, gFs, pFs, okq, bls, bo_true, eUp_at, eUp_eUp, eKls, cl_some, Option.toList_some, Option.toList_none, List.cons_append, List.nil_append, e1, ca1', e2]
  by_cases q2 : 0 ≤ m ∧ m < nM g.2.1
  · rw [if_pos q2, if_neg (show ¬ nI 1 = 0 by decide), decide_eq_true q2, Bool.true_and]
    simp only [S131, gFs, pFs, okq, bls, bo_true, eUp_at, eUp_eUp, eKls, cl_some, Option.toList_some, Option.toList_none, List.cons_append, List.nil_append, ca1', x0, e3]
    by_cases q3 : fr (sF g.2.1).1 (nM g.2.1) (2 * nFr g.2.1 - (sF g.2.1).2.1) (sF g.2.1).2.1 = none
    · rw [if_pos q3, if_neg (show ¬ nI 1 = 0 by decide), decide_eq_true q3, if_pos rfl]
      have hg := (hb _ hv).1
      obtain ⟨h2, e4, f2, w2⟩ := d126 (a := 213) (c := m) (side := nM g.2.1) kf (gb42 hv) (by omega) (sF_ro g.2.1) km (by omega) c'.2.2.2.2.2.2.1 (by decide) (by decide) (Or.inr (by decide))
      have xl : (fso (sF g.2.1) (nM g.2.1) m (nM g.2.1)).natAbs < BB ^ 5 := fso_lt hg m (Nat.lt_succ_self _)
      have yl : (sF g.2.1).2.2.1.natAbs < BB ^ 5 := (hg _ (Nat.le_refl _)).2
      obtain ⟨h3, e5, f3, ci3, z3⟩ := CI.res (h' := h) ci1 f2 w2 kf (by decide) rfl xl yl
      have ca2' := (f2.2 0 (by decide) (by decide)).trans ca1'
      have dk2 : h2.1 20 = .inr (1, [.ref 21, .ref 30, .ref 32, .ref 34, .ref 36, .ref 38, .ref 40]) := (f2.2 20 (by decide) (by decide)).trans c'.2.2.2.2.1.1
      have go2 := (f2.2 42 (by decide) (by decide)).trans kf.1
      simp only [S131, gFs, pFs, okq, bls, bo_true, eUp_at, eUp_eUp, eKls, cl_some, Option.toList_some, Option.toList_none, List.cons_append, List.nil_append, ca1', x0, e4, ca2', go2, dk2, e5]
      exact ⟨h3, rfl, (f1.fk (by decide)).trans f3, ci3⟩
    · rw [if_neg q3, if_pos (show nI 0 = 0 by decide), decide_eq_false q3, if_neg (by decide)]
      exact ⟨h1, rfl, f1.fk (by decide), ci1⟩
  · rw [if_neg q2, if_pos (show nI 0 = 0 by decide), decide_eq_false q2, Bool.false_and, if_neg (by decide)]
    exact ⟨h1, rfl, f1.fk (by decide), ci1⟩
end OP5
