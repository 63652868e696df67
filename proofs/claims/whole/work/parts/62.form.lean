/-! FORM -/
def FOo (h : eH) : Prop := h.1 196 = .inr (3, [.ref 207, .ref 197, .ref 199, .ref 201, .ref 203, .ref 205])
def mvI (o : Option Nat) : Int := match o with
  | none => -1
  | some r => r
theorem roI_mv (o : Option Nat) : roI o = iI (mvI o) := by
  cases o with
  | none => decide
  | some r => rfl
def gap (n : NT) (s : RS) (unk m ax i : Nat) : Int := ffr s unk i (mvI (mov n (nA n m) ax)) - ffr s unk i (mvI (mov n (nB n m) ax))
def trm (n : NT) (s : RS) (unk i j m ax : Nat) : Int := gap n s unk m ax i * gap n s unk m ax j * nU n m
def frm (n : NT) (s : RS) (unk i j : Nat) : Nat → Int := su (fun m => trm n s unk i j m 0 + trm n s unk i j m 1)
/-- the frame of Form's numbers -/
def FP (h h' : eH) : Prop := h'.2 = h.2 ∧ ∀ i, ¬ (197 ≤ i ∧ i ≤ 206) → h'.1 i = h.1 i
theorem FP.refl (h : eH) : FP h h := ⟨rfl, fun _ _ => rfl⟩
theorem FP.trans {h h' h'' : eH} (x : FP h h') (y : FP h' h'') : FP h h'' := ⟨y.1.trans x.1, fun i h1 => (y.2 i h1).trans (x.2 i h1)⟩
theorem F2.fp {a : Nat} {h h' : eH} (x : F2 a h h') (ha : 197 ≤ a ∧ a ≤ 205) : FP h h' := ⟨x.1, fun i hi => x.2 i (by omega) (by omega)⟩
theorem lt_nd' {z : Int} {k N : Nat} (h : z.natAbs < BB ^ k) (hk : k ≤ N) : nd z.natAbs ≤ N := Nat.le_trans (nd_le.mpr h) hk
section FO
variable {h : eH} {a g H W C rows unk cols : Nat} {n : NT} {s : RS}
theorem d175 {w i : Nat} {c1 c2 : Int} (hw : w = 201 ∨ w = 203) (k : KG h g H W C rows unk cols s) (b : GB H W C rows cols) (hu : unk ≤ cols) (hro : ∀ c r, s.2.2.2.1 c = some r → r < rows) (hbo : nd s.2.2.1.natAbs ≤ 36) (hg : g + 5 < 60) (hi : i < 2 ^ 31) (k1 : iok c1) (k2 : iok c2) (fo : FOo h) (ww : WX h w 36) (wp : WX h 199 36) (hf : ∀ i c, (ffr s unk i c).natAbs < BB ^ 5) : ∃ h', den 175 [.ref 196, .ref w, .ref g, .int (nI i), .int (iI c1), .int (iI c2)] h = some (none, h') ∧ h'.2 = h.2 ∧ (∀ j, j ≠ w → j ≠ w + 1 → j ≠ 199 → j ≠ 200 → h'.1 j = h.1 j) ∧ WV h' w 36 (ffr s unk i c1 - ffr s unk i c2) ∧ WX h' 199 36 := by
  have b5 := b.2.2.2.2.1
  obtain ⟨h1, e1, f1, w1⟩ := d88 (i := (i : Int)) k b hu hro (iok_nI hi) k1 ww (by decide) (by omega) hbo (by omega)
  have kg1 := k.keep (h' := h1) (fun j j1 j2 => f1.2 j (by omega) (by omega))
  have fo1 : h1.1 196 = .inr (3, [.ref 207, .ref 197, .ref 199, .ref 201, .ref 203, .ref 205]) := (f1.2 196 (by omega) (by omega)).trans fo
  obtain ⟨h2, e2, f2, w2⟩ := d88 (a := 199) (i := (i : Int)) kg1 b hu hro (iok_nI hi) k2 (wp.kept f1 (by omega) (by omega) (by omega)) (by decide) (by omega) hbo (by omega)
  have fo2 : h2.1 196 = .inr (3, [.ref 207, .ref 197, .ref 199, .ref 201, .ref 203, .ref 205]) := (f2.2 196 (by omega) (by omega)).trans fo1
  have l1 := hf i c1
  have l2 := hf i c2
  obtain ⟨h3, e3, f3, w3⟩ := d99 (w1.kept f2 (by omega) (by omega) (by omega)) w2 (by omega) (by decide) (by decide) true (z := ffr s unk i c1 - ffr s unk i c2) (by rw [if_pos rfl]) (lt_nd' (diff_lt l1 l2) (by decide))
  rw [if_pos rfl] at e3
  refine ⟨h3, ?_, f3.1.trans (f2.1.trans f1.1), fun j j1 j2 j3 j4 => (f3.2 j j1 j2).trans ((f2.2 j j3 j4).trans (f1.2 j j1 j2)), w3, w2.x.kept f3 (by omega) (by omega) (by omega)⟩
  rw [← nI_I i] at e1 e2
  rw [E175 196 _ _ _ _ _ fo]
  simp only [S175, gFs, pFs, okq, bls, bo_true, eUp_at, eUp_eUp, eKls, cl_some, Option.toList_some, Option.toList_none, List.cons_append, List.nil_append, e1, fo1, e2, fo2, e3]
theorem gap_lt {m ax i : Nat} (hf : ∀ i c, (ffr s unk i c).natAbs < BB ^ 5) : (gap n s unk m ax i).natAbs < BB ^ 6 := diff_lt (hf _ _) (hf _ _)
theorem trm_lt {i j m ax : Nat} (hv : NV n) (hm : m < nM n) (hf : ∀ i c, (ffr s unk i c).natAbs < BB ^ 5) : (trm n s unk i j m ax).natAbs < BB ^ 13 := by
  obtain ⟨-, -, -, -, u1, u2⟩ := hv.2.2.2 m hm
  exact prod_lt (prod_lt (gap_lt hf) (gap_lt hf)) (show (nU n m).natAbs < BB ^ 1 by rw [Nat.pow_one]; show _ < 1000000000; omega)
theorem frm_lt {i j : Nat} (hv : NV n) (hf : ∀ i c, (ffr s unk i c).natAbs < BB ^ 5) : ∀ t, t ≤ nM n → (frm n s unk i j t).natAbs ≤ 2 * t * BB ^ 13 := by
  intro t
  induction t with
  | zero => intro _; exact Nat.zero_le _
  | succ t ih =>
    intro ht
    have h1 := ih (by omega)
    have h2 := trm_lt (i := i) (j := j) (ax := 0) hv (show t < nM n by omega) hf
    have h3 := trm_lt (i := i) (j := j) (ax := 1) hv (show t < nM n by omega) hf
    show (frm n s unk i j t + (trm n s unk i j t 0 + trm n s unk i j t 1)).natAbs ≤ _
    have e : 2 * (t + 1) * BB ^ 13 = 2 * t * BB ^ 13 + 2 * BB ^ 13 := by rw [Nat.mul_add, Nat.add_mul]
    rw [e]
    generalize 2 * t * BB ^ 13 = A at *
    generalize BB ^ 13 = B at *
    omega
def FOX (h : eH) : Prop := FOo h ∧ WX h 199 36 ∧ WX h 201 36 ∧ WX h 203 36
theorem iok_mv {j ax : Nat} (hv : NV n) (hj : j < nJ n) (hx : ax < 2) : iok (mvI (mov n j ax)) := by
  cases hm : mov n j ax with
  | none => unfold mvI iok; dsimp only; omega
  | some r =>
    have h1 := mov_lt hj hx hm
    have h2 := nFr_le hv
    unfold mvI iok
    dsimp only
    omega
theorem d176_ax {i j m ax : Nat} {z : Int} {x7 x8 : Option Value} (k7 : eKl x7 = x7) (k8 : eKl x8 = x8) (hv : NV n) (no : NO h a n) (k : KG h g H W C rows unk cols s) (b : GB H W C rows cols) (hu : unk ≤ cols) (hro : ∀ c r, s.2.2.2.1 c = some r → r < rows) (hbo : nd s.2.2.1.natAbs ≤ 36) (hg : g + 5 < 60) (ha : 213 ≤ a) (hi : i < 2 ^ 31) (hj : j < 2 ^ 31) (fo : FOX h) (ws : WV h 197 36 z) (wu : WV h 205 36 (nU n m)) (hm : m < nM n) (hx : ax < 2) (hu0 : nU n m ≠ 0) (hf : ∀ i c, (ffr s unk i c).natAbs < BB ^ 5) (hz : (z + trm n s unk i j m ax).natAbs < BB ^ 14) : ∃ h' y7 y8, ru 176 36 [some (.ref 196), some (.ref a), some (.ref g), some (.int (nI i)), some (.int (nI j)), some (.int (nI m)), some (.int (nI ax)), x7, x8] [] h = ru 176 36 [some (.ref 196), some (.ref a), some (.ref g), some (.int (nI i)), some (.int (nI j)), some (.int (nI m)), some (.int (nI (ax + 1))), y7, y8] [] h' ∧ eKl y7 = y7 ∧ eKl y8 = y8 ∧ FP h h' ∧ FOX h' ∧ WV h' 197 36 (z + trm n s unk i j m ax) ∧ WV h' 205 36 (nU n m) := by
  have v1 := hv.1
  obtain ⟨m1, m2, m3, -, u1, u2⟩ := hv.2.2.2 m hm
  obtain ⟨fo, w199, w201, w203⟩ := fo
  have fo' := fo
  unfold FOo at fo'
  have p1 := d108 (ax := ax) no hv m1
  have p2 := d108 (ax := ax) no hv m2
  rw [roI_mv] at p1 p2
  obtain ⟨h1, e1, s1, n1, w1, w1'⟩ := d175 (w := 201) (c1 := mvI (mov n (nA n m) ax)) (c2 := mvI (mov n (nB n m) ax)) (Or.inl rfl) k b hu hro hbo hg hi (iok_mv hv m1 hx) (iok_mv hv m2 hx) fo w201 w199 hf
  have kg1 := k.keep (h' := h1) (fun j j1 j2 => n1 j (by omega) (by omega) (by omega) (by omega))
  have fo1 : h1.1 196 = .inr (3, [.ref 207, .ref 197, .ref 199, .ref 201, .ref 203, .ref 205]) := (n1 196 (by decide) (by decide) (by decide) (by decide)).trans fo
  obtain ⟨h2, e2, s2, n2, w2, w2'⟩ := d175 (w := 203) (i := j) (c1 := mvI (mov n (nA n m) ax)) (c2 := mvI (mov n (nB n m) ax)) (Or.inr rfl) kg1 b hu hro hbo hg hj (iok_mv hv m1 hx) (iok_mv hv m2 hx) fo1 (w203.keep (n1 _ (by decide) (by decide) (by decide) (by decide)) (n1 _ (by decide) (by decide) (by decide) (by decide))) w1' hf
  have fo2 : h2.1 196 = .inr (3, [.ref 207, .ref 197, .ref 199, .ref 201, .ref 203, .ref 205]) := (n2 196 (by decide) (by decide) (by decide) (by decide)).trans fo1
  have w12 := w1.keep (n2 _ (by decide) (by decide) (by decide) (by decide)) (n2 _ (by decide) (by decide) (by decide) (by decide))
  obtain ⟨sz, bl, ff, w2''⟩ := w2'
  have g1 : (gap n s unk m ax i).natAbs < BB ^ 6 := gap_lt hf
  have g2 : (gap n s unk m ax j).natAbs < BB ^ 6 := gap_lt hf
  have g3 := prod_lt g1 g2
  obtain ⟨h3, e3, f3, w3⟩ := d96 (a := 199) (p := 201) (q := 203) w2'' w12 w2 (by decide) (by decide) (by decide) (by decide) (by decide) (lt_nd' g3 (by decide))
  have fo3 : h3.1 196 = .inr (3, [.ref 207, .ref 197, .ref 199, .ref 201, .ref 203, .ref 205]) := (f3.2 196 (by decide) (by decide)).trans fo2
  have wu3 : WV h3 205 36 (nU n m) := ((wu.keep (n1 _ (by decide) (by decide) (by decide) (by decide)) (n1 _ (by decide) (by decide) (by decide) (by decide))).keep (n2 _ (by decide) (by decide) (by decide) (by decide)) (n2 _ (by decide) (by decide) (by decide) (by decide))).kept f3 (by decide) (by decide) (by decide)
  obtain ⟨fo1x, ro1x, -, -⟩ := w12.kept f3 (by decide) (by decide) (by decide)
  have tl := trm_lt (i := i) (j := j) (ax := ax) hv hm hf
  obtain ⟨h4, e4, f4, w4⟩ := d96 (a := 201) (p := 199) (q := 205) ro1x w3 wu3 (by decide) (by decide) (by decide) (by decide) (by decide) (lt_nd' tl (by decide))
  have fo4 : h4.1 196 = .inr (3, [.ref 207, .ref 197, .ref 199, .ref 201, .ref 203, .ref 205]) := (f4.2 196 (by decide) (by decide)).trans fo3
  have ws4 : WV h4 197 36 z := (((ws.keep (n1 _ (by decide) (by decide) (by decide) (by decide)) (n1 _ (by decide) (by decide) (by decide) (by decide))).keep (n2 _ (by decide) (by decide) (by decide) (by decide)) (n2 _ (by decide) (by decide) (by decide) (by decide))).kept f3 (by decide) (by decide) (by decide)).kept f4 (by decide) (by decide) (by decide)
  obtain ⟨h5, e5, f5, w5⟩ := d99 ws4 w4 (by decide) (by decide) (by decide) false (z := z + trm n s unk i j m ax) (by rw [if_neg (by decide)]; rfl) (lt_nd' hz (by decide))
  rw [if_neg (by decide)] at e5
  have fo5 : FOo h5 := (f5.2 196 (by decide) (by decide)).trans fo4
  have no1 := no
  obtain ⟨x0, -, -, -, -, -, x6, x7', -, -⟩ := id no
  obtain ⟨fu, ru1, ru2, -⟩ := id wu
  refine ⟨h5, some (.int (iI (mvI (mov n (nA n m) ax)))), some (.int (iI (mvI (mov n (nB n m) ax)))), ?_, rfl, rfl, ?_, ⟨fo5, (w3.kept f4 (by decide) (by decide) (by decide)).x.kept f5 (by decide) (by decide) (by decide), w4.x.kept f5 (by decide) (by decide) (by decide), ((w2.kept f3 (by decide) (by decide) (by decide)).kept f4 (by decide) (by decide) (by decide)).x.kept f5 (by decide) (by decide) (by decide)⟩, w5, (wu3.kept f4 (by decide) (by decide) (by decide)).kept f5 (by decide) (by decide) (by decide)⟩
  · have nz : ¬ nI (nd (nU n m).natAbs) ≤ 0 := fun e => by
      rw [show (0 : Int32) = nI 0 from rfl, nI_leI (by omega) (by decide)] at e
      exact hu0 (natAbs0 (by omega))
    rw [H176_36]
    simp only [S176, gFs, pFs, okq, bls, bo_true, eUp_at, eUp_eUp, eKls, cl_some, Option.toList_some, Option.toList_none, List.cons_append, List.nil_append, fo', ru1.1]
    rw [if_neg (nI_ge hx (by decide)), if_neg nz]
    simp only [S176, gFs, pFs, okq, bls, bo_true, eUp_at, eUp_eUp, eKls, cl_some, Option.toList_some, Option.toList_none, List.cons_append, List.nil_append, x0, x6.get hm v1.2.2 (by decide), x7'.get hm v1.2.2 (by decide), p1, p2, k7, fo', e1, fo1, e2, fo2, e3, fo3, e4, fo4, e5]
    rw [nI_1]
  · refine FP.trans ⟨s1, fun i hi => n1 i (by omega) (by omega) (by omega) (by omega)⟩ (FP.trans ⟨s2, fun i hi => n2 i (by omega) (by omega) (by omega) (by omega)⟩ ((f3.fp (by decide)).trans ((f4.fp (by decide)).trans (f5.fp (by decide)))))
end FO
