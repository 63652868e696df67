/-! FORM: addUp, isAboveNought -/
section FO2
variable {h : eH} {a g H W C rows unk cols : Nat} {n : NT} {s : RS}
theorem d176_loop {i j : Nat} (hv : NV n) (b : GB H W C rows cols) (hu : unk ≤ cols) (hro : ∀ c r, s.2.2.2.1 c = some r → r < rows) (hbo : nd s.2.2.1.natAbs ≤ 36) (hg : g + 5 < 60) (ha : 213 ≤ a) (hi : i < 2 ^ 31) (hj : j < 2 ^ 31) (hf : ∀ i c, (ffr s unk i c).natAbs < BB ^ 5) : ∀ r m h x6 x7 x8, m + r = nM n → eKl x6 = x6 → eKl x7 = x7 → eKl x8 = x8 → NO h a n → KG h g H W C rows unk cols s → FOX h → WV h 197 36 (frm n s unk i j m) → WX h 205 36 → ∃ h', ru 176 10 [some (.ref 196), some (.ref a), some (.ref g), some (.int (nI i)), some (.int (nI j)), some (.int (nI m)), x6, x7, x8] [] h = some (none, h') ∧ FP h h' ∧ FOX h' ∧ WV h' 197 36 (frm n s unk i j (nM n)) ∧ WX h' 205 36 := by
  intro r
  have v1 := hv.1
  induction r with
  | zero =>
    intro m h x6 x7 x8 hm k6 k7 k8 no k fo ws wu
    have : m = nM n := by omega
    subst this
    refine ⟨h, ?_, FP.refl _, fo, ws, wu⟩
    rw [H176_10]
    simp only [S176, gFs, pFs, okq, bls, bo_true, eUp_at, eUp_eUp, eKls, cl_some, Option.toList_some, Option.toList_none, List.cons_append, List.nil_append, no.1]
    rw [if_pos (nI_le (Nat.le_refl _) (by omega))]
  | succ r ih =>
    intro m h x6 x7 x8 hm k6 k7 k8 no k fo ws wu
    have hmM : m < nM n := by omega
    obtain ⟨m1, m2, m3, -, u1, u2⟩ := hv.2.2.2 m hmM
    obtain ⟨sz, bl, ff, wu⟩ := wu
    have hU : (iI (nU n m)).toInt = nU n m := iI_toInt (by unfold iok; omega)
    obtain ⟨h1, e1, f1, w1⟩ := d112 wu (by decide) (by decide) (iI (nU n m)) (by rw [hU]; show _ < 1000000000; omega)
    rw [hU] at w1
    obtain ⟨fo0, w199, w201, w203⟩ := id fo
    have fo' := fo0
    unfold FOo at fo'
    have fox1 : FOX h1 := ⟨(f1.2 196 (by decide) (by decide)).trans fo0, w199.kept f1 (by decide) (by decide) (by decide), w201.kept f1 (by decide) (by decide) (by decide), w203.kept f1 (by decide) (by decide) (by decide)⟩
    have no1 := no.keep (h' := h1) (fun j j1 j2 => f1.2 j (by omega) (by omega))
    have kg1 := k.keep (h' := h1) (fun j j1 j2 => f1.2 j (by omega) (by omega))
    have ws1 := ws.kept f1 (by decide) (by decide) (by decide)
    obtain ⟨x0, -, -, -, -, -, -, -, -, x9⟩ := id no
    have hd : ru 176 10 [some (.ref 196), some (.ref a), some (.ref g), some (.int (nI i)), some (.int (nI j)), some (.int (nI m)), x6, x7, x8] [] h = ru 176 36 [some (.ref 196), some (.ref a), some (.ref g), some (.int (nI i)), some (.int (nI j)), some (.int (nI m)), some (.int (nI 0)), x7, x8] [] h1 := by
      rw [H176_10]
      simp only [S176, gFs, pFs, okq, bls, bo_true, eUp_at, eUp_eUp, eKls, cl_some, Option.toList_some, Option.toList_none, List.cons_append, List.nil_append, x0]
      rw [if_neg (nI_ge hmM (by omega))]
      simp only [S176, gFs, pFs, okq, bls, bo_true, eUp_at, eUp_eUp, eKls, cl_some, Option.toList_some, Option.toList_none, List.cons_append, List.nil_append, fo', x0, x9.get hmM v1.2.2 (by decide), e1]
    have tl : ∀ y6 y7 y8 h2, ru 176 159 [some (.ref 196), some (.ref a), some (.ref g), some (.int (nI i)), some (.int (nI j)), some (.int (nI m)), y6, y7, y8] [] h2 = ru 176 10 [some (.ref 196), some (.ref a), some (.ref g), some (.int (nI i)), some (.int (nI j)), some (.int (nI (m + 1))), y6, y7, y8] [] h2 := by
      intro y6 y7 y8 h2
      rw [H176_159]
      simp only [S176, gFs, pFs, okq, bls, bo_true, eUp_at, eUp_eUp, eKls, cl_some, Option.toList_some, Option.toList_none, List.cons_append, List.nil_append]
      rw [nI_1]
    by_cases hu0 : nU n m = 0
    · have t0 : frm n s unk i j (m + 1) = frm n s unk i j m := by
        show frm n s unk i j m + (trm n s unk i j m 0 + trm n s unk i j m 1) = _
        unfold trm
        rw [hu0, Int.mul_zero, Int.mul_zero]
        omega
      obtain ⟨h2, e2, f2, r2⟩ := ih (m + 1) h1 (some (.int (nI 0))) x7 x8 (by omega) rfl k7 k8 no1 kg1 fox1 (by rw [t0]; exact ws1) w1.x
      refine ⟨h2, ?_, (f1.fp (by decide)).trans f2, r2⟩
      rw [hd, ← e2, ← tl, H176_36]
      have fo1 := fox1.1
      unfold FOo at fo1
      obtain ⟨fu, ru1, -, -⟩ := w1
      simp only [S176, gFs, pFs, okq, bls, bo_true, eUp_at, eUp_eUp, eKls, cl_some, Option.toList_some, Option.toList_none, List.cons_append, List.nil_append, fo1, ru1.1]
      rw [if_neg (by decide), if_pos (by rw [hu0, Int.natAbs_zero, nd_0]; decide)]
    · have hl := frm_lt (i := i) (j := j) hv hf m (by omega)
      have hl1 := trm_lt (i := i) (j := j) (ax := 0) hv hmM hf
      have hl2 := trm_lt (i := i) (j := j) (ax := 1) hv hmM hf
      have hb14 := bb_succ 13
      have hml : 2 * m * BB ^ 13 ≤ 28 * BB ^ 13 := Nat.mul_le_mul_right _ (by omega)
      obtain ⟨h2, y7, y8, e2, q7, q8, f2, fox2, ws2, wu2⟩ := d176_ax (i := i) (j := j) (m := m) (ax := 0) k7 k8 hv no1 kg1 b hu hro hbo hg ha hi hj fox1 ws1 w1 hmM (by decide) hu0 hf (by rw [hb14]; generalize BB ^ 13 = B at *; generalize 2 * m * B = A at *; omega)
      have no2 := no1.keep (h' := h2) (fun j j1 j2 => f2.2 j (by omega))
      have kg2 := kg1.keep (h' := h2) (fun j j1 j2 => f2.2 j (by omega))
      obtain ⟨h3, z7, z8, e3, p7, p8, f3, fox3, ws3, wu3⟩ := d176_ax (i := i) (j := j) (m := m) (ax := 1) q7 q8 hv no2 kg2 b hu hro hbo hg ha hi hj fox2 ws2 wu2 hmM (by decide) hu0 hf (by rw [hb14]; generalize BB ^ 13 = B at *; generalize 2 * m * B = A at *; omega)
      have no3 := no2.keep (h' := h3) (fun j j1 j2 => f3.2 j (by omega))
      have kg3 := kg2.keep (h' := h3) (fun j j1 j2 => f3.2 j (by omega))
      have t0 : frm n s unk i j (m + 1) = frm n s unk i j m + trm n s unk i j m 0 + trm n s unk i j m 1 := by
        show frm n s unk i j m + (trm n s unk i j m 0 + trm n s unk i j m 1) = _
        omega
      obtain ⟨h4, e4, f4, r4⟩ := ih (m + 1) h3 (some (.int (nI 2))) z7 z8 (by omega) rfl p7 p8 no3 kg3 fox3 (by rw [t0]; exact ws3) wu3.x
      refine ⟨h4, ?_, (f1.fp (by decide)).trans (f2.trans (f3.trans f4)), r4⟩
      rw [hd, e2, e3, ← e4, ← tl, H176_36]
      simp only [S176, gFs, pFs, okq, bls, bo_true, eUp_at, eUp_eUp, eKls, cl_some, Option.toList_some, Option.toList_none, List.cons_append, List.nil_append]
      rw [if_pos (by decide)]
theorem d176 {i j : Nat} (hv : NV n) (b : GB H W C rows cols) (hu : unk ≤ cols) (hro : ∀ c r, s.2.2.2.1 c = some r → r < rows) (hbo : nd s.2.2.1.natAbs ≤ 36) (hg : g + 5 < 60) (ha : 213 ≤ a) (hi : i < 2 ^ 31) (hj : j < 2 ^ 31) (hf : ∀ i c, (ffr s unk i c).natAbs < BB ^ 5) (no : NO h a n) (k : KG h g H W C rows unk cols s) (fo : FOX h) (w197 : WX h 197 36) (w205 : WX h 205 36) : ∃ h', den 176 [.ref 196, .ref a, .ref g, .int (nI i), .int (nI j)] h = some (none, h') ∧ FP h h' ∧ FOX h' ∧ WV h' 197 36 (frm n s unk i j (nM n)) ∧ WX h' 205 36 := by
  obtain ⟨sz, bl, ff, w197⟩ := w197
  obtain ⟨h1, e1, f1, w1⟩ := d82 w197
  obtain ⟨fo0, w199, w201, w203⟩ := id fo
  have fo' := fo0
  unfold FOo at fo'
  have fox1 : FOX h1 := ⟨(f1.2 196 (by decide) (by decide)).trans fo0, w199.kept f1 (by decide) (by decide) (by decide), w201.kept f1 (by decide) (by decide) (by decide), w203.kept f1 (by decide) (by decide) (by decide)⟩
  obtain ⟨h2, e2, f2, r2⟩ := d176_loop (i := i) (j := j) hv b hu hro hbo hg ha hi hj hf (nM n) 0 h1 none none none (by omega) rfl rfl rfl (no.keep (fun j j1 j2 => f1.2 j (by omega) (by omega))) (k.keep (fun j j1 j2 => f1.2 j (by omega) (by omega))) fox1 w1 (w205.kept f1 (by decide) (by decide) (by decide))
  refine ⟨h2, ?_, (f1.fp (by decide)).trans f2, r2⟩
  rw [E176 196 _ _ _ _ fo0, ← e2]
  simp only [S176, gFs, pFs, okq, bls, bo_true, eUp_at, eUp_eUp, eKls, cl_some, Option.toList_some, Option.toList_none, List.cons_append, List.nil_append, fo', e1]
theorem frm_sym (i j : Nat) : ∀ t, frm n s unk i j t = frm n s unk j i t := by
  intro t
  unfold frm
  refine su_congr (fun m _ => ?_)
  unfold trm
  rw [Int.mul_comm (gap n s unk m 0 i), Int.mul_comm (gap n s unk m 1 i)]
/-- the table while it is filled -/
def pe (F : Nat → Nat → Int) (i j r c : Nat) : Int := if r < i ∧ c < i ∨ r = i ∧ c < j ∨ c = i ∧ r < j then F r c else 0
theorem pe_step {F : Nat → Nat → Int} (hF : ∀ r c, F r c = F c r) {i j r c : Nat} (hj : j ≤ i) : pe F i (j + 1) r c = up2 (up2 (pe F i j) i j (F i j)) j i (F i j) r c := by
  unfold up2
  by_cases q1 : r = j ∧ c = i
  · rw [if_pos q1]
    unfold pe
    rw [if_pos (by omega), q1.1, q1.2, hF]
  · rw [if_neg q1]
    by_cases q2 : r = i ∧ c = j
    · rw [if_pos q2]
      unfold pe
      rw [if_pos (by omega), q2.1, q2.2]
    · rw [if_neg q2]
      unfold pe
      by_cases q3 : r < i ∧ c < i ∨ r = i ∧ c < j ∨ c = i ∧ r < j
      · rw [if_pos q3, if_pos (by omega)]
      · rw [if_neg q3, if_neg (by omega)]
theorem pe_next {F : Nat → Nat → Int} {i r c : Nat} : pe F (i + 1) 0 r c = pe F i (i + 1) r c := by
  unfold pe
  by_cases q3 : r < i + 1 ∧ c < i + 1 ∨ r = i + 1 ∧ c < 0 ∨ c = i + 1 ∧ r < 0
  · rw [if_pos q3, if_pos (by omega)]
  · rw [if_neg q3, if_neg (by omega)]
/-- the frame of isAboveNought before it reduces -/
def FQ (h h' : eH) : Prop := h'.2 = h.2 ∧ ∀ i, ¬ (197 ≤ i ∧ i ≤ 212) → h'.1 i = h.1 i
theorem FQ.refl (h : eH) : FQ h h := ⟨rfl, fun _ _ => rfl⟩
theorem FQ.trans {h h' h'' : eH} (x : FQ h h') (y : FQ h' h'') : FQ h h'' := ⟨y.1.trans x.1, fun i h1 => (y.2 i h1).trans (x.2 i h1)⟩
theorem FP.fq {h h' : eH} (x : FP h h') : FQ h h' := ⟨x.1, fun i hi => x.2 i (by omega)⟩
theorem FA.fq {h h' : eH} (x : FA 207 h h') : FQ h h' := ⟨x.1, fun i hi => x.2 i (by omega) (by omega)⟩
def FS7 (h : eH) (w rank : Nat) (ld : Int32) (M : Nat → Nat → Int) : Prop := FOX h ∧ WX h 197 36 ∧ WX h 205 36 ∧ GO h 207 3 3 24 w w w rank ld ∧ GC h 207 3 3 24 w w (fun _ _ => True) M ∧ WX h 208 36 ∧ ∃ f, h.1 212 = .inl (0, 3, .inl f)
theorem d177_j {w i rank : Nat} {ld : Int32} (hv : NV n) (b : GB H W C rows cols) (hu : unk ≤ cols) (hro : ∀ c r, s.2.2.2.1 c = some r → r < rows) (hbo : nd s.2.2.1.natAbs ≤ 36) (hg : g + 5 < 60) (ha : 213 ≤ a) (hf : ∀ i c, (ffr s unk i c).natAbs < BB ^ 5) (hw : w ≤ 3) (hi : i < w) : ∀ r j h, j + r = i + 1 → NO h a n → KG h g H W C rows unk cols s → FS7 h w rank ld (pe (fun r c => frm n s unk r c (nM n)) i j) → ∃ h', ru 177 27 [some (.ref 196), some (.ref a), some (.ref g), some (.int (nI w)), some (.int (nI i)), some (.int (nI j))] [] h = ru 177 18 [some (.ref 196), some (.ref a), some (.ref g), some (.int (nI w)), some (.int (nI (i + 1))), some (.int (nI (i + 1)))] [] h' ∧ FQ h h' ∧ NO h' a n ∧ KG h' g H W C rows unk cols s ∧ FS7 h' w rank ld (pe (fun r c => frm n s unk r c (nM n)) (i + 1) 0) := by
  intro r
  have v1 := hv.1
  have gb : GB 3 3 24 w w := ⟨hw, hw, by decide, by decide, by decide, by decide⟩
  induction r with
  | zero =>
    intro j h hj no k fs
    have : j = i + 1 := by omega
    subst this
    refine ⟨h, ?_, FQ.refl _, no, k, ?_⟩
    · rw [H177_27]
      simp only [S177, gFs, pFs, okq, bls, bo_true, eUp_at, eUp_eUp, eKls, cl_some, Option.toList_some, Option.toList_none, List.cons_append, List.nil_append]
      rw [if_pos (nI_lt (by omega) (by omega)), H177_80]
      simp only [S177, gFs, pFs, okq, bls, bo_true, eUp_at, eUp_eUp, eKls, cl_some, Option.toList_some, Option.toList_none, List.cons_append, List.nil_append]
      rw [nI_1]
    · obtain ⟨a1, a2, a3, a4, a5, a6⟩ := fs
      exact ⟨a1, a2, a3, a4, a5.mono (fun r c _ _ _ => ⟨trivial, pe_next⟩), a6⟩
  | succ r ih =>
    intro j h hj no k fs
    obtain ⟨fo, w197, w205, go, gc, w208, f5, r5⟩ := fs
    obtain ⟨h1, e1, f1, fo1, w1, w205'⟩ := d176 (i := i) (j := j) hv b hu hro hbo hg ha (by omega) (by omega) hf no k fo w197 w205
    have go1 := go.k (h' := h1) (f1.2 207 (by decide))
    have gc1 := gc.k (h' := h1) (f1.2 _ (by decide)) (f1.2 _ (by decide))
    have hl := frm_lt (i := i) (j := j) hv hf (nM n) (Nat.le_refl _)
    have hml : 2 * nM n * BB ^ 13 ≤ 28 * BB ^ 13 := Nat.mul_le_mul_right _ (by omega)
    have hb14 := bb_succ 13
    have h13 := BP_pos 13
    have hn : nd (frm n s unk i j (nM n)).natAbs ≤ 24 := lt_nd' (k := 14) (by rw [hb14]; generalize BB ^ 13 = B at *; generalize 2 * nM n * B = A at *; omega) (by decide)
    obtain ⟨h2, e2, f2, gc2⟩ := d114 (r := i) (c := j) go1 gb gc1 w1 (by decide) hn hi (by omega) (Or.inl (by decide))
    have go2 := go1.k (h' := h2) (f2.2 207 (by decide) (by decide))
    have w2 := w1.keep (h' := h2) (f2.2 _ (by decide) (by decide)) (f2.2 _ (by decide) (by decide))
    obtain ⟨h3, e3, f3, gc3⟩ := d114 (r := j) (c := i) go2 gb gc2 w2 (by decide) hn (by omega) hi (Or.inl (by decide))
    have go3 := go2.k (h' := h3) (f3.2 207 (by decide) (by decide))
    have fq : FQ h h3 := f1.fq.trans (f2.fq.trans f3.fq)
    have kk : ∀ i, i ≠ 210 → i ≠ 211 → h3.1 i = h1.1 i := fun i i1 i2 => (f3.2 i i1 i2).trans (f2.2 i i1 i2)
    have fo1' := fo1
    obtain ⟨y0, y1, y2, y3⟩ := fo1
    have no3 := no.keep (h' := h3) (fun j j1 j2 => fq.2 j (by omega))
    have kg3 := k.keep (h' := h3) (fun j j1 j2 => fq.2 j (by omega))
    obtain ⟨h4, e4, f4, r4⟩ := ih (j + 1) h3 (by omega) no3 kg3 ⟨⟨(kk _ (by decide) (by decide)).trans y0, y1.keep (kk _ (by decide) (by decide)) (kk _ (by decide) (by decide)), y2.keep (kk _ (by decide) (by decide)) (kk _ (by decide) (by decide)), y3.keep (kk _ (by decide) (by decide)) (kk _ (by decide) (by decide))⟩, w1.x.keep (kk _ (by decide) (by decide)) (kk _ (by decide) (by decide)), w205'.keep (kk _ (by decide) (by decide)) (kk _ (by decide) (by decide)), go3, gc3.mono (fun r c _ _ _ => ⟨trivial, pe_step (F := fun r c => frm n s unk r c (nM n)) (fun r c => frm_sym r c (nM n)) (by omega)⟩), w208.keep ((kk _ (by decide) (by decide)).trans (f1.2 _ (by decide))) ((kk _ (by decide) (by decide)).trans (f1.2 _ (by decide))), f5, (kk _ (by decide) (by decide)).trans ((f1.2 _ (by decide)).trans r5)⟩
    refine ⟨h4, ?_, fq.trans f4, r4⟩
    have fo0 := y0
    unfold FOo at fo0
    have fo2 : h2.1 196 = .inr (3, [.ref 207, .ref 197, .ref 199, .ref 201, .ref 203, .ref 205]) := (f2.2 196 (by decide) (by decide)).trans y0
    rw [← e4, H177_27]
    simp only [S177, gFs, pFs, okq, bls, bo_true, eUp_at, eUp_eUp, eKls, cl_some, Option.toList_some, Option.toList_none, List.cons_append, List.nil_append]
    rw [if_neg (nI_nlt (by omega) (by omega))]
    simp only [S177, gFs, pFs, okq, bls, bo_true, eUp_at, eUp_eUp, eKls, cl_some, Option.toList_some, Option.toList_none, List.cons_append, List.nil_append, e1, fo0, e2, fo2, e3]
    rw [nI_1]
theorem d177_i {w rank : Nat} {ld : Int32} (hv : NV n) (b : GB H W C rows cols) (hu : unk ≤ cols) (hro : ∀ c r, s.2.2.2.1 c = some r → r < rows) (hbo : nd s.2.2.1.natAbs ≤ 36) (hg : g + 5 < 60) (ha : 213 ≤ a) (hf : ∀ i c, (ffr s unk i c).natAbs < BB ^ 5) (hw : w ≤ 3) : ∀ r i h x5, i + r = w → eKl x5 = x5 → NO h a n → KG h g H W C rows unk cols s → FS7 h w rank ld (pe (fun r c => frm n s unk r c (nM n)) i 0) → ∃ h' y5, ru 177 18 [some (.ref 196), some (.ref a), some (.ref g), some (.int (nI w)), some (.int (nI i)), x5] [] h = ru 177 86 [some (.ref 196), some (.ref a), some (.ref g), some (.int (nI w)), some (.int (nI w)), y5] [] h' ∧ FQ h h' ∧ FS7 h' w rank ld (fun r c => frm n s unk r c (nM n)) := by
  intro r
  induction r with
  | zero =>
    intro i h x5 hi k5 no k fs
    have : i = w := by omega
    subst this
    refine ⟨h, x5, ?_, FQ.refl _, ?_⟩
    · rw [H177_18]
      simp only [S177, gFs, pFs, okq, bls, bo_true, eUp_at, eUp_eUp, eKls, cl_some, Option.toList_some, Option.toList_none, List.cons_append, List.nil_append]
      rw [if_pos (nI_le (Nat.le_refl _) (by omega))]
    · obtain ⟨a1, a2, a3, a4, a5, a6⟩ := fs
      refine ⟨a1, a2, a3, a4, a5.mono (fun r c _ x2 x3 => ⟨trivial, ?_⟩), a6⟩
      unfold pe
      rw [if_pos (Or.inl ⟨x2, x3⟩)]
  | succ r ih =>
    intro i h x5 hi k5 no k fs
    obtain ⟨h1, e1, f1, no1, kg1, fs1⟩ := d177_j (i := i) hv b hu hro hbo hg ha hf hw (by omega) (i + 1) 0 h (by omega) no k fs
    obtain ⟨h2, y5, e2, f2, r2⟩ := ih (i + 1) h1 (some (.int (nI (i + 1)))) (by omega) rfl no1 kg1 fs1
    refine ⟨h2, y5, ?_, f1.trans f2, r2⟩
    rw [← e2, ← e1, H177_18]
    simp only [S177, gFs, pFs, okq, bls, bo_true, eUp_at, eUp_eUp, eKls, cl_some, Option.toList_some, Option.toList_none, List.cons_append, List.nil_append]
    rw [if_neg (nI_ge (by omega) (by omega))]
end FO2
