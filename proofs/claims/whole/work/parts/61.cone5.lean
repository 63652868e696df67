/-! CONE: begin and isOpen, whole -/
def FW (h h' : eH) : Prop := h'.2 = h.2 ∧ ∀ i, ¬ (60 ≤ i ∧ i ≤ 195) → h'.1 i = h.1 i
theorem FW.trans {h h' h'' : eH} (x : FW h h') (y : FW h' h'') : FW h h'' := ⟨y.1.trans x.1, fun i h1 => (y.2 i h1).trans (x.2 i h1)⟩
theorem FZ.fw {h h' : eH} (x : FZ h h') : FW h h' := ⟨x.1, fun i hi => x.2 i (by omega)⟩
section CB10
variable {h : eH} {a g H W C rows unk cols : Nat} {n : NT} {s : RS}
theorem d89_loop (hv : NV n) (b : GB H W C rows cols) (hu : unk ≤ cols) (hro : ∀ c r, s.2.2.2.1 c = some r → r < rows) (hC : C ≤ 5) (hbo : nd s.2.2.1.natAbs ≤ 5) (hg : g + 5 < 60) (ha : 196 ≤ a) : ∀ r m h x4 x5, m + r = nM n → eKl x4 = x4 → eKl x5 = x5 → NO h a n → KG h g H W C rows unk cols s → CO h (nM n) → AK h → (∀ j, j < 14 → TX h (84 + 8 * j) 5) → (∀ j, j < m → TR h (84 + 8 * j) 5 (qv n s unk j)) → RC h m (bar n) → ∃ h', ru 89 10 [some (.ref 60), some (.ref a), some (.ref g), some (.int (nI m)), x4, x5] [] h = some (none, h') ∧ (h'.2 = h.2 ∧ ∀ i, i ≠ 83 → ¬ (84 ≤ i ∧ i ≤ 195) → h'.1 i = h.1 i) ∧ (∀ j, j < 14 → TX h' (84 + 8 * j) 5) ∧ (∀ j, j < nM n → TR h' (84 + 8 * j) 5 (qv n s unk j)) ∧ RC h' (nM n) (bar n) := by
  intro r
  have v1 := hv.1
  induction r with
  | zero =>
    intro m h x4 x5 hm k4 k5 no k co ak tx tr rc
    have : m = nM n := by omega
    subst this
    refine ⟨h, ?_, ⟨rfl, fun _ _ _ => rfl⟩, tx, tr, rc⟩
    have c0 := co
    unfold CO at c0
    rw [H89_10]
    simp only [S89, gFs, pFs, okq, bls, bo_true, eUp_at, eUp_eUp, eKls, cl_some, Option.toList_some, Option.toList_none, List.cons_append, List.nil_append, c0]
    rw [if_pos (nI_le (Nat.le_refl _) (by omega))]
  | succ r ih =>
    intro m h x4 x5 hm k4 k5 no k co ak tx tr rc
    have hmM : m < nM n := by omega
    obtain ⟨h1, y4, y5, e1, q4, q5, ⟨f1, n1⟩, t1, rc1⟩ := d89_m k4 k5 hv no k b hu hro hC hbo hg ha co ak (tx m (by omega)) rc hmM
    have ak1 : AK h1 := by
      obtain ⟨g0, z1, z2⟩ := ak
      exact ⟨g0, (n1 61 (by omega) (by omega)).trans z1, z2⟩
    have tx1 : ∀ j, j < 14 → TX h1 (84 + 8 * j) 5 := fun j hj => by
      by_cases q : j = m
      · rw [q]; exact t1.x
      · exact (tx j hj).keep (fun i i1 i2 => n1 i (by omega) (by omega))
    have tr1 : ∀ j, j < m + 1 → TR h1 (84 + 8 * j) 5 (qv n s unk j) := fun j hj => by
      by_cases q : j = m
      · rw [q]; exact t1
      · exact (tr j (by omega)).keep (fun i i1 i2 => n1 i (by omega) (by omega))
    have rc1' : RC h1 (m + 1) (bar n) := by
      obtain ⟨f, z1, z2⟩ := rc1
      refine ⟨f, z1, fun j hj => (z2 j hj).trans ?_⟩
      show ldI (if j = m then bar n m else bar n j) = ldI (bar n j)
      by_cases q : j = m
      · rw [if_pos q, q]
      · rw [if_neg q]
    obtain ⟨h2, e2, ⟨f2, n2⟩, r2⟩ := ih (m + 1) h1 y4 y5 (by omega) q4 q5 (no.keep (fun j j1 j2 => n1 j (by omega) (by omega))) (k.keep (fun j j1 j2 => n1 j (by omega) (by omega))) ((n1 60 (by omega) (by omega)).trans co) ak1 tx1 tr1 rc1'
    exact ⟨h2, e1.trans e2, ⟨f2.trans f1, fun i i1 i2 => (n2 i i1 i2).trans (n1 i i1 (by omega))⟩, r2⟩
theorem d89 (hv : NV n) (b : GB H W C rows cols) (hu : unk ≤ cols) (hro : ∀ c r, s.2.2.2.1 c = some r → r < rows) (hC : C ≤ 5) (hbo : nd s.2.2.1.natAbs ≤ 5) (hg : g + 5 < 60) (ha : 196 ≤ a) (no : NO h a n) (k : KG h g H W C rows unk cols s) (cx : CXo h) : ∃ h', den 89 [.ref 60, .ref a, .ref g] h = some (none, h') ∧ FW h h' ∧ CS h' (nM n) (qv n s unk) (bar n) ∧ TX h' 62 36 ∧ TX h' 70 36 ∧ (∀ j, j < 14 → TX h' (84 + 8 * j) 5) := by
  obtain ⟨⟨M0, co⟩, ak, tx, t62, t70, w78, w80, ar, R, rc⟩ := cx
  have x0 := no.1
  have c0 := co
  unfold CO at c0
  obtain ⟨h1, hh1⟩ : ∃ h1, h1 = eUp h 60 (.inr (0, [.ref 61, .ref 62, .ref 70, .ref 78, .ref 80, .ref 82, .ref 83, .int (nI (nM n))])) := ⟨_, rfl⟩
  have n1 : ∀ i, i ≠ 60 → h1.1 i = h.1 i := fun i hi => by rw [hh1]; exact eUp_ne hi
  have co1 : CO h1 (nM n) := by rw [hh1]; exact eUp_at ..
  have ak1 : AK h1 := by
    obtain ⟨g0, z1, z2⟩ := ak
    exact ⟨g0, (n1 61 (by omega)).trans z1, z2⟩
  have rc1 : RC h1 0 (bar n) := by
    obtain ⟨f, z1, z2⟩ := rc
    exact ⟨f, (n1 83 (by omega)).trans z1, fun j hj => absurd hj (Nat.not_lt_zero _)⟩
  obtain ⟨h2, e2, ⟨f2, n2⟩, tx2, tr2, rc2⟩ := d89_loop hv b hu hro hC hbo hg ha (nM n) 0 h1 none none (by omega) rfl rfl (no.keep (fun j j1 j2 => n1 j (by omega))) (k.keep (fun j j1 j2 => n1 j (by omega))) co1 ak1 (fun j hj => (tx j hj).keep (fun i i1 i2 => n1 i (by omega))) (fun j hj => absurd hj (Nat.not_lt_zero _)) rc1
  have ak2 : AK h2 := by
    obtain ⟨g0, z1, z2⟩ := ak1
    exact ⟨g0, (n2 61 (by omega) (by omega)).trans z1, z2⟩
  have nn : ∀ i, i ≠ 60 → i ≠ 83 → ¬ (84 ≤ i ∧ i ≤ 195) → h2.1 i = h.1 i := fun i i1 i2 i3 => (n2 i i2 i3).trans (n1 i i1)
  refine ⟨h2, ?_, ⟨f2.trans (by rw [hh1]; rfl), fun i hi => nn i (by omega) (by omega) (by omega)⟩, ⟨(n2 60 (by omega) (by omega)).trans co1, ak2, tr2, w78.keep (nn _ (by omega) (by omega) (by omega)) (nn _ (by omega) (by omega) (by omega)), w80.keep (nn _ (by omega) (by omega) (by omega)) (nn _ (by omega) (by omega) (by omega)), ar.keep (nn _ (by omega) (by omega) (by omega)), rc2⟩, t62.keep (fun i i1 i2 => nn i (by omega) (by omega) (by omega)), t70.keep (fun i i1 i2 => nn i (by omega) (by omega) (by omega)), tx2⟩
  rw [E89 60 _ _ co, ← e2]
  simp only [S89, gFs, pFs, okq, bls, bo_true, eUp_at, eUp_eUp, eKls, cl_some, Option.toList_some, Option.toList_none, List.cons_append, List.nil_append, x0, c0]
  rw [hh1]
theorem d105 (hv : NV n) (b : GB H W C rows cols) (hu : unk ≤ cols) (hro : ∀ c r, s.2.2.2.1 c = some r → r < rows) (hC : C ≤ 5) (hbo : nd s.2.2.1.natAbs ≤ 5) (hg : g + 5 < 60) (ha : 196 ≤ a) (no : NO h a n) (k : KG h g H W C rows unk cols s) (cx : CXo h) (hq : ∀ m, m < nM n → ∀ i, i < 3 → (qv n s unk m i).natAbs < BB ^ 5) : ∃ h' R', den 105 [.ref 60, .ref a, .ref g] h = some (some (.int (ldI (alr R' (nM n)))), h') ∧ FW h h' ∧ CXo h' ∧ MO (nM n) (bar n) R' ∧ SO (qv n s unk) (nM n) R' (bar n) ∧ (alr R' (nM n) = true ∨ ((∀ a', a' < nM n → TD (qv n s unk) (nM n) R' (qv n s unk a')) ∧ ∃ pt', PL (qv n s unk) (nM n) (nM n) 0 R' pt')) := by
  have v1 := hv.1
  obtain ⟨h1, e1, f1, cs1, t62, t70, tx1⟩ := d89 hv b hu hro hC hbo hg ha no k cx
  obtain ⟨h2, R2, e2, f2, cs2, t62', t70', mo2, so2, r2⟩ := d105_a (R0 := bar n) (n1 := a) (n2 := g) (x5 := none) (by omega) hq (nM n) 0 h1 (bar n) false none (by omega) cs1 t62 t70 (fun m hm e => Or.inl e) ⟨fun a' b' g1 g2 => by omega, (fun e => by cases e), fun _ a' b' g1 g2 => by omega⟩ (fun a' h' => absurd h' (Nat.not_lt_zero _))
  refine ⟨h2, R2, ?_, f1.trans f2.fw, ?_, mo2, so2, r2⟩
  · have co := cx.1
    obtain ⟨M0, co⟩ := co
    rw [E105 60 _ _ co, ← e2]
    simp only [S105, gFs, pFs, okq, bls, bo_true, eUp_at, eUp_eUp, eKls, cl_some, Option.toList_some, Option.toList_none, List.cons_append, List.nil_append, e1]
    rfl
  · obtain ⟨c1, c2, c3, c4, c5, c6, ⟨f, z1, z2⟩⟩ := cs2
    exact ⟨⟨_, c1⟩, c2, fun j hj => (tx1 j hj).keep (fun i i1 i2 => f2.2 i (by omega)), t62', t70', c4, c5, c6, R2, f, z1, fun j hj => absurd hj (Nat.not_lt_zero _)⟩
end CB10
