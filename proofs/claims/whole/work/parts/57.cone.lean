/-! TRIPLE, CONE -/
def TA (h : eH) (t : Nat) : Prop := h.1 t = .inr (8, [.ref (t + 1)]) ∧ ∃ g, h.1 (t + 1) = .inl (3, 3, .inr (.inr (.inr (.inr g)))) ∧ ∀ i, i < 3 → g i = some (t + 2 + 2 * i)
def TR (h : eH) (t N : Nat) (v : Nat → Int) : Prop := TA h t ∧ ∀ i, i < 3 → WV h (t + 2 + 2 * i) N (v i)
def TX (h : eH) (t N : Nat) : Prop := TA h t ∧ ∀ i, i < 3 → WX h (t + 2 + 2 * i) N
theorem TR.x {h : eH} {t N : Nat} {v : Nat → Int} (x : TR h t N v) : TX h t N := ⟨x.1, fun i hi => (x.2 i hi).x⟩
theorem TA.keep {h h' : eH} {t : Nat} (x : TA h t) (e1 : h'.1 t = h.1 t) (e2 : h'.1 (t + 1) = h.1 (t + 1)) : TA h' t := by
  obtain ⟨x1, g, x2, x3⟩ := x
  exact ⟨e1.trans x1, g, e2.trans x2, x3⟩
theorem TR.keep {h h' : eH} {t N : Nat} {v : Nat → Int} (x : TR h t N v) (e : ∀ i, t ≤ i → i ≤ t + 7 → h'.1 i = h.1 i) : TR h' t N v := ⟨x.1.keep (e _ (by omega) (by omega)) (e _ (by omega) (by omega)), fun i hi => (x.2 i hi).keep (e _ (by omega) (by omega)) (e _ (by omega) (by omega))⟩
theorem TX.keep {h h' : eH} {t N : Nat} (x : TX h t N) (e : ∀ i, t ≤ i → i ≤ t + 7 → h'.1 i = h.1 i) : TX h' t N := ⟨x.1.keep (e _ (by omega) (by omega)) (e _ (by omega) (by omega)), fun i hi => (x.2 i hi).keep (e _ (by omega) (by omega)) (e _ (by omega) (by omega))⟩
theorem TA.get {h : eH} {t i : Nat} (x : TA h t) (hi : i < 3) {α : Type} : ∀ F : Nat → Option α, aQ (h.1 (t + 1)) (nI i) F = F (t + 2 + 2 * i) := by
  intro F
  obtain ⟨x1, g, x2, x3⟩ := x
  rw [x2, aQ_nI (by decide) (by decide) hi (by decide) (x3 i hi)]
def dot (x y : Nat → Int) : Int := x 0 * y 0 + x 1 * y 1 + x 2 * y 2
def crs (x y : Nat → Int) (i : Nat) : Int := x ((i + 1) % 3) * y ((i + 2) % 3) - x ((i + 2) % 3) * y ((i + 1) % 3)
def n0t (v : Nat → Int) : Bool := decide (v 0 = 0) && decide (v 1 = 0) && decide (v 2 = 0)
theorem nI0n {z : Int} {N : Nat} (h : nd z.natAbs ≤ N) (hN : N < 2 ^ 31) : nI (nd z.natAbs) = 0 ↔ z = 0 := by
  rw [show (0 : Int32) = nI 0 from rfl, nI_eq (by omega) (by decide)]
  exact ⟨fun e => natAbs0 e, fun e => by rw [e, Int.natAbs_zero, nd_0]⟩
theorem d93_step {h : eH} {t N i : Nat} {v : Nat → Int} {b : Bool} (x : TR h t N v) (hN : N < 2 ^ 31) (hi : i < 3) : ru 93 4 [some (.ref t), some (.int (ldI b)), some (.int (nI i))] [] h = ru 93 4 [some (.ref t), some (.int (ldI (b && decide (v i = 0)))), some (.int (nI (i + 1)))] [] h := by
  obtain ⟨f, w1, w2, -⟩ := x.2 i hi
  rw [H93_4]
  simp only [S93, gFs, pFs, okq, bls, bo_true, eUp_at, eUp_eUp, eKls, cl_some, Option.toList_some, Option.toList_none, List.cons_append, List.nil_append]
  rw [if_neg (nI_ge hi (by decide))]
  simp only [S93, gFs, pFs, okq, bls, bo_true, eUp_at, eUp_eUp, eKls, cl_some, Option.toList_some, Option.toList_none, List.cons_append, List.nil_append, x.1.1, x.1.get hi, w1.1]
  cases b with
  | false =>
    rw [if_pos (show ldI false = 0 by decide), nI_1, Bool.false_and]
    rfl
  | true =>
    rw [if_neg (show ¬ ldI true = 0 by decide), Bool.true_and]
    by_cases q : v i = 0
    · rw [if_pos ((nI0n w2 hN).mpr q), nI_1, decide_eq_true q]
      rfl
    · rw [if_neg (fun e => q ((nI0n w2 hN).mp e)), nI_1, decide_eq_false q]
      rfl
theorem d93 {h : eH} {t N : Nat} {v : Nat → Int} (x : TR h t N v) (hN : N < 2 ^ 31) : den 93 [.ref t] h = some (some (.int (ldI (n0t v))), h) := by
  rw [E93 t x.1.1]
  simp only [S93, gFs, pFs, okq, bls, bo_true, eUp_at, eUp_eUp, eKls, cl_some, Option.toList_some, Option.toList_none, List.cons_append, List.nil_append]
  have s0 := d93_step (i := 0) (b := true) x hN (by decide)
  have s1 := d93_step (i := 1) (b := true && decide (v 0 = 0)) x hN (by decide)
  have s2 := d93_step (i := 2) (b := true && decide (v 0 = 0) && decide (v 1 = 0)) x hN (by decide)
  rw [show ldI true = nI 1 from rfl] at s0
  rw [s0, s1, s2, H93_4]
  simp only [S93, gFs, pFs, okq, bls, bo_true, eUp_at, eUp_eUp, eKls, cl_some, Option.toList_some, Option.toList_none, List.cons_append, List.nil_append]
  rw [if_pos (by decide), H93_37]
  simp only [S93, gFs, pFs, okq, bls, bo_true, eUp_at, eUp_eUp, eKls, cl_some, Option.toList_some, Option.toList_none, List.cons_append, List.nil_append]
  rw [Bool.true_and, ldI01, bo_true]
  rfl
/-- the frame of a cross product: the triple's numbers and work -/
def FT (t : Nat) (h h' : eH) : Prop := h'.2 = h.2 ∧ ∀ i, ¬ (t + 2 ≤ i ∧ i ≤ t + 7) → i ≠ 80 → i ≠ 81 → h'.1 i = h.1 i
theorem FT.refl (t : Nat) (h : eH) : FT t h h := ⟨rfl, fun _ _ _ _ => rfl⟩
theorem FT.trans {t : Nat} {h h' h'' : eH} (x : FT t h h') (y : FT t h' h'') : FT t h h'' := ⟨y.1.trans x.1, fun i h1 h2 h3 => (y.2 i h1 h2 h3).trans (x.2 i h1 h2 h3)⟩
theorem F2.ft {t a : Nat} {h h' : eH} (x : F2 a h h') (ha : (t + 2 ≤ a ∧ a ≤ t + 6) ∨ a = 80) : FT t h h' := ⟨x.1, fun i h1 h2 h3 => x.2 i (by omega) (by omega)⟩
theorem rem3 : (∀ i, i < 3 → (nI i + nI 1) - (nI i + nI 1) / nI 3 * nI 3 = nI ((i + 1) % 3)) ∧ ∀ i, i < 3 → (nI i + nI 2) - (nI i + nI 2) / nI 3 * nI 3 = nI ((i + 2) % 3) := by decide
theorem prod_lt {x y : Int} {p r : Nat} (hx : x.natAbs < BB ^ p) (hy : y.natAbs < BB ^ r) : (x * y).natAbs < BB ^ (p + r) := by
  rw [Int.natAbs_mul, Nat.pow_add]
  exact Nat.mul_lt_mul'' hx hy
theorem bb_succ (n : Nat) : BB ^ (n + 1) = BB ^ n * 1000000000 := by rw [Nat.pow_succ]; rfl
theorem diff_lt {x y : Int} {n : Nat} (hx : x.natAbs < BB ^ n) (hy : y.natAbs < BB ^ n) : (x - y).natAbs < BB ^ (n + 1) := by
  rw [bb_succ]
  omega
theorem crs_lt {a b : Nat → Int} {p r : Nat} (ha : ∀ i, i < 3 → (a i).natAbs < BB ^ p) (hb : ∀ i, i < 3 → (b i).natAbs < BB ^ r) (i : Nat) : (crs a b i).natAbs < BB ^ (p + r + 1) := diff_lt (prod_lt (ha _ (Nat.mod_lt _ (by decide))) (hb _ (Nat.mod_lt _ (by decide)))) (prod_lt (ha _ (Nat.mod_lt _ (by decide))) (hb _ (Nat.mod_lt _ (by decide))))
section CR
variable {h : eH} {t s u Ns Nu p r : Nat} {a b : Nat → Int}
theorem d103_step {i : Nat} {x5 x6 : Option Value} (k5 : eKl x5 = x5) (ht : t = 62 ∨ t = 70) (hs : 81 < s ∨ s = 62) (hu : 81 < u ∨ u = 62) (hst : s ≠ t) (hut : u ≠ t) (xt : TX h t 36) (xa : TR h s Ns a) (xb : TR h u Nu b) (xw : WX h 80 36) (hNs : Ns ≤ 36) (hNu : Nu ≤ 36) (ha : ∀ i, i < 3 → (a i).natAbs < BB ^ p) (hb : ∀ i, i < 3 → (b i).natAbs < BB ^ r) (hpr : p + r + 1 ≤ 36) (hi : i < 3) : ∃ h' x5' x6', ru 103 3 [some (.ref t), some (.ref s), some (.ref u), some (.ref 80), some (.int (nI i)), x5, x6] [] h = ru 103 3 [some (.ref t), some (.ref s), some (.ref u), some (.ref 80), some (.int (nI (i + 1))), x5', x6'] [] h' ∧ eKl x5' = x5' ∧ FT t h h' ∧ (∀ j, j ≠ t + 2 + 2 * i → j ≠ t + 3 + 2 * i → j ≠ 80 → j ≠ 81 → h'.1 j = h.1 j) ∧ WV h' (t + 2 + 2 * i) 36 (crs a b i) ∧ WX h' 80 36 := by
  obtain ⟨r1, r2⟩ := rem3
  have l1 : (i + 1) % 3 < 3 := Nat.mod_lt _ (by decide)
  have l2 : (i + 2) % 3 < 3 := Nat.mod_lt _ (by decide)
  obtain ⟨sz, bl, f, wt⟩ := xt.2 i hi
  have p36 : BB ^ (p + r) ≤ BB ^ 36 := Nat.pow_le_pow_right (by decide) (by omega)
  have p36' : BB ^ (p + r + 1) ≤ BB ^ 36 := Nat.pow_le_pow_right (by decide) hpr
  have b1 := prod_lt (ha _ l1) (hb _ l2)
  have b2 := prod_lt (ha _ l2) (hb _ l1)
  have b3 := diff_lt b1 b2
  obtain ⟨h1, e1, f1, w1⟩ := d96 wt (xa.2 _ l1) (xb.2 _ l2) (by omega) (by omega) (by decide) (by omega) (by omega) (by rw [nd_le]; omega)
  have n1 : ∀ j, j ≠ t + 2 + 2 * i → j ≠ t + 3 + 2 * i → h1.1 j = h.1 j := fun j j1 j2 => f1.2 j j1 (by omega)
  obtain ⟨sz8, bl8, f8, w8⟩ := xw.keep (n1 80 (by omega) (by omega)) (n1 81 (by omega) (by omega))
  have xa1 := xa.keep (h' := h1) (fun j j1 j2 => n1 j (by omega) (by omega))
  have xb1 := xb.keep (h' := h1) (fun j j1 j2 => n1 j (by omega) (by omega))
  obtain ⟨h2, e2, f2, w2⟩ := d96 w8 (xa1.2 _ l2) (xb1.2 _ l1) (by omega) (by omega) (by decide) (by omega) (by omega) (by rw [nd_le]; omega)
  have w1' := w1.kept f2 (by omega) (by omega) (by omega)
  obtain ⟨h3, e3, f3, w3⟩ := d99 w1' w2 (by omega) (by decide) (by decide) true (z := crs a b i) (by rw [if_pos rfl]; rfl) (by rw [nd_le]; exact Nat.lt_of_lt_of_le b3 p36')
  rw [if_pos rfl] at e3
  have xt1 : TA h1 t := xt.1.keep (n1 _ (by omega) (by omega)) (n1 _ (by omega) (by omega))
  have xt2 : TA h2 t := xt1.keep (f2.2 _ (by omega) (by omega)) (f2.2 _ (by omega) (by omega))
  refine ⟨h3, some (.int (nI ((i + 1) % 3))), some (.int (nI ((i + 2) % 3))), ?_, rfl, (f1.ft (Or.inl (by omega))).trans ((f2.ft (Or.inr rfl)).trans (f3.ft (Or.inl (by omega)))), fun j j1 j2 j3 j4 => (f3.2 j j1 (by omega)).trans ((f2.2 j j3 j4).trans (n1 j j1 j2)), w3, w2.x.kept f3 (by omega) (by omega) (by omega)⟩
  rw [H103_3]
  simp only [S103, gFs, pFs, okq, bls, bo_true, eUp_at, eUp_eUp, eKls, cl_some, Option.toList_some, Option.toList_none, List.cons_append, List.nil_append]
  rw [if_neg (nI_ge hi (by decide))]
  simp only [S103, gFs, pFs, okq, bls, bo_true, eUp_at, eUp_eUp, eKls, cl_some, Option.toList_some, Option.toList_none, List.cons_append, List.nil_append, k5, r1 i hi, r2 i hi, xt.1.1, xt.1.get hi, xa.1.1, xa.1.get l1, xb.1.1, xb.1.get l2, e1, xa1.1.1, xa1.1.get l2, xb1.1.1, xb1.1.get l1, e2, xt2.1, xt2.get hi, e3]
  rw [if_neg (show ¬ nI 3 = 0 by decide), if_neg (show ¬ nI 3 = 0 by decide), nI_1]
theorem d103 (ht : t = 62 ∨ t = 70) (hs : 81 < s ∨ s = 62) (hu : 81 < u ∨ u = 62) (hst : s ≠ t) (hut : u ≠ t) (xt : TX h t 36) (xa : TR h s Ns a) (xb : TR h u Nu b) (xw : WX h 80 36) (hNs : Ns ≤ 36) (hNu : Nu ≤ 36) (ha : ∀ i, i < 3 → (a i).natAbs < BB ^ p) (hb : ∀ i, i < 3 → (b i).natAbs < BB ^ r) (hpr : p + r + 1 ≤ 36) : ∃ h', den 103 [.ref t, .ref s, .ref u, .ref 80] h = some (none, h') ∧ FT t h h' ∧ TR h' t 36 (crs a b) ∧ WX h' 80 36 := by
  obtain ⟨h1, y5, y6, e1, k1, f1, n1, w1, x1⟩ := d103_step (i := 0) (x5 := none) (x6 := none) rfl ht hs hu hst hut xt xa xb xw hNs hNu ha hb hpr (by decide)
  have kk : ∀ {h h' : eH}, FT t h h' → TR h s Ns a → TR h s Ns a := fun _ q => q
  have xa1 := xa.keep (h' := h1) (fun j j1 j2 => f1.2 j (by omega) (by omega) (by omega))
  have xb1 := xb.keep (h' := h1) (fun j j1 j2 => f1.2 j (by omega) (by omega) (by omega))
  have ta1 : TA h1 t := xt.1.keep (f1.2 _ (by omega) (by omega) (by omega)) (f1.2 _ (by omega) (by omega) (by omega))
  have xt1 : TX h1 t 36 := ⟨ta1, fun i hi => by
    by_cases q : i = 0
    · subst q; exact w1.x
    · exact (xt.2 i hi).keep (n1 _ (by omega) (by omega) (by omega) (by omega)) (n1 _ (by omega) (by omega) (by omega) (by omega))⟩
  obtain ⟨h2, y5', y6', e2, k2, f2, n2, w2, x2⟩ := d103_step (i := 1) (x5 := y5) (x6 := y6) k1 ht hs hu hst hut xt1 xa1 xb1 x1 hNs hNu ha hb hpr (by decide)
  have xa2 := xa1.keep (h' := h2) (fun j j1 j2 => f2.2 j (by omega) (by omega) (by omega))
  have xb2 := xb1.keep (h' := h2) (fun j j1 j2 => f2.2 j (by omega) (by omega) (by omega))
  have ta2 : TA h2 t := ta1.keep (f2.2 _ (by omega) (by omega) (by omega)) (f2.2 _ (by omega) (by omega) (by omega))
  have w12 := w1.keep (h' := h2) (n2 _ (by omega) (by omega) (by omega) (by omega)) (n2 _ (by omega) (by omega) (by omega) (by omega))
  have xt2 : TX h2 t 36 := ⟨ta2, fun i hi => by
    by_cases q : i = 1
    · subst q; exact w2.x
    · exact (xt1.2 i hi).keep (n2 _ (by omega) (by omega) (by omega) (by omega)) (n2 _ (by omega) (by omega) (by omega) (by omega))⟩
  obtain ⟨h3, y5'', y6'', e3, k3, f3, n3, w3, x3⟩ := d103_step (i := 2) (x5 := y5') (x6 := y6') k2 ht hs hu hst hut xt2 xa2 xb2 x2 hNs hNu ha hb hpr (by decide)
  have ta3 : TA h3 t := ta2.keep (f3.2 _ (by omega) (by omega) (by omega)) (f3.2 _ (by omega) (by omega) (by omega))
  refine ⟨h3, ?_, f1.trans (f2.trans f3), ⟨ta3, fun i hi => ?_⟩, x3⟩
  · rw [E103 t _ _ _ xt.1.1]
    simp only [S103, gFs, pFs, okq, bls, bo_true, eUp_at, eUp_eUp, eKls, cl_some, Option.toList_some, Option.toList_none, List.cons_append, List.nil_append]
    rw [e1, e2, e3, H103_3]
    simp only [S103, gFs, pFs, okq, bls, bo_true, eUp_at, eUp_eUp, eKls, cl_some, Option.toList_some, Option.toList_none, List.cons_append, List.nil_append]
    rw [if_pos (by decide)]
  · rcases (by omega : i = 0 ∨ i = 1 ∨ i = 2) with q | q | q
    · subst q; exact w12.keep (n3 _ (by omega) (by omega) (by omega) (by omega)) (n3 _ (by omega) (by omega) (by omega) (by omega))
    · subst q; exact w2.keep (n3 _ (by omega) (by omega) (by omega) (by omega)) (n3 _ (by omega) (by omega) (by omega) (by omega))
    · subst q; exact w3
/-- the frame of signOfProduct: sum and work -/
def FS (h h' : eH) : Prop := h'.2 = h.2 ∧ ∀ i, ¬ (78 ≤ i ∧ i ≤ 81) → h'.1 i = h.1 i
theorem FS.refl (h : eH) : FS h h := ⟨rfl, fun _ _ => rfl⟩
theorem FS.trans {h h' h'' : eH} (x : FS h h') (y : FS h' h'') : FS h h'' := ⟨y.1.trans x.1, fun i h1 => (y.2 i h1).trans (x.2 i h1)⟩
theorem F2.fs {a : Nat} {h h' : eH} (x : F2 a h h') (ha : a = 78 ∨ a = 80) : FS h h' := ⟨x.1, fun i h1 => x.2 i (by omega) (by omega)⟩
def CO (h : eH) (m : Nat) : Prop := h.1 60 = .inr (0, [.ref 61, .ref 62, .ref 70, .ref 78, .ref 80, .ref 82, .ref 83, .int (nI m)])
theorem d101_step {M i : Nat} {z : Int} (co : CO h M) (hs : 81 < s) (hu : 81 < u ∨ u = 62 ∨ u = 70) (xa : TR h s Ns a) (xb : TR h u Nu b) (xz : WV h 78 36 z) (xw : WX h 80 36) (hNs : Ns ≤ 36) (hNu : Nu ≤ 36) (hp : nd (a i * b i).natAbs ≤ 36) (hq : nd (z + a i * b i).natAbs ≤ 36) (hi : i < 3) : ∃ h', ru 101 9 [some (.ref 60), some (.ref s), some (.ref u), some (.int (nI i))] [] h = ru 101 9 [some (.ref 60), some (.ref s), some (.ref u), some (.int (nI (i + 1)))] [] h' ∧ FS h h' ∧ WV h' 78 36 (z + a i * b i) ∧ WX h' 80 36 := by
  obtain ⟨sz8, bl8, f8, w8⟩ := xw
  obtain ⟨h1, e1, f1, w1⟩ := d96 w8 (xa.2 i hi) (xb.2 i hi) (by omega) (by omega) (by decide) (by omega) (by omega) hp
  obtain ⟨h2, e2, f2, w2⟩ := d99 (xz.kept f1 (by decide) (by decide) (by decide)) w1 (by decide) (by decide) (by decide) false (z := z + a i * b i) (by rw [if_neg (by decide)]) hq
  rw [if_neg (by decide)] at e2
  have c0 := co
  unfold CO at c0
  have c1 : h1.1 60 = .inr (0, [.ref 61, .ref 62, .ref 70, .ref 78, .ref 80, .ref 82, .ref 83, .int (nI M)]) := (f1.2 60 (by decide) (by decide)).trans co
  refine ⟨h2, ?_, (f1.fs (Or.inr rfl)).trans (f2.fs (Or.inl rfl)), w2, w1.x.kept f2 (by decide) (by decide) (by decide)⟩
  rw [H101_9]
  simp only [S101, gFs, pFs, okq, bls, bo_true, eUp_at, eUp_eUp, eKls, cl_some, Option.toList_some, Option.toList_none, List.cons_append, List.nil_append]
  rw [if_neg (nI_ge hi (by decide))]
  simp only [S101, gFs, pFs, okq, bls, bo_true, eUp_at, eUp_eUp, eKls, cl_some, Option.toList_some, Option.toList_none, List.cons_append, List.nil_append, c0, xa.1.1, xa.1.get hi, xb.1.1, xb.1.get hi, e1, c1, e2]
  rw [nI_1]
theorem d101 {M : Nat} (co : CO h M) (hs : 81 < s) (hu : 81 < u ∨ u = 62 ∨ u = 70) (xa : TR h s Ns a) (xb : TR h u Nu b) (xz : WX h 78 36) (xw : WX h 80 36) (hNs : Ns ≤ 36) (hNu : Nu ≤ 36) (ha : ∀ i, i < 3 → (a i).natAbs < BB ^ p) (hb : ∀ i, i < 3 → (b i).natAbs < BB ^ r) (hpr : p + r + 1 ≤ 36) : ∃ h', den 101 [.ref 60, .ref s, .ref u] h = some (some (.int (if dot a b = 0 then nI 0 else if dot a b < 0 then -1 else nI 1)), h') ∧ FS h h' ∧ WX h' 78 36 ∧ WX h' 80 36 := by
  obtain ⟨sz, bl, f, wz⟩ := xz
  obtain ⟨h1, e1, f1, w1⟩ := d82 wz
  have p36 : BB ^ (p + r) < BB ^ 36 := Nat.pow_lt_pow_right (by decide) (by omega)
  have p36' : BB ^ (p + r + 1) ≤ BB ^ 36 := Nat.pow_le_pow_right (by decide) hpr
  have hbs := bb_succ (p + r)
  have b0 := prod_lt (ha 0 (by decide)) (hb 0 (by decide))
  have b1 := prod_lt (ha 1 (by decide)) (hb 1 (by decide))
  have b2 := prod_lt (ha 2 (by decide)) (hb 2 (by decide))
  have fs1 : FS h h1 := f1.fs (Or.inl rfl)
  have xk : ∀ {h h' : eH} {t N : Nat} {v : Nat → Int}, FS h h' → TR h t N v → (81 < t ∨ t = 62 ∨ t = 70) → TR h' t N v := by
    intro h h' t N v fs x ht
    exact x.keep (fun j j1 j2 => fs.2 j (by omega))
  have c1 : CO h1 M := (fs1.2 60 (by decide)).trans co
  obtain ⟨h2, e2, f2, w2, x2⟩ := d101_step (i := 0) c1 hs hu (xk fs1 xa (by omega)) (xk fs1 xb hu) w1 (xw.kept f1 (by decide) (by decide) (by decide)) hNs hNu (by rw [nd_le]; omega) (by rw [nd_le]; omega) (by decide)
  have c2 : CO h2 M := (f2.2 60 (by decide)).trans c1
  have fs2 := fs1.trans f2
  obtain ⟨h3, e3, f3, w3, x3⟩ := d101_step (i := 1) c2 hs hu (xk fs2 xa (by omega)) (xk fs2 xb hu) w2 x2 hNs hNu (by rw [nd_le]; omega) (by rw [nd_le]; omega) (by decide)
  have c3 : CO h3 M := (f3.2 60 (by decide)).trans c2
  have fs3 := fs2.trans f3
  obtain ⟨h4, e4, f4, w4, x4⟩ := d101_step (i := 2) c3 hs hu (xk fs3 xa (by omega)) (xk fs3 xb hu) w3 x3 hNs hNu (by rw [nd_le]; omega) (by rw [nd_le]; omega) (by decide)
  have c4 : CO h4 M := (f4.2 60 (by decide)).trans c3
  have e5 := d100 w4 (by decide)
  have ed : 0 + a 0 * b 0 + a 1 * b 1 + a 2 * b 2 = dot a b := by unfold dot; omega
  rw [ed] at e5 w4
  refine ⟨h4, ?_, fs3.trans f4, w4.x, x4⟩
  have c0 := co
  unfold CO at c0 c4
  rw [E101 60 _ _ co]
  simp only [S101, gFs, pFs, okq, bls, bo_true, eUp_at, eUp_eUp, eKls, cl_some, Option.toList_some, Option.toList_none, List.cons_append, List.nil_append, c0, e1]
  rw [e2, e3, e4, H101_9]
  simp only [S101, gFs, pFs, okq, bls, bo_true, eUp_at, eUp_eUp, eKls, cl_some, Option.toList_some, Option.toList_none, List.cons_append, List.nil_append]
  rw [if_pos (by decide), H101_51]
  simp only [S101, gFs, pFs, okq, bls, bo_true, eUp_at, eUp_eUp, eKls, cl_some, Option.toList_some, Option.toList_none, List.cons_append, List.nil_append, c4, e5]
end CR
