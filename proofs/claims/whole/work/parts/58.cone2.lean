/-! CONE: allReached, tryRay, tryPlane -/
def AK (h : eH) : Prop := ∃ g, h.1 61 = .inl (4, 14, .inr (.inr (.inr (.inr g)))) ∧ ∀ m, m < 14 → g m = some (84 + 8 * m)
def RC (h : eH) (M : Nat) (R : Nat → Bool) : Prop := ∃ f, h.1 83 = .inl (2, 14, .inl f) ∧ ∀ m, m < M → f m = ldI (R m)
def SGA (h : eH) (k : Nat) (v : Nat → Int32) : Prop := AR h 82 14 k v
def alr (R : Nat → Bool) : Nat → Bool
  | 0 => true
  | m + 1 => alr R m && R m
theorem alr_iff {R : Nat → Bool} : ∀ {M : Nat}, alr R M = true ↔ ∀ m, m < M → R m = true := by
  intro M
  induction M with
  | zero => exact ⟨fun _ m hm => absurd hm (Nat.not_lt_zero _), fun _ => rfl⟩
  | succ M ih =>
    show (alr R M && R M) = true ↔ _
    rw [Bool.and_eq_true, ih]
    constructor
    · intro ⟨h1, h2⟩ m hm
      by_cases q : m = M
      · rw [q]; exact h2
      · exact h1 m (by omega)
    · intro hh
      exact ⟨fun m hm => hh m (by omega), hh M (by omega)⟩
theorem AK.get {h : eH} {m : Nat} (x : AK h) (hm : m < 14) {α : Type} : ∀ F : Nat → Option α, aQ (h.1 61) (nI m) F = F (84 + 8 * m) := by
  intro F
  obtain ⟨g, x1, x2⟩ := x
  rw [x1, aQ_nI (by decide) (by decide) hm (by decide) (x2 m hm)]
theorem RC.get {h : eH} {M m : Nat} {R : Nat → Bool} (x : RC h M R) (hm : m < M) (hM : M ≤ 14) {α : Type} : ∀ F : Int32 → Option α, aI (h.1 83) 2 (nI m) F = F (ldI (R m)) := by
  intro F
  obtain ⟨f, x1, x2⟩ := x
  rw [x1, aI_nI (by omega) (by decide), x2 m hm]
theorem RC.set {h : eH} {M m : Nat} {R : Nat → Bool} (x : RC h M R) (hm : m < 14) (b : Bool) {α : Type} : ∃ e, (∀ F : va_E → Option α, wZ (h.1 83) (nI m) (ldI b) F = F e) ∧ ∀ h' : eH, h'.1 83 = e → RC h' M (fun j => if j = m then b else R j) := by
  obtain ⟨f, x1, x2⟩ := x
  refine ⟨.inl (2, 14, .inl (upd f m (ldI b))), fun F => ?_, fun h' e => ⟨_, e, fun j hj => ?_⟩⟩
  · rw [x1, wZ_nI hm (by decide), ldI01, bo_true]
  · show upd f m (ldI b) j = ldI (if j = m then b else R j)
    unfold upd
    by_cases q : j = m
    · rw [if_pos q, if_pos q]
    · rw [if_neg q, if_neg q]
      exact x2 j hj
theorem AR.set {h : eH} {i L k m : Nat} {v : Nat → Int32} (x : AR h i L k v) (hm : m < L) (hL : L < 2 ^ 31) (z : Int32) {α : Type} : ∃ e, (∀ F : va_E → Option α, wI (h.1 i) (nI m) z F = F e) ∧ (∀ h' : eH, h'.1 i = e → AR h' i L k (fun j => if j = m then z else v j)) ∧ ∀ h' : eH, h'.1 i = e → k = m → AR h' i L (m + 1) (fun j => if j = m then z else v j) := by
  obtain ⟨f, x1, x2⟩ := x
  refine ⟨.inl (0, L, .inl (upd f m z)), fun F => ?_, fun h' e => ⟨_, e, fun j hj => ?_⟩, fun h' e hk => ⟨_, e, fun j hj => ?_⟩⟩
  · rw [x1, wI_nI hm hL]
  · show upd f m z j = if j = m then z else v j
    unfold upd
    by_cases q : j = m
    · rw [if_pos q, if_pos q]
    · rw [if_neg q, if_neg q]
      exact x2 j hj
  · show upd f m z j = if j = m then z else v j
    unfold upd
    by_cases q : j = m
    · rw [if_pos q, if_pos q]
    · rw [if_neg q, if_neg q]
      exact x2 j (by omega)
def OS (q : Nat → Nat → Int) (v : Nat → Int) (M : Nat) : Prop := (∀ m, m < M → 0 ≤ dot (q m) v) ∨ (∀ m, m < M → dot (q m) v ≤ 0)
def CS (h : eH) (M : Nat) (q : Nat → Nat → Int) (R : Nat → Bool) : Prop := CO h M ∧ AK h ∧ (∀ m, m < M → TR h (84 + 8 * m) 5 (q m)) ∧ WX h 78 36 ∧ WX h 80 36 ∧ AR h 82 14 0 (fun _ => 0) ∧ RC h M R
/-- the frame of tryRay -/
def FY (h h' : eH) : Prop := h'.2 = h.2 ∧ ∀ i, ¬ (78 ≤ i ∧ i ≤ 83) → h'.1 i = h.1 i
theorem FY.refl (h : eH) : FY h h := ⟨rfl, fun _ _ => rfl⟩
theorem FY.trans {h h' h'' : eH} (x : FY h h') (y : FY h' h'') : FY h h'' := ⟨y.1.trans x.1, fun i h1 => (y.2 i h1).trans (x.2 i h1)⟩
theorem FS.fy {h h' : eH} (x : FS h h') : FY h h' := ⟨x.1, fun i hi => x.2 i (by omega)⟩
theorem FY.up {h : eH} {a : Nat} {e : va_E} (ha : 78 ≤ a ∧ a ≤ 83) : FY h (eUp h a e) := ⟨rfl, fun i hi => eUp_ne (by omega)⟩
theorem sgI (z : Int) : (if z = 0 then nI 0 else if z < 0 then -1 else nI 1) = iI z.sign := by
  by_cases q : z = 0
  · rw [if_pos q, q]; rfl
  · rw [if_neg q]
    by_cases q2 : z < 0
    · rw [if_pos q2, Int.sign_eq_neg_one_of_neg q2]; decide
    · rw [if_neg q2, Int.sign_eq_one_of_pos (by omega)]; decide
theorem sgn3 (z : Int) : z.sign = 0 ∨ z.sign = 1 ∨ z.sign = -1 := by
  rcases Int.lt_trichotomy z 0 with q | q | q
  · exact Or.inr (Or.inr (Int.sign_eq_neg_one_of_neg q))
  · rw [q]; exact Or.inl rfl
  · exact Or.inr (Or.inl (Int.sign_eq_one_of_pos q))
theorem sgn_cases (z : Int) : (z = 0 ∧ z.sign = 0) ∨ (0 < z ∧ z.sign = 1) ∨ (z < 0 ∧ z.sign = -1) := by
  rcases Int.lt_trichotomy z 0 with q | q | q
  · exact Or.inr (Or.inr ⟨q, Int.sign_eq_neg_one_of_neg q⟩)
  · rw [q]; exact Or.inl ⟨rfl, rfl⟩
  · exact Or.inr (Or.inl ⟨q, Int.sign_eq_one_of_pos q⟩)
section CN
variable {h : eH} {M : Nat} {q : Nat → Nat → Int} {R : Nat → Bool}
theorem d81_loop (co : CO h M) (rc : RC h M R) (hM : M ≤ 14) : ∀ r m, m + r = M → ru 81 4 [some (.ref 60), some (.int (ldI (alr R m))), some (.int (nI m))] [] h = some (some (.int (ldI (alr R M))), h) := by
  have c0 := co
  unfold CO at c0
  intro r
  induction r with
  | zero =>
    intro m hm
    have : m = M := by omega
    subst this
    rw [H81_4]
    simp only [S81, gFs, pFs, okq, bls, bo_true, eUp_at, eUp_eUp, eKls, cl_some, Option.toList_some, Option.toList_none, List.cons_append, List.nil_append, c0]
    rw [if_pos (nI_le (Nat.le_refl _) (by omega)), H81_37]
    simp only [S81, gFs, pFs, okq, bls, bo_true, eUp_at, eUp_eUp, eKls, cl_some, Option.toList_some, Option.toList_none, List.cons_append, List.nil_append]
    rw [ldI01, bo_true]
  | succ r ih =>
    intro m hm
    rw [H81_4]
    simp only [S81, gFs, pFs, okq, bls, bo_true, eUp_at, eUp_eUp, eKls, cl_some, Option.toList_some, Option.toList_none, List.cons_append, List.nil_append, c0]
    rw [if_neg (nI_ge (by omega) (by omega))]
    simp only [S81, gFs, pFs, okq, bls, bo_true, eUp_at, eUp_eUp, eKls, cl_some, Option.toList_some, Option.toList_none, List.cons_append, List.nil_append, c0, rc.get (show m < M by omega) hM]
    have hs := ih (m + 1) (by omega)
    rw [show alr R (m + 1) = (alr R m && R m) from rfl] at hs
    cases hq : alr R m with
    | false =>
      rw [hq, Bool.false_and] at hs
      rw [if_pos (show ldI false = 0 by decide), nI_1]
      exact hs
    | true =>
      rw [hq, Bool.true_and] at hs
      rw [if_neg (show ¬ ldI true = 0 by decide)]
      cases hr : R m with
      | false =>
        rw [hr] at hs
        rw [if_pos (show ldI false = 0 by decide), nI_1]
        exact hs
      | true =>
        rw [hr] at hs
        rw [if_neg (show ¬ ldI true = 0 by decide), nI_1]
        exact hs
theorem d81 (co : CO h M) (rc : RC h M R) (hM : M ≤ 14) : den 81 [.ref 60] h = some (some (.int (ldI (alr R M))), h) := by
  rw [E81 60 co]
  simp only [S81, gFs, pFs, okq, bls, bo_true, eUp_at, eUp_eUp, eKls, cl_some, Option.toList_some, Option.toList_none, List.cons_append, List.nil_append]
  exact d81_loop co rc hM M 0 (by omega)
/-- the signs so far -/
def PS (q : Nat → Nat → Int) (v : Nat → Int) (m : Nat) (sd : Int) : Prop := (sd = 0 ∧ ∀ j, j < m → dot (q j) v = 0) ∨ (sd = 1 ∧ (∀ j, j < m → 0 ≤ dot (q j) v) ∧ ∃ j, j < m ∧ 0 < dot (q j) v) ∨ (sd = -1 ∧ (∀ j, j < m → dot (q j) v ≤ 0) ∧ ∃ j, j < m ∧ dot (q j) v < 0)
theorem CS.tr {h h' : eH} (x : CS h M q R) (e : ∀ i, (i < 62 ∨ 83 < i) → h'.1 i = h.1 i) : CO h' M ∧ AK h' ∧ (∀ m, m < M → TR h' (84 + 8 * m) 5 (q m)) := by
  obtain ⟨c1, ⟨g, c2, c3⟩, c4, -⟩ := x
  exact ⟨(e 60 (by omega)).trans c1, ⟨g, (e 61 (by omega)).trans c2, c3⟩, fun m hm => (c4 m hm).keep (fun i i1 i2 => e i (by omega))⟩
theorem d102_loop {u Nu : Nat} {v : Nat → Int} (hM : M ≤ 14) (hu : 81 < u ∨ u = 62 ∨ u = 70) (hu2 : u ≠ 82 ∧ u ≠ 83 ∧ u ≠ 75) (hNu : Nu ≤ 36) (hq : ∀ m, m < M → ∀ i, i < 3 → (q m i).natAbs < BB ^ 5) (hv : ∀ i, i < 3 → (v i).natAbs < BB ^ 18) : ∀ r m sd h, m + r = M → CS h M q R → TR h u Nu v → AR h 82 14 m (fun j => iI (dot (q j) v).sign) → PS q v m sd → (∃ h', ru 102 12 [some (.ref 60), some (.ref u), some (.int (iI sd)), some (.int (nI m))] [] h = some (none, h') ∧ FY h h' ∧ CS h' M q R ∧ ¬ OS q v M) ∨ (∃ h' sd', ru 102 12 [some (.ref 60), some (.ref u), some (.int (iI sd)), some (.int (nI m))] [] h = ru 102 77 [some (.ref 60), some (.ref u), some (.int (iI sd')), some (.int (nI 0))] [] h' ∧ FY h h' ∧ CS h' M q R ∧ AR h' 82 14 M (fun j => iI (dot (q j) v).sign) ∧ OS q v M) := by
  intro r
  induction r with
  | zero =>
    intro m sd h hm cs xt ar ps
    have : m = M := by omega
    subst this
    refine Or.inr ⟨h, sd, ?_, FY.refl _, cs, ar, ?_⟩
    · have c0 := cs.1
      unfold CO at c0
      rw [H102_12]
      simp only [S102, gFs, pFs, okq, bls, bo_true, eUp_at, eUp_eUp, eKls, cl_some, Option.toList_some, Option.toList_none, List.cons_append, List.nil_append, c0]
      rw [if_pos (nI_le (Nat.le_refl _) (by omega)), H102_75]
      simp only [S102, gFs, pFs, okq, bls, bo_true, eUp_at, eUp_eUp, eKls, cl_some, Option.toList_some, Option.toList_none, List.cons_append, List.nil_append]
    · rcases ps with ⟨-, p⟩ | ⟨-, p, -⟩ | ⟨-, p, -⟩
      · exact Or.inl (fun j hj => by rw [p j hj]; exact Int.le_refl _)
      · exact Or.inl p
      · exact Or.inr p
  | succ r ih =>
    intro m sd h hm cs xt ar ps
    have hmM : m < M := by omega
    obtain ⟨c1, c2, c3, c4, c5, c6, c7⟩ := id cs
    obtain ⟨h1, e1, f1, w78, w80⟩ := d101 c1 (by omega) hu (c3 m hmM) xt c4 c5 (by decide) hNu (hq m hmM) hv (by decide)
    rw [sgI] at e1
    obtain ⟨k1, k2, k3⟩ := cs.tr (h' := h1) (fun i hi => f1.2 i (by omega))
    have ar1 := ar.keep (f1.2 82 (by decide))
    obtain ⟨e2, w2, -, w3⟩ := ar1.set (show m < 14 by omega) (by decide) (iI (dot (q m) v).sign) (α := eR)
    obtain ⟨h2, hh2⟩ : ∃ h2, h2 = eUp h1 82 e2 := ⟨_, rfl⟩
    have n2 : ∀ i, i ≠ 82 → h2.1 i = h1.1 i := fun i hi => by rw [hh2]; exact eUp_ne hi
    have ar2 : AR h2 82 14 (m + 1) (fun j => iI (dot (q j) v).sign) := by
      obtain ⟨f, y1, y2⟩ := w3 h2 (by rw [hh2]; exact eUp_at ..) rfl
      refine ⟨f, y1, fun j hj => (y2 j hj).trans ?_⟩
      show (if j = m then iI (dot (q m) v).sign else iI (dot (q j) v).sign) = iI (dot (q j) v).sign
      by_cases qj : j = m
      · rw [if_pos qj, qj]
      · rw [if_neg qj]
    obtain ⟨g1, g2, g3⟩ := cs.tr (h' := h2) (fun i hi => (n2 i (by omega)).trans (f1.2 i (by omega)))
    have fy : FY h h2 := ⟨by rw [hh2]; exact f1.1, fun i hi => (n2 i (by omega)).trans (f1.2 i (by omega))⟩
    have cs2 : CS h2 M q R := by
      refine ⟨g1, g2, g3, w78.keep (n2 _ (by decide)) (n2 _ (by decide)), w80.keep (n2 _ (by decide)) (n2 _ (by decide)), ?_, ?_⟩
      · obtain ⟨f, y1, y2⟩ := ar2
        exact ⟨f, y1, fun j hj => absurd hj (Nat.not_lt_zero _)⟩
      · obtain ⟨f, y1, y2⟩ := c7
        exact ⟨f, (n2 83 (by decide)).trans ((f1.2 83 (by decide)).trans y1), y2⟩
    have xt2 : TR h2 u Nu v := xt.keep (fun i i1 i2 => (n2 i (by omega)).trans (f1.2 i (by omega)))
    have c0 := c1
    unfold CO at c0
    have k0 := g1
    unfold CO at k0
    have sd3 : sd = 0 ∨ sd = 1 ∨ sd = -1 := by
      rcases ps with ⟨p, -⟩ | ⟨p, -⟩ | ⟨p, -⟩
      · exact Or.inl p
      · exact Or.inr (Or.inl p)
      · exact Or.inr (Or.inr p)
    have sg3 := sgn_cases (dot (q m) v)
    have head : ru 102 12 [some (.ref 60), some (.ref u), some (.int (iI sd)), some (.int (nI m))] [] h = if 0 ≤ iI ((dot (q m) v).sign * sd) then (if iI (dot (q m) v).sign = 0 then ru 102 12 [some (.ref 60), some (.ref u), some (.int (iI sd)), some (.int (nI (m + 1)))] [] h2 else ru 102 12 [some (.ref 60), some (.ref u), some (.int (iI (dot (q m) v).sign)), some (.int (nI (m + 1)))] [] h2) else some (none, h2) := by
      rw [H102_12]
      simp only [S102, gFs, pFs, okq, bls, bo_true, eUp_at, eUp_eUp, eKls, cl_some, Option.toList_some, Option.toList_none, List.cons_append, List.nil_append, c0]
      rw [if_neg (nI_ge hmM (by omega))]
      simp only [S102, gFs, pFs, okq, bls, bo_true, eUp_at, eUp_eUp, eKls, cl_some, Option.toList_some, Option.toList_none, List.cons_append, List.nil_append, c0, c2.get (show m < 14 by omega), e1, w2]
      rw [← hh2]
      simp only [S102, gFs, pFs, okq, bls, bo_true, eUp_at, eUp_eUp, eKls, cl_some, Option.toList_some, Option.toList_none, List.cons_append, List.nil_append, k0, ar2.get (show m < m + 1 by omega) (show m + 1 ≤ 14 by omega) (by decide), iI_mul]
      rw [nI_1]
    rw [head]
    have i0 : (0 : Int32) = iI 0 := by decide
    have okp : iok ((dot (q m) v).sign * sd) := by
      rcases sgn3 (dot (q m) v) with s | s | s <;> rcases sd3 with t | t | t <;> rw [s, t] <;> unfold iok <;> decide
    have oks : iok ((dot (q m) v).sign) := by
      rcases sgn3 (dot (q m) v) with s | s | s <;> rw [s] <;> unfold iok <;> decide
    have l1 : 0 ≤ iI ((dot (q m) v).sign * sd) ↔ 0 ≤ (dot (q m) v).sign * sd := by rw [i0]; exact iI_le iok_0 okp
    have l2 : iI (dot (q m) v).sign = 0 ↔ (dot (q m) v).sign = 0 := by rw [i0]; exact iI_eq oks iok_0
    have go : ∀ sd', PS q v (m + 1) sd' → ru 102 12 [some (.ref 60), some (.ref u), some (.int (iI sd)), some (.int (nI m))] [] h = ru 102 12 [some (.ref 60), some (.ref u), some (.int (iI sd')), some (.int (nI (m + 1)))] [] h2 → (∃ h', ru 102 12 [some (.ref 60), some (.ref u), some (.int (iI sd)), some (.int (nI m))] [] h = some (none, h') ∧ FY h h' ∧ CS h' M q R ∧ ¬ OS q v M) ∨ (∃ h' sd', ru 102 12 [some (.ref 60), some (.ref u), some (.int (iI sd)), some (.int (nI m))] [] h = ru 102 77 [some (.ref 60), some (.ref u), some (.int (iI sd')), some (.int (nI 0))] [] h' ∧ FY h h' ∧ CS h' M q R ∧ AR h' 82 14 M (fun j => iI (dot (q j) v).sign) ∧ OS q v M) := by
      intro sd' hps he
      rcases ih (m + 1) sd' h2 (by omega) cs2 xt2 ar2 hps with ⟨h3, e3, f3, r3⟩ | ⟨h3, sd3, e3, f3, r3⟩
      · exact Or.inl ⟨h3, he.trans e3, fy.trans f3, r3⟩
      · exact Or.inr ⟨h3, sd3, he.trans e3, fy.trans f3, r3⟩
    rw [← head]
    have split_lt : ∀ {P : Nat → Prop}, (∀ j, j < m → P j) → P m → ∀ j, j < m + 1 → P j := by
      intro P h1 h2 j hj
      by_cases qj : j = m
      · rw [qj]; exact h2
      · exact h1 j (by omega)
    rcases sg3 with ⟨z0, z1⟩ | ⟨z0, z1⟩ | ⟨z0, z1⟩
    · refine go sd ?_ ?_
      · rcases ps with ⟨p0, p1⟩ | ⟨p0, p1, j, p2, p3⟩ | ⟨p0, p1, j, p2, p3⟩
        · exact Or.inl ⟨p0, split_lt p1 z0⟩
        · exact Or.inr (Or.inl ⟨p0, split_lt p1 (by rw [z0]; exact Int.le_refl _), j, by omega, p3⟩)
        · exact Or.inr (Or.inr ⟨p0, split_lt p1 (by rw [z0]; exact Int.le_refl _), j, by omega, p3⟩)
      · rw [head, if_pos (l1.mpr (by rw [z1, Int.zero_mul]; exact Int.le_refl _)), if_pos (l2.mpr z1)]
    · rcases ps with ⟨p0, p1⟩ | ⟨p0, p1, j, p2, p3⟩ | ⟨p0, p1, j, p2, p3⟩
      · refine go 1 (Or.inr (Or.inl ⟨rfl, split_lt (fun j hj => by rw [p1 j hj]; exact Int.le_refl _) (by omega), m, by omega, z0⟩)) ?_
        rw [head, if_pos (l1.mpr (by rw [p0, Int.mul_zero]; exact Int.le_refl _)), if_neg (fun e => by have := l2.mp e; omega), z1]
      · refine go 1 (Or.inr (Or.inl ⟨rfl, split_lt p1 (by omega), m, by omega, z0⟩)) ?_
        rw [head, if_pos (l1.mpr (by rw [z1, p0]; decide)), if_neg (fun e => by have := l2.mp e; omega), z1]
      · refine Or.inl ⟨h2, ?_, fy, cs2, ?_⟩
        · rw [head, if_neg (fun e => by have := l1.mp e; rw [z1, p0] at this; omega)]
        · rintro (hh | hh)
          · have := hh j (by omega); omega
          · have := hh m hmM; omega
    · rcases ps with ⟨p0, p1⟩ | ⟨p0, p1, j, p2, p3⟩ | ⟨p0, p1, j, p2, p3⟩
      · refine go (-1) (Or.inr (Or.inr ⟨rfl, split_lt (fun j hj => by rw [p1 j hj]; exact Int.le_refl _) (by omega), m, by omega, z0⟩)) ?_
        rw [head, if_pos (l1.mpr (by rw [p0, Int.mul_zero]; exact Int.le_refl _)), if_neg (fun e => by have := l2.mp e; omega), z1]
      · refine Or.inl ⟨h2, ?_, fy, cs2, ?_⟩
        · rw [head, if_neg (fun e => by have := l1.mp e; rw [z1, p0] at this; omega)]
        · rintro (hh | hh)
          · have := hh m hmM; omega
          · have := hh j (by omega); omega
      · refine go (-1) (Or.inr (Or.inr ⟨rfl, split_lt p1 (by omega), m, by omega, z0⟩)) ?_
        rw [head, if_pos (l1.mpr (by rw [z1, p0]; decide)), if_neg (fun e => by have := l2.mp e; omega), z1]
theorem d102_mark {u : Nat} {v : Nat → Int} {sd : Int32} (hM : M ≤ 14) : ∀ r m h R, m + r = M → CS h M q R → AR h 82 14 M (fun j => iI (dot (q j) v).sign) → ∃ h' R', ru 102 77 [some (.ref 60), some (.ref u), some (.int sd), some (.int (nI m))] [] h = some (none, h') ∧ FY h h' ∧ CS h' M q R' ∧ ∀ j, j < M → (R' j = true ↔ R j = true ∨ (m ≤ j ∧ dot (q j) v ≠ 0)) := by
  intro r
  induction r with
  | zero =>
    intro m h R hm cs ar
    have : m = M := by omega
    subst this
    refine ⟨h, R, ?_, FY.refl _, cs, fun j hj => ⟨Or.inl, fun e => e.elim id (fun e => by omega)⟩⟩
    have c0 := cs.1
    unfold CO at c0
    rw [H102_77]
    simp only [S102, gFs, pFs, okq, bls, bo_true, eUp_at, eUp_eUp, eKls, cl_some, Option.toList_some, Option.toList_none, List.cons_append, List.nil_append, c0]
    rw [if_pos (nI_le (Nat.le_refl _) (by omega))]
  | succ r ih =>
    intro m h R hm cs ar
    have hmM : m < M := by omega
    obtain ⟨c1, c2, c3, c4, c5, c6, c7⟩ := id cs
    have c0 := c1
    unfold CO at c0
    have sg3 := sgn_cases (dot (q m) v)
    have hd : (R m || decide (dot (q m) v ≠ 0)) = true ↔ R m = true ∨ dot (q m) v ≠ 0 := by rw [Bool.or_eq_true, decide_eq_true_iff]
    obtain ⟨e2, w2, w3⟩ := c7.set (show m < 14 by omega) (R m || decide (dot (q m) v ≠ 0)) (α := eR)
    obtain ⟨h2, hh2⟩ : ∃ h2, h2 = eUp h 83 e2 := ⟨_, rfl⟩
    have n2 : ∀ i, i ≠ 83 → h2.1 i = h.1 i := fun i hi => by rw [hh2]; exact eUp_ne hi
    obtain ⟨g1, g2, g3⟩ := cs.tr (h' := h2) (fun i hi => n2 i (by omega))
    have cs2 : CS h2 M q (fun j => if j = m then (R m || decide (dot (q m) v ≠ 0)) else R j) := ⟨g1, g2, g3, c4.keep (n2 _ (by decide)) (n2 _ (by decide)), c5.keep (n2 _ (by decide)) (n2 _ (by decide)), c6.keep (n2 _ (by decide)), w3 h2 (by rw [hh2]; exact eUp_at ..)⟩
    obtain ⟨h3, R3, e3, f3, cs3, r3⟩ := ih (m + 1) h2 _ (by omega) cs2 (ar.keep (n2 _ (by decide)))
    have fy : FY h h2 := by rw [hh2]; exact FY.up (by decide)
    refine ⟨h3, R3, ?_, fy.trans f3, cs3, fun j hj => ?_⟩
    · rw [← e3]
      have i0 : (0 : Int32) = iI 0 := by decide
      have oks : iok ((dot (q m) v).sign) := by
        rcases sgn3 (dot (q m) v) with s | s | s <;> rw [s] <;> unfold iok <;> decide
      have l2 : iI (dot (q m) v).sign = 0 ↔ (dot (q m) v).sign = 0 := by rw [i0]; exact iI_eq oks iok_0
      rw [H102_77]
      simp only [S102, gFs, pFs, okq, bls, bo_true, eUp_at, eUp_eUp, eKls, cl_some, Option.toList_some, Option.toList_none, List.cons_append, List.nil_append, c0]
      rw [if_neg (nI_ge hmM (by omega))]
      simp only [S102, gFs, pFs, okq, bls, bo_true, eUp_at, eUp_eUp, eKls, cl_some, Option.toList_some, Option.toList_none, List.cons_append, List.nil_append, c0, c7.get hmM hM, ar.get hmM hM (by decide)]
      cases hR : R m with
      | true =>
        rw [hR, Bool.true_or] at w2
        rw [if_neg (show ¬ ldI true = 0 by decide)]
        have w2' := w2
        rw [show ldI true = nI 1 from rfl] at w2'
        rw [w2', ← hh2, nI_1]
      | false =>
        rw [hR, Bool.false_or] at w2
        rw [if_pos (show ldI false = 0 by decide)]
        rcases sg3 with ⟨z0, z1⟩ | ⟨z0, z1⟩ | ⟨z0, z1⟩
        · rw [decide_eq_false (fun e => e z0), show ldI false = nI 0 from rfl] at w2
          rw [if_pos (l2.mpr z1), w2, ← hh2, nI_1]
        · rw [decide_eq_true (show dot (q m) v ≠ 0 by omega), show ldI true = nI 1 from rfl] at w2
          rw [if_neg (fun e => by have := l2.mp e; omega), w2, ← hh2, nI_1]
        · rw [decide_eq_true (show dot (q m) v ≠ 0 by omega), show ldI true = nI 1 from rfl] at w2
          rw [if_neg (fun e => by have := l2.mp e; omega), w2, ← hh2, nI_1]
    · rw [r3 j hj]
      by_cases qj : j = m
      · rw [qj, if_pos rfl, hd]
        constructor
        · rintro ((a | a) | a)
          · exact Or.inl a
          · exact Or.inr ⟨Nat.le_refl _, a⟩
          · omega
        · rintro (a | a)
          · exact Or.inl (Or.inl a)
          · exact Or.inl (Or.inr a.2)
      · rw [if_neg qj]
        constructor
        · rintro (a | a)
          · exact Or.inl a
          · exact Or.inr ⟨by omega, a.2⟩
        · rintro (a | a)
          · exact Or.inl a
          · exact Or.inr ⟨by omega, a.2⟩
theorem n0t_iff (v : Nat → Int) : n0t v = true ↔ v 0 = 0 ∧ v 1 = 0 ∧ v 2 = 0 := by
  unfold n0t
  rw [Bool.and_eq_true, Bool.and_eq_true, decide_eq_true_iff, decide_eq_true_iff, decide_eq_true_iff, and_assoc]
theorem d102 {u Nu : Nat} {v : Nat → Int} (hM : M ≤ 14) (hu : 81 < u ∨ u = 62 ∨ u = 70) (hu2 : u ≠ 82 ∧ u ≠ 83 ∧ u ≠ 75) (hNu : Nu ≤ 36) (hq : ∀ m, m < M → ∀ i, i < 3 → (q m i).natAbs < BB ^ 5) (hv : ∀ i, i < 3 → (v i).natAbs < BB ^ 18) (cs : CS h M q R) (xt : TR h u Nu v) : ∃ h' R', den 102 [.ref 60, .ref u] h = some (none, h') ∧ FY h h' ∧ CS h' M q R' ∧ ∀ j, j < M → (R' j = true ↔ R j = true ∨ (OS q v M ∧ dot (q j) v ≠ 0)) := by
  have e1 := d93 xt (by omega)
  have co := cs.1
  rw [E102 60 _ co]
  simp only [S102, gFs, pFs, okq, bls, bo_true, eUp_at, eUp_eUp, eKls, cl_some, Option.toList_some, Option.toList_none, List.cons_append, List.nil_append, e1]
  cases hn : n0t v with
  | true =>
    obtain ⟨v0, v1, v2⟩ := (n0t_iff v).mp hn
    rw [if_neg (show ¬ ldI true = 0 by decide)]
    refine ⟨h, R, rfl, FY.refl _, cs, fun j hj => ⟨Or.inl, fun e => e.elim id (fun e => ?_)⟩⟩
    refine absurd ?_ e.2
    unfold dot
    rw [v0, v1, v2, Int.mul_zero, Int.mul_zero, Int.mul_zero]
    rfl
  | false =>
    rw [if_pos (show ldI false = 0 by decide)]
    obtain ⟨f0, y0, -⟩ := cs.2.2.2.2.2.1
    rcases d102_loop hM hu hu2 hNu hq hv M 0 0 h (by omega) cs xt ⟨f0, y0, fun j hj => absurd hj (Nat.not_lt_zero _)⟩ (Or.inl ⟨rfl, fun j hj => absurd hj (Nat.not_lt_zero _)⟩) with ⟨h2, e2, f2, cs2, no⟩ | ⟨h2, sd2, e2, f2, cs2, ar2, os⟩
    · exact ⟨h2, R, e2, f2, cs2, fun j hj => ⟨Or.inl, fun e => e.elim id (fun e => absurd e.1 no)⟩⟩
    · obtain ⟨h3, R3, e3, f3, cs3, r3⟩ := d102_mark (u := u) (sd := iI sd2) hM M 0 h2 R (by omega) cs2 ar2
      exact ⟨h3, R3, e2.trans e3, f2.trans f3, cs3, fun j hj => (r3 j hj).trans ⟨fun e => e.elim Or.inl (fun e => Or.inr ⟨os, e.2⟩), fun e => e.elim Or.inl (fun e => Or.inr ⟨Nat.zero_le _, e.2⟩)⟩⟩
end CN
