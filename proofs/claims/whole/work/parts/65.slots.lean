/-! SLOTS: purely: the size of each, its width, its numbers -/
abbrev ST : Type := (Nat → Option Nat) × (Nat → Nat) × (Nat → Nat → Int64)
def szo (st : ST) (s : Nat) : Nat := (st.1 s).getD 0
def SV (st : ST) : Prop := ∀ s, s < 8 → st.2.1 s < 4 ∧ ∀ k, st.1 s = some k → k ≤ 60
def SLA (h : eH) (st : ST) : Prop := (∃ g, h.1 2 = .inl (6, 8, .inr (.inr (.inr (.inr g)))) ∧ ∀ s, s < 8 → g s = some (3 + s)) ∧ (∀ s, s < 8 → ∃ f, h.1 (3 + s) = .inl (1, 60, .inr (.inl f)) ∧ ∀ i, i < szo st s → f i = st.2.2 s i) ∧ AR h 11 8 8 (fun s => nI (st.2.1 s)) ∧ AR h 12 8 8 (fun s => roI (st.1 s))
def SLO (h : eH) (st : ST) (op tt : Nat) (rf : Int) : Prop := h.1 1 = .inr (7, [.ref 2, .ref 11, .ref 12, .int (nI op), .int (nI tt), .int (iI rf)]) ∧ SLA h st
theorem SLA.keep {h h' : eH} {st : ST} (x : SLA h st) (e : ∀ i, 2 ≤ i → i ≤ 12 → h'.1 i = h.1 i) : SLA h' st := by
  obtain ⟨⟨g, x1, x2⟩, x3, x4, x5⟩ := x
  refine ⟨⟨g, (e _ (by omega) (by omega)).trans x1, x2⟩, fun s hs => ?_, x4.keep (e _ (by omega) (by omega)), x5.keep (e _ (by omega) (by omega))⟩
  obtain ⟨f, y1, y2⟩ := x3 s hs
  exact ⟨f, (e _ (by omega) (by omega)).trans y1, y2⟩
theorem SLO.keep {h h' : eH} {st : ST} {op tt : Nat} {rf : Int} (x : SLO h st op tt rf) (e : ∀ i, 1 ≤ i → i ≤ 12 → h'.1 i = h.1 i) : SLO h' st op tt rf := ⟨(e _ (by omega) (by omega)).trans x.1, x.2.keep (fun i i1 i2 => e i (by omega) i2)⟩
theorem SLA.row {h : eH} {st : ST} {s : Nat} (x : SLA h st) (hs : s < 8) {α : Type} : ∀ F : Nat → Option α, aQ (h.1 2) (nI s) F = F (3 + s) := by
  intro F
  obtain ⟨⟨g, x1, x2⟩, -⟩ := x
  rw [x1, aQ_nI (by decide) (by decide) hs (by decide) (x2 s hs)]
theorem SLA.num {h : eH} {st : ST} {s i : Nat} (x : SLA h st) (hs : s < 8) (hi : i < szo st s) (h60 : szo st s ≤ 60) {α : Type} : ∀ F : Int64 → Option α, aL (h.1 (3 + s)) (nI i) F = F (st.2.2 s i) := by
  intro F
  obtain ⟨-, x3, -⟩ := x
  obtain ⟨f, y1, y2⟩ := x3 s hs
  rw [y1, aL_nI (by omega) (by decide), y2 i hi]
theorem szo_le {st : ST} (sv : SV st) {s : Nat} (hs : s < 8) : szo st s ≤ 60 := by
  unfold szo
  cases hq : st.1 s with
  | none => exact Nat.zero_le _
  | some k => exact (sv s hs).2 k hq
theorem roI_lt {st : ST} (sv : SV st) {s : Nat} (hs : s < 8) : ∀ r, st.1 s = some r → r < 2 ^ 31 := fun r hr => by have := (sv s hs).2 r hr; omega
section SL
variable {h : eH} {st : ST} {op tt : Nat} {rf : Int}
theorem d134 {s : Nat} (o : SLO h st op tt rf) (sv : SV st) (hs : s < 8) : den 134 [.ref 1, .int (nI s)] h = some (some (.int (ldI (st.1 s).isSome)), h) := by
  obtain ⟨o1, -, -, -, o5⟩ := o
  rw [E134 1 _ o1]
  simp only [S134, gFs, pFs, okq, bls, bo_true, eUp_at, eUp_eUp, eKls, cl_some, Option.toList_some, Option.toList_none, List.cons_append, List.nil_append, o1, o5.get hs (Nat.le_refl _) (by decide)]
  have hm := roI_m1 (roI_lt sv hs)
  cases hq : st.1 s with
  | none => rw [if_pos (show roI none = -1 from rfl)]; rfl
  | some k =>
    rw [hq] at hm
    rw [if_neg (fun e => by have := hm.mp e; cases this)]
    rfl
def cntF (st : ST) : Nat → Nat
  | 0 => 0
  | s + 1 => cntF st s + (if (st.1 s).isSome = true then 1 else 0)
theorem d135_loop (o : SLO h st op tt rf) (sv : SV st) : ∀ r s, s + r = 8 → ru 135 4 [some (.ref 1), some (.int (nI (cntF st s))), some (.int (nI s))] [] h = some (some (.int (nI (cntF st 8))), h) := by
  intro r
  induction r with
  | zero =>
    intro s hs
    have : s = 8 := by omega
    subst this
    rw [H135_4]
    simp only [S135, gFs, pFs, okq, bls, bo_true, eUp_at, eUp_eUp, eKls, cl_some, Option.toList_some, Option.toList_none, List.cons_append, List.nil_append]
    rw [if_pos (by decide), H135_32]
    simp only [S135, gFs, pFs, okq, bls, bo_true, eUp_at, eUp_eUp, eKls, cl_some, Option.toList_some, Option.toList_none, List.cons_append, List.nil_append]
  | succ r ih =>
    intro s hs
    have e1 := d134 o sv (show s < 8 by omega)
    rw [H135_4]
    simp only [S135, gFs, pFs, okq, bls, bo_true, eUp_at, eUp_eUp, eKls, cl_some, Option.toList_some, Option.toList_none, List.cons_append, List.nil_append]
    rw [if_neg (nI_ge (by omega) (by decide))]
    simp only [S135, gFs, pFs, okq, bls, bo_true, eUp_at, eUp_eUp, eKls, cl_some, Option.toList_some, Option.toList_none, List.cons_append, List.nil_append, e1]
    have h2 := ih (s + 1) (by omega)
    rw [show cntF st (s + 1) = cntF st s + (if (st.1 s).isSome = true then 1 else 0) from rfl] at h2
    cases hq : (st.1 s).isSome with
    | true =>
      rw [hq, if_pos rfl] at h2
      rw [if_neg (show ¬ ldI true = 0 by decide), nI_add, nI_1]
      exact h2
    | false =>
      rw [hq, if_neg (by decide)] at h2
      rw [if_pos (show ldI false = 0 by decide), nI_add, nI_1]
      exact h2
theorem d135 (o : SLO h st op tt rf) (sv : SV st) : den 135 [.ref 1] h = some (some (.int (nI (cntF st 8))), h) := by
  rw [E135 1 o.1]
  simp only [S135, gFs, pFs, okq, bls, bo_true, eUp_at, eUp_eUp, eKls, cl_some, Option.toList_some, Option.toList_none, List.cons_append, List.nil_append]
  exact d135_loop o sv 8 0 (by omega)
/-- only the slots' own fields change -/
def F1 (h h' : eH) : Prop := h'.2 = h.2 ∧ ∀ i, i ≠ 1 → h'.1 i = h.1 i
theorem d162 {s : Nat} (o : SLO h st op tt rf) : ∃ h', den 162 [.ref 1, .int (nI s)] h = some (none, h') ∧ F1 h h' ∧ SLO h' st s 0 0 := by
  have o1 := o.1
  refine ⟨eUp h 1 (.inr (7, [.ref 2, .ref 11, .ref 12, .int (nI s), .int (nI 0), .int (nI 0)])), ?_, ⟨rfl, fun i hi => eUp_ne hi⟩, eUp_at .., o.2.keep (fun i i1 i2 => eUp_ne (by omega))⟩
  rw [E162 1 _ o1]
  simp only [S162, gFs, pFs, okq, bls, bo_true, eUp_at, eUp_eUp, eKls, cl_some, Option.toList_some, Option.toList_none, List.cons_append, List.nil_append, o1]
/-- the next number that is read -/
def nx (sz : Nat) (num : Nat → Int64) (lo hi : Int) (t : Nat × Int) : Int × Nat × Int := if t.2 ≠ 0 then (lo, t) else if sz ≤ t.1 then (lo, t.1, -6) else if (num t.1).toInt < lo ∨ hi < (num t.1).toInt then (lo, t.1 + 1, -4) else ((num t.1).toInt, t.1 + 1, 0)
theorem nx_bd {sz : Nat} {num : Nat → Int64} {lo hi : Int} {t : Nat × Int} (h : lo ≤ hi) : lo ≤ (nx sz num lo hi t).1 ∧ (nx sz num lo hi t).1 ≤ hi := by
  unfold nx
  split
  · exact ⟨Int.le_refl _, h⟩
  · split
    · exact ⟨Int.le_refl _, h⟩
    · split
      · exact ⟨Int.le_refl _, h⟩
      · dsimp only
        omega
theorem nx_at {sz : Nat} {num : Nat → Int64} {lo hi : Int} {t : Nat × Int} (h : t.1 ≤ sz) : (nx sz num lo hi t).2.1 ≤ sz := by
  unfold nx
  split
  · exact h
  · split
    · exact h
    · split
      · show t.1 + 1 ≤ sz
        omega
      · show t.1 + 1 ≤ sz
        omega
def rfo (z : Int) : Prop := z = 0 ∨ z = -4 ∨ z = -6
theorem nx_rf {sz : Nat} {num : Nat → Int64} {lo hi : Int} {t : Nat × Int} (h : rfo t.2) : rfo (nx sz num lo hi t).2.2 := by
  unfold nx
  split
  · exact h
  · split
    · exact Or.inr (Or.inr rfl)
    · split
      · exact Or.inr (Or.inl rfl)
      · exact Or.inl rfl
theorem rf0 {z : Int} (h : rfo z) : iI z = 0 ↔ z = 0 := by
  rcases h with e | e | e <;> rw [e] <;> decide
theorem d163 {lo hi : Int} {s k : Nat} {t : Nat × Int} (o : SLO h st s t.1 t.2) (sv : SV st) (hs : s < 8) (hk : st.1 s = some k) (ht : t.1 ≤ k) (hr : rfo t.2) (h1 : iok lo) (h2 : iok hi) : ∃ h', den 163 [.ref 1, .int (iI lo), .int (iI hi)] h = some (some (.int (iI (nx k (st.2.2 s) lo hi t).1)), h') ∧ F1 h h' ∧ SLO h' st s (nx k (st.2.2 s) lo hi t).2.1 (nx k (st.2.2 s) lo hi t).2.2 := by
  obtain ⟨o1, o2⟩ := o
  obtain ⟨-, -, o4, o5⟩ := id o2
  have hk60 := (sv s hs).2 k hk
  have hsz : szo st s = k := by unfold szo; rw [hk]; rfl
  have up : ∀ (x y : Nat) (z : Int), F1 h (eUp h 1 (.inr (7, [.ref 2, .ref 11, .ref 12, .int (nI x), .int (nI y), .int (iI z)]))) ∧ SLO (eUp h 1 (.inr (7, [.ref 2, .ref 11, .ref 12, .int (nI x), .int (nI y), .int (iI z)]))) st x y z := fun x y z => ⟨⟨rfl, fun i hi => eUp_ne hi⟩, eUp_at .., o2.keep (fun i i1 i2 => eUp_ne (by omega))⟩
  rw [E163 1 _ _ o1]
  simp only [S163, gFs, pFs, okq, bls, bo_true, eUp_at, eUp_eUp, eKls, cl_some, Option.toList_some, Option.toList_none, List.cons_append, List.nil_append, o1]
  unfold nx
  by_cases q0 : t.2 = 0
  · rw [if_pos ((rf0 hr).mpr q0), if_neg (fun e => e q0)]
    have l5 : ∀ F : Int32 → Option eR, aI (h.1 12) 0 (nI s) F = F (nI k) := fun F => by
      rw [o5.get hs (Nat.le_refl _) (by decide) F, hk]
      rfl
    simp only [l5]
    by_cases q1 : k ≤ t.1
    · rw [if_pos q1, if_neg (nI_nlt q1 (by omega))]
      refine ⟨_, ?_, up s t.1 (-6)⟩
      simp only [S163, gFs, pFs, okq, bls, bo_true, eUp_at, eUp_eUp, eKls, cl_some, Option.toList_some, Option.toList_none, List.cons_append, List.nil_append, o1]
      rw [show (-6 : Int32) = iI (-6) from by decide]
    · rw [if_neg q1, if_pos (nI_lt (by omega) (by omega))]
      simp only [S163, gFs, pFs, okq, bls, bo_true, eUp_at, eUp_eUp, eKls, cl_some, Option.toList_some, Option.toList_none, List.cons_append, List.nil_append, o1, o2.row hs, o2.num hs (by omega : t.1 < szo st s) (by omega), nI_add, iI_l h1, iI_l h2, lg_lt0, lg_le0]
      have c1 : st.2.2 s t.1 < lI lo ↔ (st.2.2 s t.1).toInt < lo := by
        rw [← lI_of (st.2.2 s t.1), lI_lt (lok_of _) (by unfold lok; unfold iok at h1; omega), lI_of]
      have c2 : st.2.2 s t.1 ≤ lI hi ↔ (st.2.2 s t.1).toInt ≤ hi := by
        rw [← lI_of (st.2.2 s t.1), lI_le (lok_of _) (by unfold lok; unfold iok at h2; omega), lI_of]
      have rj : ∃ h', ru 163 72 [some (.ref 1), some (.int (iI lo)), some (.int (iI hi)), some (.long (st.2.2 s t.1)), none] [] (eUp h 1 (.inr (7, [.ref 2, .ref 11, .ref 12, .int (nI s), .int (nI (t.1 + 1)), .int (iI t.2)]))) = some (some (.int (iI lo)), h') ∧ F1 h h' ∧ SLO h' st s (t.1 + 1) (-4) := by
        refine ⟨_, ?_, up s (t.1 + 1) (-4)⟩
        simp only [S163, gFs, pFs, okq, bls, bo_true, eUp_at, eUp_eUp, eKls, cl_some, Option.toList_some, Option.toList_none, List.cons_append, List.nil_append]
        rw [show (-4 : Int32) = iI (-4) from by decide]
      obtain ⟨hb, eb, rb⟩ := rj
      by_cases q2 : (st.2.2 s t.1).toInt < lo
      · rw [if_pos (c1.mpr q2), if_pos (Or.inl q2)]
        refine ⟨hb, ?_, rb⟩
        rw [← eb]
        simp only [S163, gFs, pFs, okq, bls, bo_true, eUp_at, eUp_eUp, eKls, cl_some, Option.toList_some, Option.toList_none, List.cons_append, List.nil_append]
      · rw [if_neg (fun e => q2 (c1.mp e))]
        by_cases q3 : hi < (st.2.2 s t.1).toInt
        · rw [if_neg (fun e => by have := c2.mp e; omega), if_pos (Or.inr q3)]
          refine ⟨hb, ?_, rb⟩
          rw [← eb]
          simp only [S163, gFs, pFs, okq, bls, bo_true, eUp_at, eUp_eUp, eKls, cl_some, Option.toList_some, Option.toList_none, List.cons_append, List.nil_append]
        · rw [if_pos (c2.mpr (by omega)), if_neg (by omega)]
          rw [q0]
          refine ⟨_, ?_, up s (t.1 + 1) 0⟩
          rw [← lI_i (st.2.2 s t.1).toInt, lI_of]
  · rw [if_neg (fun e => q0 ((rf0 hr).mp e)), if_pos q0]
    exact ⟨h, rfl, ⟨rfl, fun _ _ => rfl⟩, o1, o2⟩
def rfs (t : Nat × Int) : Nat × Int := if t.2 = 0 then (t.1, -4) else t
theorem d165 {s : Nat} {t : Nat × Int} (o : SLO h st s t.1 t.2) (hr : rfo t.2) : ∃ h', den 165 [.ref 1] h = some (none, h') ∧ F1 h h' ∧ SLO h' st s (rfs t).1 (rfs t).2 := by
  obtain ⟨o1, o2⟩ := o
  rw [E165 1 o1]
  simp only [S165, gFs, pFs, okq, bls, bo_true, eUp_at, eUp_eUp, eKls, cl_some, Option.toList_some, Option.toList_none, List.cons_append, List.nil_append, o1]
  unfold rfs
  by_cases q0 : t.2 = 0
  · rw [if_pos ((rf0 hr).mpr q0), if_pos q0]
    simp only [S165, gFs, pFs, okq, bls, bo_true, eUp_at, eUp_eUp, eKls, cl_some, Option.toList_some, Option.toList_none, List.cons_append, List.nil_append, o1]
    rw [show (-4 : Int32) = iI (-4) from by decide]
    exact ⟨_, rfl, ⟨rfl, fun i hi => eUp_ne hi⟩, eUp_at .., o2.keep (fun i i1 i2 => eUp_ne (by omega))⟩
  · rw [if_neg (fun e => q0 ((rf0 hr).mp e)), if_neg q0]
    exact ⟨h, rfl, ⟨rfl, fun _ _ => rfl⟩, o1, o2⟩
/-- rows of numbers: make, drop, put -/
def FL (h h' : eH) : Prop := h'.2 = h.2 ∧ ∀ i, ¬ (1 ≤ i ∧ i ≤ 12) → h'.1 i = h.1 i
def stM (st : ST) (s w k : Nat) : ST := (fun j => if j = s then some k else st.1 j, fun j => if j = s then w else st.2.1 j, fun j i => if j = s then 0 else st.2.2 j i)
def stD (st : ST) (s : Nat) : ST := (fun j => if j = s then none else st.1 j, st.2.1, st.2.2)
def stW (st : ST) (s i : Nat) (v : Int64) : ST := (st.1, st.2.1, fun j k => if j = s ∧ k = i then v else st.2.2 j k)
theorem d171 {s w k : Nat} (o : SLO h st op tt rf) (hs : s < 8) (hk : k ≤ 60) : ∃ h', den 171 [.ref 1, .int (nI s), .int (nI w), .int (nI k)] h = some (none, h') ∧ FL h h' ∧ SLO h' (stM st s w k) op tt rf := by
  obtain ⟨o1, o2⟩ := o
  obtain ⟨⟨g, x1, x2⟩, x3, x4, x5⟩ := id o2
  obtain ⟨f, y1, y2⟩ := x3 s hs
  obtain ⟨e4, w4, v4, -⟩ := x4.set hs (by decide) (nI w) (α := eR)
  obtain ⟨e5, w5, v5, -⟩ := x5.set hs (by decide) (nI k) (α := eR)
  have n1 : (1 : Nat) ≠ 3 + s := by omega
  have n11 : (11 : Nat) ≠ 3 + s := by omega
  have n12 : (12 : Nat) ≠ 3 + s := by omega
  obtain ⟨h1, hh1⟩ : ∃ h1, h1 = eUp h (3 + s) (.inl (1, 60, .inr (.inl (fl f 0 0 60)))) := ⟨_, rfl⟩
  have a1 : h1.1 1 = h.1 1 := by rw [hh1]; exact eUp_ne n1
  have a11 : h1.1 11 = h.1 11 := by rw [hh1]; exact eUp_ne n11
  obtain ⟨h2, hh2⟩ : ∃ h2, h2 = eUp h1 11 e4 := ⟨_, rfl⟩
  have b1 : h2.1 1 = h.1 1 := by rw [hh2]; exact (eUp_ne (by decide)).trans a1
  have b12 : h2.1 12 = h.1 12 := by rw [hh2]; exact (eUp_ne (by decide)).trans (by rw [hh1]; exact eUp_ne n12)
  have ed := d2 (v := 0) y1 (by decide)
  rw [← hh1] at ed
  have o11 := a1.trans o1
  have o12 := b1.trans o1
  rw [← a11] at w4
  rw [← b12] at w5
  refine ⟨eUp h2 12 e5, ?_, ⟨by rw [hh2, hh1]; rfl, fun i hi => by rw [hh2, hh1, eUp_ne (by omega), eUp_ne (by omega), eUp_ne (by omega)]⟩, ?_, ⟨g, ?_, x2⟩, fun j hj => ?_, ?_, ?_⟩
  · rw [E171 1 _ _ _ o1]
    simp only [S171, gFs, pFs, okq, bls, bo_true, eUp_at, eUp_eUp, eKls, cl_some, Option.toList_some, Option.toList_none, List.cons_append, List.nil_append, o1, o2.row hs]
    rw [show lN 0 = (0 : Int64) from rfl, ed]
    simp only [S171, gFs, pFs, okq, bls, bo_true, eUp_at, eUp_eUp, eKls, cl_some, Option.toList_some, Option.toList_none, List.cons_append, List.nil_append, o11, w4]
    rw [← hh2]
    simp only [S171, gFs, pFs, okq, bls, bo_true, eUp_at, eUp_eUp, eKls, cl_some, Option.toList_some, Option.toList_none, List.cons_append, List.nil_append, o12, w5]
  · exact (eUp_ne (by decide)).trans o12
  · rw [eUp_ne (by decide), hh2, eUp_ne (by decide), hh1, eUp_ne (by omega)]
    exact x1
  · obtain ⟨fj, z1, z2⟩ := x3 j hj
    by_cases q : j = s
    · subst q
      refine ⟨fl f 0 0 60, ?_, fun i hi => ?_⟩
      · rw [eUp_ne (by omega), hh2, eUp_ne (by omega), hh1, eUp_at]
      · have hsz : szo (stM st j w k) j = k := by unfold szo stM; dsimp only; rw [if_pos rfl]; rfl
        rw [hsz] at hi
        unfold fl stM
        dsimp only
        rw [if_pos rfl, if_pos ⟨Nat.zero_le _, by omega⟩]
    · refine ⟨fj, ?_, fun i hi => ?_⟩
      · rw [eUp_ne (by omega), hh2, eUp_ne (by omega), hh1, eUp_ne (by omega)]
        exact z1
      · have hsz : szo (stM st s w k) j = szo st j := by unfold szo stM; dsimp only; rw [if_neg q]
        rw [hsz] at hi
        unfold stM
        dsimp only
        rw [if_neg q]
        exact z2 i hi
  · obtain ⟨f4, p1, p2⟩ := v4 h2 (by rw [hh2]; exact eUp_at ..)
    refine ⟨f4, (eUp_ne (by decide)).trans p1, fun j hj => (p2 j hj).trans ?_⟩
    unfold stM
    dsimp only
    split <;> rfl
  · obtain ⟨f4, p1, p2⟩ := v5 (eUp h2 12 e5) (eUp_at ..)
    refine ⟨f4, p1, fun j hj => (p2 j hj).trans ?_⟩
    unfold stM
    dsimp only
    split <;> rfl
theorem d181 {s : Nat} (o : SLO h st op tt rf) (hs : s < 8) : ∃ h', den 181 [.ref 1, .int (nI s)] h = some (none, h') ∧ FL h h' ∧ SLO h' (stD st s) op tt rf := by
  obtain ⟨o1, o2⟩ := o
  obtain ⟨x1, x3, x4, x5⟩ := id o2
  obtain ⟨e5, w5, v5, -⟩ := x5.set hs (by decide) (-1) (α := eR)
  refine ⟨eUp h 12 e5, ?_, ⟨rfl, fun i hi => eUp_ne (by omega)⟩, (eUp_ne (by decide)).trans o1, ?_, fun j hj => ?_, x4.keep (eUp_ne (by decide)), ?_⟩
  · rw [E181 1 _ o1]
    simp only [S181, gFs, pFs, okq, bls, bo_true, eUp_at, eUp_eUp, eKls, cl_some, Option.toList_some, Option.toList_none, List.cons_append, List.nil_append, o1, w5]
  · obtain ⟨g, y1, y2⟩ := x1
    exact ⟨g, (eUp_ne (by decide)).trans y1, y2⟩
  · obtain ⟨fj, z1, z2⟩ := x3 j hj
    refine ⟨fj, (eUp_ne (by omega)).trans z1, fun i hi => z2 i ?_⟩
    unfold szo stD at hi
    dsimp only at hi
    by_cases q : j = s
    · rw [if_pos q] at hi
      exact absurd hi (Nat.not_lt_zero _)
    · rw [if_neg q] at hi
      exact hi
  · obtain ⟨f4, p1, p2⟩ := v5 (eUp h 12 e5) (eUp_at ..)
    refine ⟨f4, p1, fun j hj => (p2 j hj).trans ?_⟩
    unfold stD
    dsimp only
    split <;> rfl
def cut (v : Int64) (w : Nat) : Int64 := if w = 0 then v.toInt32.toInt8.toInt32.toInt64 else if w = 1 then v.toInt32.toInt16.toInt32.toInt64 else if w = 2 then v.toInt32.toInt64 else v
theorem d189 {v : Int64} {w : Nat} (hw : w < 4) : den 189 [.long v, .int (nI w)] h = some (some (.long (cut v w)), h) := by
  rw [E189]
  simp only [S189, gFs, pFs, okq, bls, bo_true, eUp_at, eUp_eUp, eKls, cl_some, Option.toList_some, Option.toList_none, List.cons_append, List.nil_append]
  unfold cut
  rcases (by omega : w = 0 ∨ w = 1 ∨ w = 2 ∨ w = 3) with e | e | e | e
  · subst e
    rw [if_pos rfl, show eSw 1 (nI 0) 41 0 2 #[27, 32, 37] = some 28 from by decide, swF_at (z := 28) (k := 28) rfl]
    simp only [S189, gFs, pFs, okq, bls, bo_true, eUp_at, eUp_eUp, eKls, cl_some, Option.toList_some, Option.toList_none, List.cons_append, List.nil_append]
  · subst e
    rw [if_neg (by decide), if_pos rfl, show eSw 1 (nI 1) 41 0 2 #[27, 32, 37] = some 33 from by decide, swF_at (z := 33) (k := 33) rfl]
    simp only [S189, gFs, pFs, okq, bls, bo_true, eUp_at, eUp_eUp, eKls, cl_some, Option.toList_some, Option.toList_none, List.cons_append, List.nil_append]
  · subst e
    rw [if_neg (by decide), if_neg (by decide), if_pos rfl, show eSw 1 (nI 2) 41 0 2 #[27, 32, 37] = some 38 from by decide, swF_at (z := 38) (k := 38) rfl]
    simp only [S189, gFs, pFs, okq, bls, bo_true, eUp_at, eUp_eUp, eKls, cl_some, Option.toList_some, Option.toList_none, List.cons_append, List.nil_append]
  · subst e
    rw [if_neg (by decide), if_neg (by decide), if_neg (by decide), show eSw 1 (nI 3) 41 0 2 #[27, 32, 37] = some 42 from by decide, swF_at (z := 42) (k := 42) rfl]
    simp only [S189, gFs, pFs, okq, bls, bo_true, eUp_at, eUp_eUp, eKls, cl_some, Option.toList_some, Option.toList_none, List.cons_append, List.nil_append]
theorem d190 {s k : Nat} {i : Int} {v : Int64} (o : SLO h st op tt rf) (sv : SV st) (hs : s < 8) (hk : st.1 s = some k) (hi : iok i) : if 0 ≤ i ∧ i < k then (∃ h', den 190 [.ref 1, .int (nI s), .int (iI i), .long v] h = some (some (.int (nI 1)), h') ∧ FL h h' ∧ SLO h' (stW st s i.toNat (cut v (st.2.1 s))) op tt rf) else den 190 [.ref 1, .int (nI s), .int (iI i), .long v] h = some (some (.int (nI 0)), h) := by
  obtain ⟨o1, o2⟩ := o
  obtain ⟨x1, x3, x4, x5⟩ := id o2
  have hk60 := (sv s hs).2 k hk
  have hsz : szo st s = k := by unfold szo; rw [hk]; rfl
  have l5 : ∀ F : Int32 → Option eR, aI (h.1 12) 0 (nI s) F = F (nI k) := fun F => by
    rw [x5.get hs (Nat.le_refl _) (by decide) F, hk]
    rfl
  have l0 : iI i < 0 ↔ i < 0 := by rw [show (0 : Int32) = iI 0 from by decide]; exact iI_lt hi iok_0
  have l1 : iI i < nI k ↔ i < k := by rw [nI_I]; exact iI_lt hi (iok_nI (by omega))
  rw [E190 1 _ _ _ o1]
  simp only [S190, gFs, pFs, okq, bls, bo_true, eUp_at, eUp_eUp, eKls, cl_some, Option.toList_some, Option.toList_none, List.cons_append, List.nil_append, o1, l5]
  by_cases q0 : i < 0
  · rw [if_pos (l0.mpr q0), if_neg (by omega)]
  · rw [if_neg (fun e => q0 (l0.mp e))]
    by_cases q1 : i < k
    · rw [if_pos (l1.mpr q1), if_pos (by omega)]
      obtain ⟨m, hm⟩ : ∃ m : Nat, i = m := ⟨i.toNat, by omega⟩
      subst hm
      rw [Int.toNat_natCast]
      obtain ⟨f, y1, y2⟩ := x3 s hs
      simp only [S190, gFs, pFs, okq, bls, bo_true, eUp_at, eUp_eUp, eKls, cl_some, Option.toList_some, Option.toList_none, List.cons_append, List.nil_append, o1, o2.row hs, x4.get hs (Nat.le_refl _) (by decide), d189 (h := h) (v := v) (sv s hs).1, y1]
      rw [show iI (m : Int) = nI m from rfl, wL_nI (by omega) (by decide)]
      refine ⟨_, rfl, ⟨rfl, fun j hj => eUp_ne (by omega)⟩, (eUp_ne (by omega)).trans o1, ?_, fun j hj => ?_, x4.keep (eUp_ne (by omega)), x5.keep (eUp_ne (by omega))⟩
      · obtain ⟨g, z1, z2⟩ := x1
        exact ⟨g, (eUp_ne (by omega)).trans z1, z2⟩
      · obtain ⟨fj, z1, z2⟩ := x3 j hj
        by_cases q : j = s
        · subst q
          refine ⟨_, eUp_at .., fun t ht => ?_⟩
          unfold vp_updL stW
          dsimp only
          by_cases qt : t = m
          · rw [if_pos qt, if_pos ⟨rfl, qt⟩]
          · rw [if_neg qt, if_neg (fun e => qt e.2)]
            exact y2 t ht
        · refine ⟨fj, (eUp_ne (by omega)).trans z1, fun t ht => ?_⟩
          unfold stW
          dsimp only
          rw [if_neg (fun e => q e.1)]
          exact z2 t ht
    · rw [if_neg (fun e => q1 (l1.mp e)), if_neg (by omega)]
end SL
