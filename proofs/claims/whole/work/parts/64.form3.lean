/-! FORM: isAboveNought, whole -/
def LB (rows cols : Nat) (s : RS) (c : Nat) : Prop := ∀ f, fr s.1 c (rows - s.2.1) s.2.1 = some f → s.2.1 + 1 = rows ∧ ∀ r c', r < s.2.1 → c' < cols → nd (s.1 f c * sw s.1 f s.2.1 r c').natAbs ≤ 36 ∧ nd (sw s.1 f s.2.1 r c * sw s.1 f s.2.1 s.2.1 c').natAbs ≤ 36 ∧ (s.1 f c * sw s.1 f s.2.1 r c' - sw s.1 f s.2.1 r c * sw s.1 f s.2.1 s.2.1 c').natAbs < BB ^ 35
/-- a grid, whatever stands in it -/
def GX (h : eH) (g H W C : Nat) : Prop := (∃ rows unk cols rank ld, GO h g H W C rows unk cols rank ld) ∧ (∃ P Z, GA h g H W C P Z) ∧ WX h (g + 1) 36 ∧ ∃ f, h.1 (g + 5) = .inl (0, W, .inl f)
theorem GX.keep {h h' : eH} {g H W C : Nat} (x : GX h g H W C) (e : ∀ i, g ≤ i → i ≤ g + 5 → h'.1 i = h.1 i) : GX h' g H W C := by
  obtain ⟨⟨rows, unk, cols, rank, ld, o⟩, ⟨P, Z, ga⟩, w, f, r⟩ := x
  exact ⟨⟨rows, unk, cols, rank, ld, o.k (e _ (by omega) (by omega))⟩, ⟨P, Z, (e _ (by omega) (by omega)).trans ga.1, (e _ (by omega) (by omega)).trans ga.2⟩, w.keep (e _ (by omega) (by omega)) (e _ (by omega) (by omega)), f, (e _ (by omega) (by omega)).trans r⟩
theorem KG.x {h : eH} {g H W C rows unk cols : Nat} {s : RS} (k : KG h g H W C rows unk cols s) : GX h g H W C := by
  obtain ⟨o, w, ⟨P, Z, ga, -⟩, f, r, -⟩ := k
  exact ⟨⟨_, _, _, _, _, o⟩, ⟨P, Z, ga⟩, w.x, f, r⟩
theorem RI.kg {h : eH} {g H W C rows unk cols : Nat} {s : RS} (r : RI h g H W C rows unk cols unk s) : KG h g H W C rows unk cols s := ⟨r.2.2.1, r.2.2.2.1, r.2.2.2.2.1, r.2.2.2.2.2⟩
section FO3
variable {h : eH} {a g H W C rows unk cols rank : Nat} {ld : Int32} {n : NT} {s : RS}
theorem d122y {M : Nat → Nat → Int} (b : GB H W C rows cols) (hg : 42 ≤ g) (hu : unk ≤ cols) (dk : DK h) (w30 : WX h 30 36) (o : GO h g H W C rows unk cols rank ld) (wb : WX h (g + 1) 36) (gc : GC h g H W C rows cols (fun _ _ => True) M) (ro : ∃ f, h.1 (g + 5) = .inl (0, W, .inl f)) (hs : ∀ j, j < unk → SB C rows cols (red rows M j) j ∨ (j + 1 = unk ∧ LB rows cols (red rows M j) j)) : ∃ h', den 122 [.ref g] h = some (none, h') ∧ FR g h h' ∧ DK h' ∧ WX h' 30 36 ∧ GX h' g H W C ∧ ∃ rank', GO h' g H W C rows unk cols rank' (ldI (red rows M unk).2.2.2.2) := by
  obtain ⟨b1, b2, b3, b4, b5, b6⟩ := id b
  obtain ⟨h1, e1, f1, ri1⟩ := d122_enter hg dk w30 o wb gc ro
  cases unk with
  | zero => exact ⟨h1, e1.trans (d122_exit ri1.2.2.1 (by decide)), f1, ri1.1, ri1.2.1, (RI.kg ri1).x, _, ri1.2.2.1⟩
  | succ u =>
    obtain ⟨h2, x2, x3, e2, q2, q3, f2, ri2⟩ := d122_iter b hg hu u 0 h1 none none (by omega) rfl rfl ri1 (fun j j1 j2 => by
      rcases hs j (by omega) with q | q
      · exact q
      · omega)
    rw [Nat.zero_add] at e2 ri2
    have exact' : SB C rows cols (red rows M u) u → ∃ h', den 122 [.ref g] h = some (none, h') ∧ FR g h h' ∧ DK h' ∧ WX h' 30 36 ∧ GX h' g H W C ∧ ∃ rank', GO h' g H W C rows (u + 1) cols rank' (ldI (red rows M (u + 1)).2.2.2.2) := by
      intro q
      obtain ⟨h3, y2, y3, e3, -, -, f3, ri3⟩ := d122_step q2 q3 b hg ri2 hu (by omega) (red_rank rows M u).1 q
      exact ⟨h3, e1.trans (e2.trans (e3.trans (d122_exit ri3.2.2.1 (by omega)))), f1.trans (f2.trans f3), ri3.1, ri3.2.1, (RI.kg ri3).x, _, ri3.2.2.1⟩
    rcases hs u (by omega) with q | ⟨-, q⟩
    · exact exact' q
    · cases hf : fr (red rows M u).1 u (rows - (red rows M u).2.1) (red rows M u).2.1 with
      | none => exact exact' (fun f hf' => by rw [hf] at hf'; cases hf')
      | some f =>
        obtain ⟨z1, z2⟩ := q f hf
        obtain ⟨h3, e3, f3, dk3, w3, o3, wb3, ga3, ro3⟩ := d122_last q2 q3 b hg ri2 hu rfl z1 hf z2
        exact ⟨h3, e1.trans (e2.trans e3), f1.trans (f2.trans f3), dk3, w3, ⟨⟨_, _, _, _, _, o3⟩, ga3, wb3, ro3⟩, _, o3⟩
/-- Form's numbers and table, whatever stands in them -/
def FX (h : eH) : Prop := FOX h ∧ WX h 197 36 ∧ WX h 205 36 ∧ GX h 207 3 3 24
theorem d177 {w : Nat} (hv : NV n) (b : GB H W C rows cols) (hu : unk ≤ cols) (hro : ∀ c r, s.2.2.2.1 c = some r → r < rows) (hbo : nd s.2.2.1.natAbs ≤ 36) (hg : g + 5 < 60) (hg2 : 42 ≤ g) (ha : 213 ≤ a) (hf : ∀ i c, (ffr s unk i c).natAbs < BB ^ 5) (hrk : s.2.1 ≤ unk) (hwe : w = unk - s.2.1) (hw : w ≤ 3) (no : NO h a n) (k : KG h g H W C rows unk cols s) (dk : DK h) (w30 : WX h 30 36) (fx : FX h) (hs : ∀ j, j < w → SB 24 w w (red w (fun r c => frm n s unk r c (nM n)) j) j ∨ (j + 1 = w ∧ LB w w (red w (fun r c => frm n s unk r c (nM n)) j) j)) : ∃ h', den 177 [.ref 196, .ref a, .ref g] h = some (some (.int (ldI (red w (fun r c => frm n s unk r c (nM n)) w).2.2.2.2)), h') ∧ (h'.2 = h.2 ∧ ∀ i, ¬ (22 ≤ i ∧ i ≤ 25) → ¬ (30 ≤ i ∧ i ≤ 41) → ¬ (197 ≤ i ∧ i ≤ 212) → h'.1 i = h.1 i) ∧ DK h' ∧ WX h' 30 36 ∧ FX h' := by
  have gb : GB 3 3 24 w w := ⟨hw, hw, by decide, by decide, by decide, by decide⟩
  obtain ⟨b1, b2, b3, b4, b5, b6⟩ := id b
  obtain ⟨fo, w197, w205, ⟨r0, u0, c0, k0, l0, go⟩, ⟨P, Z, ga⟩, w208, f5, r5⟩ := fx
  have e0 := d132 k.1 hrk
  rw [← hwe] at e0
  obtain ⟨h1, e1, fb1, go1, gc1⟩ := d106 (rc := w) (uc := w) (s := 0) go ga gb
  have n1 : ∀ i, i ≠ 207 → i ≠ 211 → h1.1 i = h.1 i := fb1.2
  have no1 := no.keep (h' := h1) (fun j j1 j2 => n1 j (by omega) (by omega))
  have kg1 := k.keep (h' := h1) (fun j j1 j2 => n1 j (by omega) (by omega))
  obtain ⟨y0, y1, y2, y3⟩ := id fo
  have fo1 : FOX h1 := ⟨(n1 _ (by decide) (by decide)).trans y0, y1.keep (n1 _ (by decide) (by decide)) (n1 _ (by decide) (by decide)), y2.keep (n1 _ (by decide) (by decide)) (n1 _ (by decide) (by decide)), y3.keep (n1 _ (by decide) (by decide)) (n1 _ (by decide) (by decide))⟩
  obtain ⟨h2, x5, e2, f2, fs2⟩ := d177_i (w := w) hv b hu hro hbo hg ha hf hw w 0 h1 none (by omega) rfl no1 kg1 ⟨fo1, w197.keep (n1 _ (by decide) (by decide)) (n1 _ (by decide) (by decide)), w205.keep (n1 _ (by decide) (by decide)) (n1 _ (by decide) (by decide)), go1, gc1.mono (fun r c _ _ _ => ⟨trivial, by unfold pe; rw [if_neg (by omega)]⟩), w208.keep (n1 _ (by decide) (by decide)) (n1 _ (by decide) (by decide)), f5, (n1 _ (by decide) (by decide)).trans r5⟩
  obtain ⟨fo2, w197', w205', go2, gc2, w208', ro2⟩ := fs2
  have nn : ∀ i, ¬ (197 ≤ i ∧ i ≤ 212) → h2.1 i = h.1 i := fun i hi => (f2.2 i hi).trans (n1 i (by omega) (by omega))
  obtain ⟨h3, e3, f3, dk3, w303, gx3, rk3, go3⟩ := d122y gb (by decide) (Nat.le_refl _) (dk.keep (fun i hi => nn i (by omega))) (w30.keep (nn _ (by decide)) (nn _ (by decide))) go2 w208' gc2 ro2 hs
  have n3 : ∀ i, 197 ≤ i → i ≤ 206 → h3.1 i = h2.1 i := fun i i1 i2 => f3.2 i (by omega) (by omega) (by omega)
  obtain ⟨z0, z1, z2, z3⟩ := id fo2
  have z03 : FOo h3 := (f3.2 196 (by decide) (by decide) (by decide)).trans z0
  refine ⟨h3, ?_, ⟨f3.1.trans (f2.1.trans fb1.1), fun i i1 i2 i3 => (f3.2 i i1 i2 (by omega)).trans (nn i i3)⟩, dk3, w303, ⟨z03, z1.keep (n3 _ (by decide) (by decide)) (n3 _ (by decide) (by decide)), z2.keep (n3 _ (by decide) (by decide)) (n3 _ (by decide) (by decide)), z3.keep (n3 _ (by decide) (by decide)) (n3 _ (by decide) (by decide))⟩, w197'.keep (n3 _ (by decide) (by decide)) (n3 _ (by decide) (by decide)), w205'.keep (n3 _ (by decide) (by decide)) (n3 _ (by decide) (by decide)), gx3⟩
  have fo0 := y0
  unfold FOo at fo0 z0 z03
  unfold GO at go3
  rw [E177 196 _ _ y0]
  simp only [S177, gFs, pFs, okq, bls, bo_true, eUp_at, eUp_eUp, eKls, cl_some, Option.toList_some, Option.toList_none, List.cons_append, List.nil_append, e0, fo0, e1]
  rw [e2, H177_86]
  simp only [S177, gFs, pFs, okq, bls, bo_true, eUp_at, eUp_eUp, eKls, cl_some, Option.toList_some, Option.toList_none, List.cons_append, List.nil_append, z0, e3, z03, go3]
  rw [ldI01, bo_true]
end FO3
