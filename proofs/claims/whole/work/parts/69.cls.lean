/-! THE CLASS: what always holds between its calls -/
abbrev SG : Type := ST × NT × Int × Int
def CA (h : eH) (a b : Nat) (fk bk mk pk tk ct : Bool) : Prop := h.1 0 = .inr (10, [.ref 1, .ref 13, .ref 20, .ref 42, .ref 48, .ref 54, .ref 60, .ref 196, .ref 213, .ref a, .ref b, .int (ldI fk), .int (ldI bk), .int (ldI mk), .int (ldI pk), .int (ldI tk), .int (ldI ct)]) ∧ ((a = 215 ∧ b = 227) ∨ (a = 227 ∧ b = 215))
def CT (h : eH) (t : Int × Int) : Prop := FRX h ∧ WV h 14 36 t.1 ∧ WV h 16 36 t.2 ∧ DD h ∧ DK h ∧ WX h 30 36 ∧ WX h 213 36 ∧ CXo h ∧ FX h
def KF (h : eH) (n : NT) (s : RS) : Prop := KG h 42 16 15 5 (2 * nFr n) (nM n) (nM n + 1) s
def KM (h : eH) (n : NT) : Prop := KG h 48 14 16 5 (nM n) (2 * nFr n) (2 * nFr n) (sM n)
def KP (h : eH) (n : NT) : Prop := KG h 54 8 10 5 (nFr n) (nFr n) (nFr n + 2) (sP n)
def CK (h : eH) (n : NT) (fk bk mk pk : Bool) : Prop := GX h 42 16 15 5 ∧ GX h 48 14 16 5 ∧ GX h 54 8 10 5 ∧ (fk = true → ∃ L, KF h n (sF (wLd n L)) ∧ (∀ a j, j < nJ n → -1000 ≤ L a j ∧ L a j ≤ 1000)) ∧ (bk = true → KF h n (sF n)) ∧ (mk = true → KM h n) ∧ (pk = true → KP h n)
def CI (h : eH) (g : SG) : Prop := ∃ a b fk bk mk pk tk ct, CA h a b fk bk mk pk tk ct ∧ (∃ op tt rf, SLO h g.1 op tt rf) ∧ SV g.1 ∧ CT h g.2.2 ∧ CK h g.2.1 fk bk mk pk ∧ NO h a g.2.1 ∧ NX h b ∧ NV g.2.1 ∧ (tk = true → (ct = true ↔ TI g.2.1))
/-- the class changes nothing of its own beyond 238, and makes nothing -/
def FK (h h' : eH) : Prop := h'.2 = h.2 ∧ ∀ i, 238 < i → h'.1 i = h.1 i
theorem FK.refl (h : eH) : FK h h := ⟨rfl, fun _ _ => rfl⟩
theorem FK.trans {h h' h'' : eH} (x : FK h h') (y : FK h' h'') : FK h h'' := ⟨y.1.trans x.1, fun i hi => (y.2 i hi).trans (x.2 i hi)⟩
theorem AK.keep {h h' : eH} (x : AK h) (e : h'.1 61 = h.1 61) : AK h' := by
  obtain ⟨g, x1, x2⟩ := x
  exact ⟨g, e.trans x1, x2⟩
theorem CXo.keep {h h' : eH} (x : CXo h) (e : ∀ i, 60 ≤ i → i ≤ 195 → h'.1 i = h.1 i) : CXo h' := by
  obtain ⟨⟨M, c⟩, ak, tx, t62, t70, w78, w80, ar, R, f, r1, r2⟩ := x
  exact ⟨⟨M, (e _ (by omega) (by omega)).trans c⟩, ak.keep (e _ (by omega) (by omega)), fun m hm => (tx m hm).keep (fun i i1 i2 => e i (by omega) (by omega)), t62.keep (fun i i1 i2 => e i (by omega) (by omega)), t70.keep (fun i i1 i2 => e i (by omega) (by omega)), w78.keep (e _ (by omega) (by omega)) (e _ (by omega) (by omega)), w80.keep (e _ (by omega) (by omega)) (e _ (by omega) (by omega)), ar.keep (e _ (by omega) (by omega)), R, f, (e _ (by omega) (by omega)).trans r1, r2⟩
theorem FX.keep {h h' : eH} (x : FX h) (e : ∀ i, 196 ≤ i → i ≤ 212 → h'.1 i = h.1 i) : FX h' := by
  obtain ⟨⟨a1, a2, a3, a4⟩, a5, a6, a7⟩ := x
  exact ⟨⟨(e _ (by omega) (by omega)).trans a1, a2.keep (e _ (by omega) (by omega)) (e _ (by omega) (by omega)), a3.keep (e _ (by omega) (by omega)) (e _ (by omega) (by omega)), a4.keep (e _ (by omega) (by omega)) (e _ (by omega) (by omega))⟩, a5.keep (e _ (by omega) (by omega)) (e _ (by omega) (by omega)), a6.keep (e _ (by omega) (by omega)) (e _ (by omega) (by omega)), a7.keep (fun i i1 i2 => e i (by omega) (by omega))⟩
theorem FRX.keep {h h' : eH} (x : FRX h) (e : ∀ i, 13 ≤ i → i ≤ 19 → h'.1 i = h.1 i) : FRX h' := by
  obtain ⟨a1, a2, a3, a4⟩ := x
  exact ⟨(e _ (by omega) (by omega)).trans a1, a2.keep (e _ (by omega) (by omega)) (e _ (by omega) (by omega)), a3.keep (e _ (by omega) (by omega)) (e _ (by omega) (by omega)), a4.keep (e _ (by omega) (by omega)) (e _ (by omega) (by omega))⟩
theorem CT.red {h h' : eH} {t : Int × Int} (c : CT h t) (dk : DK h') (w30 : WX h' 30 36) (e : ∀ i, (13 ≤ i ∧ i ≤ 19) ∨ (26 ≤ i ∧ i ≤ 29) ∨ (60 ≤ i ∧ i ≤ 214) → h'.1 i = h.1 i) : CT h' t := by
  obtain ⟨c1, c2, c3, ⟨d1, d2, d3, d4, d5⟩, c5, c6, c7, c8, c9⟩ := c
  exact ⟨c1.keep (fun i i1 i2 => e i (by omega)), c2.keep (e _ (by omega)) (e _ (by omega)), c3.keep (e _ (by omega)) (e _ (by omega)), ⟨dk.2.1, dk.2.2.1, dk.2.2.2.1, d4.keep (e _ (by omega)) (e _ (by omega)), d5.keep (e _ (by omega)) (e _ (by omega))⟩, dk, w30, c7.keep (e _ (by omega)) (e _ (by omega)), c8.keep (fun i i1 i2 => e i (by omega)), c9.keep (fun i i1 i2 => e i (by omega))⟩
theorem CT.keep {h h' : eH} {t : Int × Int} (c : CT h t) (e : ∀ i, (13 ≤ i ∧ i ≤ 41) ∨ (60 ≤ i ∧ i ≤ 214) → h'.1 i = h.1 i) : CT h' t := c.red (c.2.2.2.2.1.keep (fun i hi => e i (by omega))) (c.2.2.2.2.2.1.keep (e _ (by omega)) (e _ (by omega))) (fun i hi => e i (by omega))
theorem CK.keep {h h' : eH} {n : NT} {fk bk mk pk : Bool} (c : CK h n fk bk mk pk) (e : ∀ i, 42 ≤ i → i ≤ 59 → h'.1 i = h.1 i) : CK h' n fk bk mk pk := by
  obtain ⟨c1, c2, c3, c4, c5, c6, c7⟩ := c
  refine ⟨c1.keep (fun i i1 i2 => e i (by omega) (by omega)), c2.keep (fun i i1 i2 => e i (by omega) (by omega)), c3.keep (fun i i1 i2 => e i (by omega) (by omega)), fun q => ?_, fun q => (c5 q).keep (fun i i1 i2 => e i (by omega) (by omega)), fun q => (c6 q).keep (fun i i1 i2 => e i (by omega) (by omega)), fun q => (c7 q).keep (fun i i1 i2 => e i (by omega) (by omega))⟩
  obtain ⟨L, k, b⟩ := c4 q
  exact ⟨L, KG.keep k (fun i i1 i2 => e i (by omega) (by omega)), b⟩
theorem gb42 {n : NT} (hv : NV n) : GB 16 15 5 (2 * nFr n) (nM n + 1) := by
  have := nFr_le hv
  have := hv.1
  exact ⟨by omega, by omega, by decide, by decide, by decide, by decide⟩
theorem gb48 {n : NT} (hv : NV n) : GB 14 16 5 (nM n) (2 * nFr n) := by
  have := nFr_le hv
  have := hv.1
  exact ⟨by omega, by omega, by decide, by decide, by decide, by decide⟩
theorem gb54 {n : NT} (hv : NV n) : GB 8 10 5 (nFr n) (nFr n + 2) := by
  have := nFr_le hv
  exact ⟨by omega, by omega, by decide, by decide, by decide, by decide⟩
theorem ldI0 {b : Bool} : ldI b = 0 ↔ b = false := by cases b <;> decide
/-- the frame of know: the class's flags, the desk and one grid -/
def FG (g : Nat) (h h' : eH) : Prop := h'.2 = h.2 ∧ ∀ i, i ≠ 0 → ¬ (22 ≤ i ∧ i ≤ 25) → ¬ (30 ≤ i ∧ i ≤ 41) → ¬ (g ≤ i ∧ i ≤ g + 5) → h'.1 i = h.1 i
theorem FG.refl (g : Nat) (h : eH) : FG g h h := ⟨rfl, fun _ _ _ _ _ => rfl⟩
theorem FG.fk {g : Nat} {h h' : eH} (x : FG g h h') (hg : g ≤ 54) : FK h h' := ⟨x.1, fun i hi => x.2 i (by omega) (by omega) (by omega) (by omega)⟩
section KN
variable {h : eH} {a b : Nat} {fk bk mk pk tk ct : Bool} {n : NT}
theorem d123_go {t : Int × Int} {w : Int32} (hb : HB n) (hv : NV n) (ca : CA h a b fk bk mk pk tk ct) (c : CT h t) (gx : GX h 42 16 15 5) (no : NO h a n) : ∃ h', ru 123 18 [some (.ref 0), some (.int w)] [] h = some (none, h') ∧ FG 42 h h' ∧ CA h' a b true true mk pk tk ct ∧ DK h' ∧ WX h' 30 36 ∧ KF h' n (sF n) := by
  obtain ⟨ca1, ca2⟩ := ca
  obtain ⟨⟨r0, u0, c0, k0, l0, go⟩, ⟨P, Z, ga⟩, wb, ro⟩ := gx
  have gb := gb42 hv
  obtain ⟨h1, e1, s1, n1, go1, gc1⟩ := d111 hv (by omega) no go ga gb
  have ca11 := (n1 0 (by decide) (by decide) (by decide)).trans ca1
  obtain ⟨f5, r5⟩ := ro
  obtain ⟨h2, e2, f2, ri⟩ := d122 gb (by decide) (by omega) (c.2.2.2.2.1.keep (fun i hi => n1 i (by omega) (by omega) (by omega))) (c.2.2.2.2.2.1.keep (n1 _ (by decide) (by decide) (by decide)) (n1 _ (by decide) (by decide) (by decide))) go1 (wb.keep (n1 _ (by decide) (by decide) (by decide)) (n1 _ (by decide) (by decide) (by decide))) gc1 ⟨f5, (n1 _ (by decide) (by decide) (by decide)).trans r5⟩ (gbd_sb hb.1 (by omega))
  have ca12 := (f2.2 0 (by decide) (by decide) (by decide)).trans ca11
  refine ⟨eUp h2 0 (.inr (10, [.ref 1, .ref 13, .ref 20, .ref 42, .ref 48, .ref 54, .ref 60, .ref 196, .ref 213, .ref a, .ref b, .int (nI 1), .int (nI 1), .int (ldI mk), .int (ldI pk), .int (ldI tk), .int (ldI ct)])), ?_, ⟨f2.1.trans s1, fun i i0 i1 i2 i3 => (eUp_ne i0).trans ((f2.2 i i1 i2 i3).trans (n1 i (by omega) (by omega) (by omega)))⟩, ⟨eUp_at .., ca2⟩, ri.1.keep (fun i hi => eUp_ne (by omega)), ri.2.1.keep (eUp_ne (by decide)) (eUp_ne (by decide)), (RI.kg ri).keep (fun i i1 i2 => eUp_ne (by omega))⟩
  simp only [S123, gFs, pFs, okq, bls, bo_true, eUp_at, eUp_eUp, eKls, cl_some, Option.toList_some, Option.toList_none, List.cons_append, List.nil_append, ca1, e1, ca11, e2, ca12]
theorem d123 {t : Int × Int} {w : Bool} (hb : ∀ n, NV n → HB n) (hv : NV n) (ca : CA h a b fk bk mk pk tk ct) (c : CT h t) (ck : CK h n fk bk mk pk) (no : NO h a n) : ∃ h' bk' L, den 123 [.ref 0, .int (ldI w)] h = some (none, h') ∧ FG 42 h h' ∧ CA h' a b true bk' mk pk tk ct ∧ CT h' t ∧ CK h' n true bk' mk pk ∧ KF h' n (sF (wLd n L)) ∧ HB (wLd n L) ∧ (w = true → KF h' n (sF n)) := by
  have ca0 := ca.1
  obtain ⟨k1, k2, k3, k4, k5, k6, k7⟩ := id ck
  have go : ∃ h' bk' L, ru 123 18 [some (.ref 0), some (.int (ldI w))] [] h = some (none, h') ∧ FG 42 h h' ∧ CA h' a b true bk' mk pk tk ct ∧ CT h' t ∧ CK h' n true bk' mk pk ∧ KF h' n (sF (wLd n L)) ∧ HB (wLd n L) ∧ (w = true → KF h' n (sF n)) := by
    obtain ⟨h', e, f, ca', dk, w30, kf⟩ := d123_go (w := ldI w) (hb n hv) hv ca c k1 no
    refine ⟨h', true, nL n, e, f, ca', c.red dk w30 (fun i hi => f.2 i (by omega) (by omega) (by omega) (by omega)), ⟨KG.x kf, k2.keep (fun i i1 i2 => f.2 i (by omega) (by omega) (by omega) (by omega)), k3.keep (fun i i1 i2 => f.2 i (by omega) (by omega) (by omega) (by omega)), fun _ => ⟨nL n, kf, hv.2.2.1⟩, fun _ => kf, fun q => (k6 q).keep (fun i i1 i2 => f.2 i (by omega) (by omega) (by omega) (by omega)), fun q => (k7 q).keep (fun i i1 i2 => f.2 i (by omega) (by omega) (by omega) (by omega))⟩, kf, hb n hv, fun _ => kf⟩
  have stay : fk = true → (w = true → bk = true) → ∃ h' bk' L, (some (none, h) : Option eR) = some (none, h') ∧ FG 42 h h' ∧ CA h' a b true bk' mk pk tk ct ∧ CT h' t ∧ CK h' n true bk' mk pk ∧ KF h' n (sF (wLd n L)) ∧ HB (wLd n L) ∧ (w = true → KF h' n (sF n)) := by
    intro q1 q2
    subst q1
    obtain ⟨L, kf, hL⟩ := k4 rfl
    exact ⟨h, bk, L, rfl, FG.refl _ _, ca, c, ck, kf, hb (wLd n L) ⟨hv.1, hv.2.1, hL, hv.2.2.2⟩, fun q => k5 (q2 q)⟩
  rw [E123 0 _ ca0]
  cases fk with
  | false =>
    obtain ⟨h', bk', L, e, r⟩ := go
    refine ⟨h', bk', L, ?_, r⟩
    rw [← e]
    simp only [S123, gFs, pFs, okq, bls, bo_true, eUp_at, eUp_eUp, eKls, cl_some, Option.toList_some, Option.toList_none, List.cons_append, List.nil_append, ca0]
    rw [if_pos (show ldI false = 0 by decide)]
  | true =>
    cases w with
    | false =>
      obtain ⟨h', bk', L, e, r⟩ := stay rfl (fun q => by cases q)
      refine ⟨h', bk', L, ?_, r⟩
      rw [← e]
      simp only [S123, gFs, pFs, okq, bls, bo_true, eUp_at, eUp_eUp, eKls, cl_some, Option.toList_some, Option.toList_none, List.cons_append, List.nil_append, ca0]
      rw [if_neg (show ¬ ldI true = 0 by decide), if_pos (show ldI false = 0 by decide)]
    | true =>
      cases bk with
      | false =>
        obtain ⟨h', bk', L, e, r⟩ := go
        refine ⟨h', bk', L, ?_, r⟩
        rw [← e]
        simp only [S123, gFs, pFs, okq, bls, bo_true, eUp_at, eUp_eUp, eKls, cl_some, Option.toList_some, Option.toList_none, List.cons_append, List.nil_append, ca0]
        rw [if_neg (show ¬ ldI true = 0 by decide), if_neg (show ¬ ldI true = 0 by decide), if_pos (show ldI false = 0 by decide)]
      | true =>
        obtain ⟨h', bk', L, e, r⟩ := stay rfl (fun q => rfl)
        refine ⟨h', bk', L, ?_, r⟩
        rw [← e]
        simp only [S123, gFs, pFs, okq, bls, bo_true, eUp_at, eUp_eUp, eKls, cl_some, Option.toList_some, Option.toList_none, List.cons_append, List.nil_append, ca0]
        rw [if_neg (show ¬ ldI true = 0 by decide), if_neg (show ¬ ldI true = 0 by decide), if_neg (show ¬ ldI true = 0 by decide)]
theorem d153 {t : Int × Int} (hb : HB n) (hv : NV n) (ca : CA h a b fk bk mk pk tk ct) (c : CT h t) (ck : CK h n fk bk mk pk) (no : NO h a n) : ∃ h', den 153 [.ref 0] h = some (none, h') ∧ FG 48 h h' ∧ CA h' a b fk bk true pk tk ct ∧ CT h' t ∧ CK h' n fk bk true pk ∧ KM h' n := by
  obtain ⟨ca1, ca2⟩ := id ca
  obtain ⟨k1, k2, k3, k4, k5, k6, k7⟩ := id ck
  rw [E153 0 ca1]
  cases mk with
  | true =>
    refine ⟨h, ?_, FG.refl _ _, ca, c, ck, k6 rfl⟩
    simp only [S153, gFs, pFs, okq, bls, bo_true, eUp_at, eUp_eUp, eKls, cl_some, Option.toList_some, Option.toList_none, List.cons_append, List.nil_append, ca1]
    rw [if_neg (show ¬ ldI true = 0 by decide)]
  | false =>
    obtain ⟨⟨r0, u0, c0, k0, l0, go⟩, ⟨P, Z, ga⟩, wb, f5, r5⟩ := k2
    have gb := gb48 hv
    obtain ⟨h1, e1, s1, n1, go1, gc1⟩ := d152 hv (by omega) no go ga gb
    have ca11 := (n1 0 (by decide) (by decide) (by decide)).trans ca1
    obtain ⟨h2, e2, f2, ri⟩ := d122 gb (by decide) (Nat.le_refl _) (c.2.2.2.2.1.keep (fun i hi => n1 i (by omega) (by omega) (by omega))) (c.2.2.2.2.2.1.keep (n1 _ (by decide) (by decide) (by decide)) (n1 _ (by decide) (by decide) (by decide))) go1 (wb.keep (n1 _ (by decide) (by decide) (by decide)) (n1 _ (by decide) (by decide) (by decide))) gc1 ⟨f5, (n1 _ (by decide) (by decide) (by decide)).trans r5⟩ (gbd_sb hb.2.1 (Nat.le_refl _))
    have ca12 := (f2.2 0 (by decide) (by decide) (by decide)).trans ca11
    obtain ⟨h3, hh3⟩ : ∃ h3, h3 = eUp h2 0 (.inr (10, [.ref 1, .ref 13, .ref 20, .ref 42, .ref 48, .ref 54, .ref 60, .ref 196, .ref 213, .ref a, .ref b, .int (ldI fk), .int (ldI bk), .int (nI 1), .int (ldI pk), .int (ldI tk), .int (ldI ct)])) := ⟨_, rfl⟩
    have n3 : ∀ i, i ≠ 0 → h3.1 i = h2.1 i := fun i hi => by rw [hh3]; exact eUp_ne hi
    have fg : FG 48 h h3 := ⟨by rw [hh3]; exact f2.1.trans s1, fun i i0 i1 i2 i3 => (n3 i i0).trans ((f2.2 i i1 i2 i3).trans (n1 i (by omega) (by omega) (by omega)))⟩
    have km : KM h3 n := (RI.kg ri).keep (fun i i1 i2 => n3 i (by omega))
    have fgk : ∀ i, 42 ≤ i → i ≤ 47 ∨ (54 ≤ i ∧ i ≤ 59) → h3.1 i = h.1 i := fun i i1 i2 => fg.2 i (by omega) (by omega) (by omega) (by omega)
    refine ⟨h3, ?_, fg, ⟨by rw [hh3]; exact eUp_at .., ca2⟩, c.red (ri.1.keep (fun i hi => n3 i (by omega))) (ri.2.1.keep (n3 _ (by decide)) (n3 _ (by decide))) (fun i hi => fg.2 i (by omega) (by omega) (by omega) (by omega)), ⟨k1.keep (fun i i1 i2 => fgk i (by omega) (by omega)), KG.x km, k3.keep (fun i i1 i2 => fgk i (by omega) (by omega)), fun q => ?_, fun q => (k5 q).keep (fun i i1 i2 => fgk i (by omega) (by omega)), fun _ => km, fun q => (k7 q).keep (fun i i1 i2 => fgk i (by omega) (by omega))⟩, km⟩
    · simp only [S153, gFs, pFs, okq, bls, bo_true, eUp_at, eUp_eUp, eKls, cl_some, Option.toList_some, Option.toList_none, List.cons_append, List.nil_append, ca1]
      rw [if_pos (show ldI false = 0 by decide)]
      simp only [S153, gFs, pFs, okq, bls, bo_true, eUp_at, eUp_eUp, eKls, cl_some, Option.toList_some, Option.toList_none, List.cons_append, List.nil_append, ca1, e1, ca11, e2, ca12]
      rw [hh3]
    · obtain ⟨L, k, bL⟩ := k4 q
      exact ⟨L, KG.keep k (fun i i1 i2 => fgk i (by omega) (by omega)), bL⟩
theorem d156 {t : Int × Int} (hb : HB n) (hv : NV n) (ca : CA h a b fk bk mk pk tk ct) (c : CT h t) (ck : CK h n fk bk mk pk) (no : NO h a n) : ∃ h', den 156 [.ref 0] h = some (none, h') ∧ FG 54 h h' ∧ CA h' a b fk bk mk true tk ct ∧ CT h' t ∧ CK h' n fk bk mk true ∧ KP h' n := by
  obtain ⟨ca1, ca2⟩ := id ca
  obtain ⟨k1, k2, k3, k4, k5, k6, k7⟩ := id ck
  rw [E156 0 ca1]
  cases pk with
  | true =>
    refine ⟨h, ?_, FG.refl _ _, ca, c, ck, k7 rfl⟩
    simp only [S156, gFs, pFs, okq, bls, bo_true, eUp_at, eUp_eUp, eKls, cl_some, Option.toList_some, Option.toList_none, List.cons_append, List.nil_append, ca1]
    rw [if_neg (show ¬ ldI true = 0 by decide)]
  | false =>
    obtain ⟨⟨r0, u0, c0, k0, l0, go⟩, ⟨P, Z, ga⟩, wb, f5, r5⟩ := k3
    have gb := gb54 hv
    obtain ⟨h1, e1, s1, n1, go1, gc1⟩ := d155 hv (by omega) no go ga gb
    have ca11 := (n1 0 (by decide) (by decide) (by decide)).trans ca1
    obtain ⟨h2, e2, f2, ri⟩ := d122 gb (by decide) (by omega) (c.2.2.2.2.1.keep (fun i hi => n1 i (by omega) (by omega) (by omega))) (c.2.2.2.2.2.1.keep (n1 _ (by decide) (by decide) (by decide)) (n1 _ (by decide) (by decide) (by decide))) go1 (wb.keep (n1 _ (by decide) (by decide) (by decide)) (n1 _ (by decide) (by decide) (by decide))) gc1 ⟨f5, (n1 _ (by decide) (by decide) (by decide)).trans r5⟩ (gbd_sb hb.2.2.1 (by omega))
    have ca12 := (f2.2 0 (by decide) (by decide) (by decide)).trans ca11
    obtain ⟨h3, hh3⟩ : ∃ h3, h3 = eUp h2 0 (.inr (10, [.ref 1, .ref 13, .ref 20, .ref 42, .ref 48, .ref 54, .ref 60, .ref 196, .ref 213, .ref a, .ref b, .int (ldI fk), .int (ldI bk), .int (ldI mk), .int (nI 1), .int (ldI tk), .int (ldI ct)])) := ⟨_, rfl⟩
    have n3 : ∀ i, i ≠ 0 → h3.1 i = h2.1 i := fun i hi => by rw [hh3]; exact eUp_ne hi
    have fg : FG 54 h h3 := ⟨by rw [hh3]; exact f2.1.trans s1, fun i i0 i1 i2 i3 => (n3 i i0).trans ((f2.2 i i1 i2 i3).trans (n1 i (by omega) (by omega) (by omega)))⟩
    have km : KP h3 n := (RI.kg ri).keep (fun i i1 i2 => n3 i (by omega))
    have fgk : ∀ i, 42 ≤ i → i ≤ 53 → h3.1 i = h.1 i := fun i i1 i2 => fg.2 i (by omega) (by omega) (by omega) (by omega)
    refine ⟨h3, ?_, fg, ⟨by rw [hh3]; exact eUp_at .., ca2⟩, c.red (ri.1.keep (fun i hi => n3 i (by omega))) (ri.2.1.keep (n3 _ (by decide)) (n3 _ (by decide))) (fun i hi => fg.2 i (by omega) (by omega) (by omega) (by omega)), ⟨k1.keep (fun i i1 i2 => fgk i (by omega) (by omega)), k2.keep (fun i i1 i2 => fgk i (by omega) (by omega)), KG.x km, fun q => ?_, fun q => (k5 q).keep (fun i i1 i2 => fgk i (by omega) (by omega)), fun q => (k6 q).keep (fun i i1 i2 => fgk i (by omega) (by omega)), fun _ => km⟩, km⟩
    · simp only [S156, gFs, pFs, okq, bls, bo_true, eUp_at, eUp_eUp, eKls, cl_some, Option.toList_some, Option.toList_none, List.cons_append, List.nil_append, ca1]
      rw [if_pos (show ldI false = 0 by decide)]
      simp only [S156, gFs, pFs, okq, bls, bo_true, eUp_at, eUp_eUp, eKls, cl_some, Option.toList_some, Option.toList_none, List.cons_append, List.nil_append, ca1, e1, ca11, e2, ca12]
      rw [hh3]
    · obtain ⟨L, k, bL⟩ := k4 q
      exact ⟨L, KG.keep k (fun i i1 i2 => fgk i (by omega) (by omega)), bL⟩
end KN
