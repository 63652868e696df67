/-! THE CLASS: look, part, told, count, and what is read of the systems -/
def lookR (t : Int × Int) (w : Int) : Int := if w = 0 then t.1.sign else if w = 1 then ((if nd t.1.natAbs = 0 then 1 else nd t.1.natAbs : Nat) : Int) else if w = 2 then (nd t.2.natAbs : Int) else -1
def partR (t : Int × Int) (b : Bool) (i : Int) : Int := if i < 0 then 0 else (dgt (if b = true then t.2.natAbs else t.1.natAbs) i.toNat : Int)
def cntR (g : SG) (w : Int) : Int := if w = 0 then (nJ g.2.1 : Int) else if w = 1 then (nFr g.2.1 : Int) else if w = 2 then (nM g.2.1 : Int) else if w = 3 then (cntF g.1 8 : Int) else -1
def toldR (n : NT) (k w : Int) : Int := if w = 14 then (if (0 ≤ k ∧ k < nM n) ∧ (sF n).2.2.2.1 k.toNat ≠ none then 1 else 0) else if w < 10 then ofJ n k w else ofM n k w
theorem CI.fg {h h' : eH} {g : SG} {a b k : Nat} {tk ct fk' bk' mk' pk' : Bool} (f : FG k h h') (hk : 42 ≤ k ∧ k ≤ 54) (ca : CA h' a b fk' bk' mk' pk' tk ct) (ab : (a = 215 ∧ b = 227) ∨ (a = 227 ∧ b = 215)) (sl : ∃ op tt rf, SLO h g.1 op tt rf) (sv : SV g.1) (c : CT h' g.2.2) (ck : CK h' g.2.1 fk' bk' mk' pk') (no : NO h a g.2.1) (nx : NX h b) (hv : NV g.2.1) (ti : tk = true → (ct = true ↔ TI g.2.1)) : CI h' g ∧ NO h' a g.2.1 := by
  obtain ⟨op, tt, rf, sl⟩ := sl
  have no' : NO h' a g.2.1 := no.keep (fun i i1 i2 => f.2 i (by omega) (by omega) (by omega) (by omega))
  exact ⟨⟨a, b, fk', bk', mk', pk', tk, ct, ca, ⟨op, tt, rf, sl.keep (fun i i1 i2 => f.2 i (by omega) (by omega) (by omega) (by omega))⟩, sv, c, ck, no', nx.keep (fun i i1 i2 => f.2 i (by omega) (by omega) (by omega) (by omega)), hv, ti⟩, no'⟩
section OP4
variable {h : eH} {g : SG}
theorem p136 {w : Int} (ci : CI h g) (kw : iok w) : den 136 [.ref 0, .int (iI w)] h = some (some (.int (iI (cntR g w))), h) := by
  obtain ⟨a, b, fk, bk, mk, pk, tk, ct, ca, ⟨op, tt, rf, sl⟩, sv, c, ck, no, nx, hv, ti⟩ := ci
  have ca1 := ca.1
  have x0 := no.1
  have e1 := d135 sl sv
  rw [E136 0 _ ca1]
  simp only [S136, gFs, pFs, okq, bls, bo_true, eUp_at, eUp_eUp, eKls, cl_some, Option.toList_some, Option.toList_none, List.cons_append, List.nil_append]
  unfold cntR
  by_cases w0 : w = 0
  · subst w0
    rw [if_pos rfl, show eSw 1 (iI 0) 63 0 3 #[31, 39, 47, 55] = some 32 from by decide, swF_at (z := 32) (k := 32) rfl]
    simp only [S136, gFs, pFs, okq, bls, bo_true, eUp_at, eUp_eUp, eKls, cl_some, Option.toList_some, Option.toList_none, List.cons_append, List.nil_append, ca1, x0]
    rfl
  · rw [if_neg w0]
    by_cases w1 : w = 1
    · subst w1
      rw [if_pos rfl, show eSw 1 (iI 1) 63 0 3 #[31, 39, 47, 55] = some 40 from by decide, swF_at (z := 40) (k := 40) rfl]
      simp only [S136, gFs, pFs, okq, bls, bo_true, eUp_at, eUp_eUp, eKls, cl_some, Option.toList_some, Option.toList_none, List.cons_append, List.nil_append, ca1, x0]
      rfl
    · rw [if_neg w1]
      by_cases w2 : w = 2
      · subst w2
        rw [if_pos rfl, show eSw 1 (iI 2) 63 0 3 #[31, 39, 47, 55] = some 48 from by decide, swF_at (z := 48) (k := 48) rfl]
        simp only [S136, gFs, pFs, okq, bls, bo_true, eUp_at, eUp_eUp, eKls, cl_some, Option.toList_some, Option.toList_none, List.cons_append, List.nil_append, ca1, x0]
        rfl
      · rw [if_neg w2]
        by_cases w3 : w = 3
        · subst w3
          rw [if_pos rfl, show eSw 1 (iI 3) 63 0 3 #[31, 39, 47, 55] = some 56 from by decide, swF_at (z := 56) (k := 56) rfl]
          simp only [S136, gFs, pFs, okq, bls, bo_true, eUp_at, eUp_eUp, eKls, cl_some, Option.toList_some, Option.toList_none, List.cons_append, List.nil_append, ca1, e1]
          rfl
        · rw [if_neg w3, eSw_out kw (by omega), swF_at (z := ((1 : Nat) : Int) + 63) (k := 64) rfl]
          simp only [S136, gFs, pFs, okq, bls, bo_true, eUp_at, eUp_eUp, eKls, cl_some, Option.toList_some, Option.toList_none, List.cons_append, List.nil_append]
          rfl
theorem p161 {w : Int} (ci : CI h g) (kw : iok w) : den 161 [.ref 0, .int (iI w)] h = some (some (.int (iI (lookR g.2.2 w))), h) := by
  obtain ⟨a, b, fk, bk, mk, pk, tk, ct, ca, ⟨op, tt, rf, sl⟩, sv, c, ck, no, nx, hv, ti⟩ := ci
  have ca1 := ca.1
  obtain ⟨⟨f0, -⟩, w14, w16, -⟩ := c
  unfold FRo at f0
  have e1 := d100 w14 (by decide)
  rw [sgI] at e1
  obtain ⟨fa, ra, na, -⟩ := w14
  obtain ⟨fb, rb, nb, -⟩ := w16
  rw [E161 0 _ ca1]
  simp only [S161, gFs, pFs, okq, bls, bo_true, eUp_at, eUp_eUp, eKls, cl_some, Option.toList_some, Option.toList_none, List.cons_append, List.nil_append]
  unfold lookR
  by_cases w0 : w = 0
  · subst w0
    rw [if_pos rfl, show eSw 1 (iI 0) 64 0 2 #[27, 38, 53] = some 28 from by decide, swF_at (z := 28) (k := 28) rfl]
    simp only [S161, gFs, pFs, okq, bls, bo_true, eUp_at, eUp_eUp, eKls, cl_some, Option.toList_some, Option.toList_none, List.cons_append, List.nil_append, ca1, f0, e1]
  · rw [if_neg w0]
    by_cases w1 : w = 1
    · subst w1
      rw [if_pos rfl, show eSw 1 (iI 1) 64 0 2 #[27, 38, 53] = some 39 from by decide, swF_at (z := 39) (k := 39) rfl]
      simp only [S161, gFs, pFs, okq, bls, bo_true, eUp_at, eUp_eUp, eKls, cl_some, Option.toList_some, Option.toList_none, List.cons_append, List.nil_append, ca1, f0, ra.1, d8]
      by_cases q : nd g.2.2.1.natAbs = 0
      · rw [if_pos q, if_neg (nI_nlt (by omega) (by decide))]
        rfl
      · rw [if_neg q]
        by_cases q1 : nd g.2.2.1.natAbs = 1
        · rw [if_neg (nI_nlt (by omega) (by decide)), q1]
          rfl
        · rw [if_pos (nI_lt (by omega) (by omega))]
          rfl
    · rw [if_neg w1]
      by_cases w2 : w = 2
      · subst w2
        rw [if_pos rfl, show eSw 1 (iI 2) 64 0 2 #[27, 38, 53] = some 54 from by decide, swF_at (z := 54) (k := 54) rfl]
        simp only [S161, gFs, pFs, okq, bls, bo_true, eUp_at, eUp_eUp, eKls, cl_some, Option.toList_some, Option.toList_none, List.cons_append, List.nil_append, ca1, f0, rb.1]
        rfl
      · rw [if_neg w2, eSw_out kw (by omega), swF_at (z := ((1 : Nat) : Int) + 64) (k := 65) rfl]
        simp only [S161, gFs, pFs, okq, bls, bo_true, eUp_at, eUp_eUp, eKls, cl_some, Option.toList_some, Option.toList_none, List.cons_append, List.nil_append]
        rfl
theorem p169 {b0 : Bool} {i : Int} (ci : CI h g) (ki : iok i) : den 169 [.ref 0, .int (ldI b0), .int (iI i)] h = some (some (.int (iI (partR g.2.2 b0 i))), h) := by
  obtain ⟨a, b, fk, bk, mk, pk, tk, ct, ca, ⟨op, tt, rf, sl⟩, sv, c, ck, no, nx, hv, ti⟩ := ci
  have ca1 := ca.1
  obtain ⟨⟨f0, -⟩, w14, w16, -⟩ := c
  unfold FRo at f0
  have l0 : iI i < 0 ↔ i < 0 := by rw [show (0 : Int32) = iI 0 from by decide]; exact iI_lt ki iok_0
  have pa : ∀ {x : Nat} {z : Int}, WV h x 36 z → den 98 [.ref x, .int (iI i)] h = some (some (.int (iI (if i < 0 then 0 else (dgt z.natAbs i.toNat : Int)))), h) := by
    intro x z w
    by_cases q : i < 0
    · rw [if_pos q, d98n w _ (l0.mpr q)]
      rfl
    · rw [if_neg q]
      obtain ⟨m, hm⟩ : ∃ m : Nat, i = m := ⟨i.toNat, by omega⟩
      subst hm
      rw [Int.toNat_natCast, ← nI_I m, d98 w (by decide) m (by unfold iok at ki; omega)]
      rfl
  have e1 := pa w14
  have e2 := pa w16
  rw [E169 0 _ _ ca1]
  simp only [S169, gFs, pFs, okq, bls, bo_true, eUp_at, eUp_eUp, eKls, cl_some, Option.toList_some, Option.toList_none, List.cons_append, List.nil_append, ca1, f0, e1, e2]
  unfold partR
  cases b0 with
  | true => rw [if_neg (show ¬ ldI true = 0 by decide), if_pos (show true = true from rfl)]
  | false => rw [if_pos (show ldI false = 0 by decide), if_neg (show ¬ false = true by decide)]
theorem sF_ro (n : NT) : ∀ c r, (sF n).2.2.2.1 c = some r → r < 2 * nFr n := fun c r hr => by
  have h1 := (red_ro _ _ _ c r hr).2
  have h2 := (red_rank (2 * nFr n) (fM n) (nM n)).1
  omega
theorem sF_rk (n : NT) : (sF n).2.1 ≤ nM n ∧ (sF n).2.1 ≤ 2 * nFr n := ⟨(red_rank _ _ _).2, (red_rank _ _ _).1⟩
theorem sM_ro (n : NT) : ∀ c r, (sM n).2.2.2.1 c = some r → r < nM n := fun c r hr => by
  have h1 := (red_ro _ _ _ c r hr).2
  have h2 := (red_rank (nM n) (mM n) (2 * nFr n)).1
  omega
theorem sM_rk (n : NT) : (sM n).2.1 ≤ 2 * nFr n ∧ (sM n).2.1 ≤ nM n := ⟨(red_rank _ _ _).2, (red_rank _ _ _).1⟩
theorem sP_ro (n : NT) : ∀ c r, (sP n).2.2.2.1 c = some r → r < nFr n := fun c r hr => by
  have h1 := (red_ro _ _ _ c r hr).2
  have h2 := (red_rank (nFr n) (pM n) (nFr n)).1
  omega
theorem sP_rk (n : NT) : (sP n).2.1 ≤ nFr n := (red_rank _ _ _).2
theorem p186 {k w : Int} (hb : ∀ n, NV n → HB n) (ci : CI h g) (kk : iok k) (kw : iok w) : ∃ h', den 186 [.ref 0, .int (iI k), .int (iI w)] h = some (some (.int (iI (toldR g.2.1 k w))), h') ∧ FK h h' ∧ CI h' g := by
  have ci0 := ci
  obtain ⟨a, b, fk, bk, mk, pk, tk, ct, ca, sl, sv, c, ck, no, nx, hv, ti⟩ := ci
  have ca1 := ca.1
  have v1 := hv.1
  have l14 : iI w = nI 14 ↔ w = 14 := by rw [nI_I]; exact iI_eq kw (by unfold iok; omega)
  have l10 : nI 10 ≤ iI w ↔ 10 ≤ w := by rw [nI_I]; exact iI_le (by unfold iok; omega) kw
  rw [E186 0 _ _ ca1]
  unfold toldR
  by_cases q : w = 14
  · rw [if_pos q]
    obtain ⟨h1, bk1, L, e1, f1, ca', c', ck', kf, -, -⟩ := d123 (w := false) hb hv ca c ck no
    obtain ⟨ci1, no1⟩ := CI.fg f1 (by decide) ca' ca.2 sl sv c' ck' no nx hv ti
    have e2 := d124 no1 hv kk
    have ca1' := ca'.1
    rw [show ldI false = nI 0 from rfl] at e1
    obtain ⟨go, -, -, f5, r5, q5⟩ := kf
    have go' := go
    unfold GO at go'
    simp only [S186, gFs, pFs, okq, bls, bo_true, eUp_at, eUp_eUp, eKls, cl_some, Option.toList_some, Option.toList_none, List.cons_append, List.nil_append]
    rw [if_pos (l14.mpr q)]
    simp only [S186, gFs, pFs, okq, bls, bo_true, eUp_at, eUp_eUp, eKls, cl_some, Option.toList_some, Option.toList_none, List.cons_append, List.nil_append, e1, ca1', e2]
    by_cases q0 : 0 ≤ k ∧ k < nM g.2.1
    · rw [if_pos q0, if_neg (show ¬ nI 1 = 0 by decide)]
      obtain ⟨kn, hkn⟩ : ∃ m : Nat, k = m := ⟨k.toNat, by omega⟩
      subst hkn
      rw [Int.toNat_natCast]
      simp only [S186, gFs, pFs, okq, bls, bo_true, eUp_at, eUp_eUp, eKls, cl_some, Option.toList_some, Option.toList_none, List.cons_append, List.nil_append, ca1', go', r5]
      rw [← nI_I kn, aI_nI (by omega) (by decide), q5 kn (by omega)]
      have ag := (sF_wLd g.2.1 L).2
      rw [ag]
      have hm := roI_m1 (o := (sF g.2.1).2.2.2.1 kn) (fun r hr => by have := sF_ro g.2.1 kn r hr; have := nFr_le hv; omega)
      by_cases q1 : (sF g.2.1).2.2.2.1 kn = none
      · rw [if_pos (hm.mpr q1), if_neg (fun e => e.2 q1)]
        exact ⟨h1, rfl, f1.fk (by decide), ci1⟩
      · rw [if_neg (fun e => q1 (hm.mp e)), if_pos ⟨q0, q1⟩]
        exact ⟨h1, rfl, f1.fk (by decide), ci1⟩
    · rw [if_neg q0, if_pos (show nI 0 = 0 by decide), if_neg (fun e => q0 e.1)]
      exact ⟨h1, rfl, f1.fk (by decide), ci1⟩
  · rw [if_neg q]
    refine ⟨h, ?_, FK.refl _, ci0⟩
    simp only [S186, gFs, pFs, okq, bls, bo_true, eUp_at, eUp_eUp, eKls, cl_some, Option.toList_some, Option.toList_none, List.cons_append, List.nil_append, ca1, d184 no hv kk kw, d185 no hv kk kw]
    rw [if_neg (fun e => q (l14.mp e))]
    by_cases q1 : w < 10
    · rw [if_neg (fun e => by have := l10.mp e; omega), if_pos q1]
    · rw [if_pos (l10.mpr (by omega)), if_neg q1]
theorem p180 (hb : ∀ n, NV n → HB n) (ci : CI h g) : ∃ h', den 180 [.ref 0] h = some (some (.int (nI (nM g.2.1 - (sF g.2.1).2.1))), h') ∧ FK h h' ∧ CI h' g := by
  obtain ⟨a, b, fk, bk, mk, pk, tk, ct, ca, sl, sv, c, ck, no, nx, hv, ti⟩ := ci
  have ca1 := ca.1
  obtain ⟨h1, bk1, L, e1, f1, ca', c', ck', kf, -, -⟩ := d123 (w := false) hb hv ca c ck no
  obtain ⟨ci1, no1⟩ := CI.fg f1 (by decide) ca' ca.2 sl sv c' ck' no nx hv ti
  have ca1' := ca'.1
  rw [show ldI false = nI 0 from rfl] at e1
  have e2 := d132 kf.1 (sF_rk (wLd g.2.1 L)).1
  rw [(sF_wLd g.2.1 L).2] at e2
  refine ⟨h1, ?_, f1.fk (by decide), ci1⟩
  rw [E180 0 ca1]
  simp only [S180, gFs, pFs, okq, bls, bo_true, eUp_at, eUp_eUp, eKls, cl_some, Option.toList_some, Option.toList_none, List.cons_append, List.nil_append, e1, ca1', e2]
theorem p188 (hb : ∀ n, NV n → HB n) (ci : CI h g) : ∃ h', den 188 [.ref 0] h = some (some (.int (nI (2 * nFr g.2.1 - (sM g.2.1).2.1))), h') ∧ FK h h' ∧ CI h' g := by
  obtain ⟨a, b, fk, bk, mk, pk, tk, ct, ca, sl, sv, c, ck, no, nx, hv, ti⟩ := ci
  have ca1 := ca.1
  obtain ⟨h1, e1, f1, ca', c', ck', km⟩ := d153 (hb _ hv) hv ca c ck no
  obtain ⟨ci1, no1⟩ := CI.fg f1 (by decide) ca' ca.2 sl sv c' ck' no nx hv ti
  have ca1' := ca'.1
  have e2 := d132 km.1 (sM_rk g.2.1).1
  refine ⟨h1, ?_, f1.fk (by decide), ci1⟩
  rw [E188 0 ca1]
  simp only [S188, gFs, pFs, okq, bls, bo_true, eUp_at, eUp_eUp, eKls, cl_some, Option.toList_some, Option.toList_none, List.cons_append, List.nil_append, e1, ca1', e2]
theorem p174 (hb : ∀ n, NV n → HB n) (ci : CI h g) : ∃ h', den 174 [.ref 0] h = some (some (.int (ldI (decide ((sP g.2.1).2.1 = nFr g.2.1)))), h') ∧ FK h h' ∧ CI h' g := by
  obtain ⟨a, b, fk, bk, mk, pk, tk, ct, ca, sl, sv, c, ck, no, nx, hv, ti⟩ := ci
  have ca1 := ca.1
  obtain ⟨h1, e1, f1, ca', c', ck', km⟩ := d156 (hb _ hv) hv ca c ck no
  obtain ⟨ci1, no1⟩ := CI.fg f1 (by decide) ca' ca.2 sl sv c' ck' no nx hv ti
  have ca1' := ca'.1
  have rk := sP_rk g.2.1
  have n8 := nFr_le hv
  have e2 := d132 km.1 rk
  refine ⟨h1, ?_, f1.fk (by decide), ci1⟩
  rw [E174 0 ca1]
  simp only [S174, gFs, pFs, okq, bls, bo_true, eUp_at, eUp_eUp, eKls, cl_some, Option.toList_some, Option.toList_none, List.cons_append, List.nil_append, e1, ca1', e2]
  by_cases q : (sP g.2.1).2.1 = nFr g.2.1
  · rw [decide_eq_true q, if_pos (by rw [q, Nat.sub_self]; rfl)]
    rfl
  · rw [decide_eq_false q, if_neg (nI_ne0 (by omega) (by omega))]
    rfl
def borR (n : NT) : Int := if fr (sF n).1 (nM n) (2 * nFr n - (sF n).2.1) (sF n).2.1 = none then (if (sF n).2.1 = nM n then 1 else 2) else 0
theorem p133 (hb : ∀ n, NV n → HB n) (ci : CI h g) : ∃ h', den 133 [.ref 0] h = some (some (.int (iI (borR g.2.1))), h') ∧ FK h h' ∧ CI h' g := by
  obtain ⟨a, b, fk, bk, mk, pk, tk, ct, ca, sl, sv, c, ck, no, nx, hv, ti⟩ := ci
  have ca1 := ca.1
  have v1 := hv.1
  obtain ⟨h1, bk1, L, e1, f1, ca', c', ck', -, -, kf⟩ := d123 (w := true) hb hv ca c ck no
  have kf := kf rfl
  obtain ⟨ci1, no1⟩ := CI.fg f1 (by decide) ca' ca.2 sl sv c' ck' no nx hv ti
  have ca1' := ca'.1
  have x0 := no1.1
  rw [show ldI true = nI 1 from rfl] at e1
  have rk := sF_rk g.2.1
  have e2 := d132 kf.1 rk.1
  have e3 := d125 (side := nM g.2.1) kf (gb42 hv) (by omega) rk.2
  refine ⟨h1, ?_, f1.fk (by decide), ci1⟩
  rw [E133 0 ca1]
  simp only [S133, gFs, pFs, okq, bls, bo_true, eUp_at, eUp_eUp, eKls, cl_some, Option.toList_some, Option.toList_none, List.cons_append, List.nil_append, e1, ca1', x0, e3]
  unfold borR
  by_cases q : fr (sF g.2.1).1 (nM g.2.1) (2 * nFr g.2.1 - (sF g.2.1).2.1) (sF g.2.1).2.1 = none
  · rw [if_pos q, if_pos q, if_neg (show ¬ nI 1 = 0 by decide)]
    simp only [S133, gFs, pFs, okq, bls, bo_true, eUp_at, eUp_eUp, eKls, cl_some, Option.toList_some, Option.toList_none, List.cons_append, List.nil_append, ca1', e2]
    by_cases q1 : (sF g.2.1).2.1 = nM g.2.1
    · rw [if_pos q1, if_pos (by rw [q1, Nat.sub_self]; rfl)]
      rfl
    · rw [if_neg q1, if_neg (nI_ne0 (by omega) (by omega))]
      rfl
  · rw [if_neg q, if_neg q, if_pos (show nI 0 = 0 by decide)]
    rfl
end OP4
