/-! THE CLASS: net, load, pull -/
theorem nx_0 {sz : Nat} {num : Nat → Int64} {lo hi : Int} {t : Nat × Int} (h : (nx sz num lo hi t).2.2 = 0) : t.2 = 0 := by
  unfold nx at h
  by_cases q : t.2 = 0
  · exact q
  · rw [if_pos q] at h
    exact h
theorem rfs_n0 (t : Nat × Int) : (rfs t).2 ≠ 0 := by
  unfold rfs
  by_cases q : t.2 = 0
  · rw [if_pos q]; exact (show (-4 : Int) ≠ 0 by decide)
  · rw [if_neg q]; exact q
theorem rdT_0 {k : Nat} {num : Nat → Int64} {t : Nat × Int} (h : (rdT k num t).2 = 0) : t.2 = 0 ∧ ¬ (rdP k num 0 (rdB k num t) - rdP k num 0 (rdA k num t) = 0 ∧ rdP k num 1 (rdB k num t) - rdP k num 1 (rdA k num t) = 0) := by
  unfold rdT at h
  by_cases q : rdP k num 0 (rdB k num t) - rdP k num 0 (rdA k num t) = 0 ∧ rdP k num 1 (rdB k num t) - rdP k num 1 (rdA k num t) = 0
  · rw [if_pos q] at h
    exact absurd h (rfs_n0 _)
  · rw [if_neg q] at h
    exact ⟨nx_0 (nx_0 h), q⟩
theorem tM_0 {k : Nat} {num : Nat → Int64} : ∀ {M : Nat}, (tM k num M).2 = 0 → ∀ m, m < M → (tM k num m).2 = 0 ∧ ¬ (rdP k num 0 (rdB k num (tM k num m)) - rdP k num 0 (rdA k num (tM k num m)) = 0 ∧ rdP k num 1 (rdB k num (tM k num m)) - rdP k num 1 (rdA k num (tM k num m)) = 0) := by
  intro M
  induction M with
  | zero => intro _ m hm; exact absurd hm (Nat.not_lt_zero _)
  | succ M ih =>
    intro h m hm
    have h1 := rdT_0 (nx_0 (show (nx k num 0 2 (rdT k num (tM k num M))).2.2 = 0 from h))
    by_cases q : m = M
    · rw [q]; exact h1
    · exact ih h1.1 m (by omega)
theorem rdN_nv {k : Nat} {num : Nat → Int64} (h : rdR k num = 0) : NV (rdN k num) := by
  have hJ := rdJ_bd k num
  have hM := rdM_bd k num
  refine ⟨⟨hJ.1, hJ.2.1, hM.1⟩, fun a j _ => rdP_bd k num a j, fun a j _ => ⟨by show (-1000 : Int) ≤ 0; decide, by show (0 : Int) ≤ 1000; decide⟩, fun m hm => ?_⟩
  obtain ⟨-, h2⟩ := tM_0 h m hm
  refine ⟨(rdA_bd k num _).1, (rdB_bd k num _).1, fun e => h2 ?_, (rdS_bd k num _).1, by show (-1000 : Int) ≤ 0; decide, by show (0 : Int) ≤ 1000; decide⟩
  have e' : rdA k num (tM k num m) = rdB k num (tM k num m) := e
  rw [e', Int.sub_self, Int.sub_self]
  exact ⟨rfl, rfl⟩
def netR (st : ST) (s : Int) : Int := if ¬ (0 ≤ s ∧ s < 8) then -2 else match st.1 s.toNat with
  | none => -5
  | some k => if rdR k (st.2.2 s.toNat) = 0 then (rdM k (st.2.2 s.toNat) : Int) else rdR k (st.2.2 s.toNat)
def netS (g : SG) (s : Int) : SG := if ¬ (0 ≤ s ∧ s < 8) then g else match g.1.1 s.toNat with
  | none => g
  | some k => if rdR k (g.1.2.2 s.toNat) = 0 then (g.1, rdN k (g.1.2.2 s.toNat), g.2.2) else g
theorem FN.fk {a : Nat} {h h' : eH} (x : FN a h h') (ha : a ≤ 227) : FK h h' := ⟨x.1, fun i hi => x.2 i (by omega) (by omega)⟩
theorem d140 {h : eH} {a b : Nat} {fk bk mk pk tk ct : Bool} (ca : CA h a b fk bk mk pk tk ct) : ∃ h', den 140 [.ref 0] h = some (none, h') ∧ h'.2 = h.2 ∧ (∀ i, i ≠ 0 → h'.1 i = h.1 i) ∧ CA h' a b false false false false false ct := by
  obtain ⟨ca1, ca2⟩ := ca
  refine ⟨eUp h 0 (.inr (10, [.ref 1, .ref 13, .ref 20, .ref 42, .ref 48, .ref 54, .ref 60, .ref 196, .ref 213, .ref a, .ref b, .int (nI 0), .int (nI 0), .int (nI 0), .int (nI 0), .int (nI 0), .int (ldI ct)])), ?_, rfl, fun i hi => eUp_ne hi, eUp_at .., ca2⟩
  rw [E140 0 ca1]
  simp only [S140, gFs, pFs, okq, bls, bo_true, eUp_at, eUp_eUp, eKls, cl_some, Option.toList_some, Option.toList_none, List.cons_append, List.nil_append, ca1]
section OP2
variable {h : eH} {g : SG}
theorem p168 {s : Int} (ci : CI h g) (ks : iok s) : ∃ h', den 168 [.ref 0, .int (iI s)] h = some (some (.int (iI (netR g.1 s))), h') ∧ FK h h' ∧ CI h' (netS g s) := by
  have ci0 := ci
  obtain ⟨a, b, fk, bk, mk, pk, tk, ct, ca, ⟨op, tt, rf, sl⟩, sv, c, ck, no, nx, hv, ti⟩ := ci
  have ca1 := ca.1
  have ab := ca.2
  have e1 := d150 ks h
  rw [E168 0 _ ca1]
  simp only [S168, gFs, pFs, okq, bls, bo_true, eUp_at, eUp_eUp, eKls, cl_some, Option.toList_some, Option.toList_none, List.cons_append, List.nil_append, e1]
  unfold netR netS
  by_cases q0 : 0 ≤ s ∧ s < 8
  · rw [decide_eq_true q0, if_neg (show ¬ ldI true = 0 by decide), if_neg (fun e => e q0), if_neg (fun e => e q0)]
    obtain ⟨sn, hsn⟩ : ∃ m : Nat, s = m := ⟨s.toNat, by omega⟩
    subst hsn
    rw [Int.toNat_natCast]
    have hs8 : sn < 8 := by omega
    have e2 := d134 sl sv hs8
    rw [nI_I] at e2
    simp only [S168, gFs, pFs, okq, bls, bo_true, eUp_at, eUp_eUp, eKls, cl_some, Option.toList_some, Option.toList_none, List.cons_append, List.nil_append, ca1, e2]
    cases hq : g.1.1 sn with
    | none =>
      rw [if_pos (show ldI (none : Option Nat).isSome = 0 by decide)]
      exact ⟨h, rfl, FK.refl _, ci0⟩
    | some k =>
      rw [if_neg (show ¬ ldI (some k).isSome = 0 from (show ¬ ldI true = 0 by decide))]
      dsimp only
      obtain ⟨h1, e3, f1, sl1⟩ := d162 (s := sn) sl
      rw [nI_I] at e3
      have ca11 := (f1.2 0 (by decide)).trans ca1
      obtain ⟨h2, t2, e4, f2, sl2, no2⟩ := d167 (a := b) sv hs8 hq (by omega) sl1 (nx.keep (fun i i1 i2 => f1.2 i (by omega)))
      have ca12 := (f2.2 0 (by decide) (by omega)).trans ca11
      have fk2 : FK h h2 := ⟨f2.1.trans f1.1, fun i hi => (f2.2 i (by omega) (by omega)).trans (f1.2 i (by omega))⟩
      have n12 : ∀ i, i ≠ 1 → ¬ (b ≤ i ∧ i ≤ b + 11) → h2.1 i = h.1 i := fun i i1 i2 => (f2.2 i i1 i2).trans (f1.2 i i1)
      have sl21 := sl2.1
      simp only [S168, gFs, pFs, okq, bls, bo_true, eUp_at, eUp_eUp, eKls, cl_some, Option.toList_some, Option.toList_none, List.cons_append, List.nil_append, ca1, e3, ca11, e4, ca12, sl21]
      have hr : rfo (rdR k (g.1.2.2 sn)) := (tM_ok k (g.1.2.2 sn) (rdM k (g.1.2.2 sn))).2
      by_cases q1 : rdR k (g.1.2.2 sn) = 0
      · rw [if_pos ((rf0 hr).mpr q1), if_pos q1, if_pos q1]
        have hnv := rdN_nv q1
        obtain ⟨h3, hh3⟩ : ∃ h3, h3 = eUp h2 0 (.inr (10, [.ref 1, .ref 13, .ref 20, .ref 42, .ref 48, .ref 54, .ref 60, .ref 196, .ref 213, .ref b, .ref a, .int (ldI fk), .int (ldI bk), .int (ldI mk), .int (ldI pk), .int (ldI tk), .int (ldI ct)])) := ⟨_, rfl⟩
        have n3 : ∀ i, i ≠ 0 → h3.1 i = h2.1 i := fun i hi => by rw [hh3]; exact eUp_ne hi
        have ca3 : CA h3 b a fk bk mk pk tk ct := ⟨by rw [hh3]; exact eUp_at .., ab.elim (fun e => Or.inr ⟨e.2, e.1⟩) (fun e => Or.inl ⟨e.2, e.1⟩)⟩
        obtain ⟨h4, e5, s4, n4, ca4⟩ := d140 ca3
        have no4 : NO h4 b (rdN k (g.1.2.2 sn)) := no2.keep (fun i i1 i2 => (n4 i (by omega)).trans (n3 i (by omega)))
        have nn : ∀ i, i ≠ 0 → i ≠ 1 → ¬ (b ≤ i ∧ i ≤ b + 11) → h4.1 i = h.1 i := fun i i0 i1 i2 => (n4 i i0).trans ((n3 i i0).trans (n12 i i1 i2))
        obtain ⟨k1, k2, k3, -⟩ := ck
        have ca41 := ca4.1
        have no41 := no4.1
        rw [← hh3]
        simp only [S168, gFs, pFs, okq, bls, bo_true, eUp_at, eUp_eUp, eKls, cl_some, Option.toList_some, Option.toList_none, List.cons_append, List.nil_append, e5, ca41, no41]
        refine ⟨h4, rfl, ⟨s4.trans (by rw [hh3]; exact fk2.1), fun i hi => (n4 i (by omega)).trans ((n3 i (by omega)).trans (fk2.2 i hi))⟩, b, a, false, false, false, false, false, ct, ca4, ⟨sn, t2, _, sl2.keep (fun i i1 i2 => (n4 i (by omega)).trans (n3 i (by omega)))⟩, sv, c.keep (fun i hi => nn i (by omega) (by omega) (by omega)), ⟨k1.keep (fun i i1 i2 => nn i (by omega) (by omega) (by omega)), k2.keep (fun i i1 i2 => nn i (by omega) (by omega) (by omega)), k3.keep (fun i i1 i2 => nn i (by omega) (by omega) (by omega)), (fun q => by cases q), (fun q => by cases q), (fun q => by cases q), (fun q => by cases q)⟩, no4, (no.x).keep (fun i i1 i2 => nn i (by omega) (by omega) (by omega)), hnv, (fun q => by cases q)⟩
      · rw [if_neg (fun e => q1 ((rf0 hr).mp e)), if_neg q1, if_neg q1]
        refine ⟨h2, rfl, fk2, a, b, fk, bk, mk, pk, tk, ct, ⟨ca12, ab⟩, ⟨sn, t2, _, sl2⟩, sv, c.keep (fun i hi => n12 i (by omega) (by omega)), ck.keep (fun i i1 i2 => n12 i (by omega) (by omega)), no.keep (fun i i1 i2 => n12 i (by omega) (by omega)), no2.x, hv, ti⟩
  · rw [decide_eq_false q0, if_pos (show ldI false = 0 by decide), if_pos q0, if_pos q0]
    exact ⟨h, rfl, FK.refl _, ci0⟩
end OP2
