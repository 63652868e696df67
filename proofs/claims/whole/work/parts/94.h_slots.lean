/-! THE REFERENCE: row, tear, write -/
theorem m57n {sn : Nat} (hs : sn < 8) (h : eH) : den 57 [.int (nI sn)] h = some (some (.int (ldI true)), h) := by
  have := m57 (x := (sn : Int)) (by unfold iok; omega) h
  rw [decide_eq_true (by omega)] at this
  exact this
section RW2
variable {h : eH} {g : SG} {n : NT} {jt mb hi wi rk co : Int32} {ro : Nat → Int32} {s : SC} {R : Nat → Int}
theorem m69_loop {sl k : Nat} {f : Nat → Int64} {x2 : Int32} (hs : sl < 8) (hk : k ≤ 60) : ∀ r i h, i + r = k → h.1 243 = .inl (1, 480, .inr (.inl (fl f 0 (60 * sl) (60 * sl + i)))) → ∃ h', ru 69 51 [some (.ref 239), some (.int (nI sl)), some (.int x2), some (.int (nI k)), some (.int (nI i))] [] (hK h jt mb hi wi rk co ro R s) = some (some (.int (nI 0)), hK h' jt mb hi wi rk co ro R s) ∧ h'.2 = h.2 ∧ (∀ j, j ≠ 243 → h'.1 j = h.1 j) ∧ h'.1 243 = .inl (1, 480, .inr (.inl (fl f 0 (60 * sl) (60 * sl + k)))) := by
  intro r
  induction r with
  | zero =>
    intro i h hi' e
    have : i = k := by omega
    subst this
    refine ⟨h, ?_, rfl, fun _ _ => rfl, e⟩
    rw [H69_51]
    simp only [S69, gFs, pFs, okq, bls, bo_true, eUp_at, eUp_eUp, eKls, cl_some, Option.toList_some, Option.toList_none, List.cons_append, List.nil_append]
    rw [if_pos (nI_le (Nat.le_refl _) (by omega)), H69_76]
    simp only [S69, gFs, pFs, okq, bls, bo_true, eUp_at, eUp_eUp, eKls, cl_some, Option.toList_some, Option.toList_none, List.cons_append, List.nil_append]
  | succ r ih =>
    intro i h hi' e
    obtain ⟨h', z1, z2, z3, z4⟩ := ih (i + 1) (eUp h 243 (.inl (1, 480, .inr (.inl (fl f 0 (60 * sl) (60 * sl + i + 1)))))) (by omega) (eUp_at _ _ _)
    refine ⟨h', ?_, z2, fun j hj => (z3 j hj).trans (eUp_ne hj), z4⟩
    rw [← z1, H69_51]
    simp only [S69, gFs, pFs, okq, bls, bo_true, eUp_at, eUp_eUp, eKls, cl_some, Option.toList_some, Option.toList_none, List.cons_append, List.nil_append, hK_o, hK_hs, e]
    rw [if_neg (nI_ge (by omega) (by omega)), nI_mul, nI_add, wL_nI (by omega) (by decide), show (lN 0 : Int64) = 0 from rfl, fl_updL f 0 (60 * sl) (60 * sl + i) (by omega)]
    simp only [S69, gFs, pFs, okq, bls, bo_true, eUp_at, eUp_eUp, eKls, cl_some, Option.toList_some, Option.toList_none, List.cons_append, List.nil_append, hK_us]
    rw [nI_1]
theorem r69 {sl w k : Int} (mi : MI h g) (ks : iok sl) (kw : iok w) (kk : iok k) : ∃ h', den 69 [.ref 239, .int (iI sl), .int (iI w), .int (iI k)] h = some (some (.int (iI (rowR sl w k))), h') ∧ FJ h h' ∧ MI h' (rowS g sl w k) := by
  obtain ⟨b0, b1, hv0, sv0⟩ := mi.b
  have l1 : nI 3 < iI w ↔ 3 < w := by rw [nI_I]; exact iI_lt (by unfold iok; omega) kw
  have l2 : iI k ≤ nI 60 ↔ k ≤ 60 := by rw [nI_I]; exact iI_le kk (by unfold iok; omega)
  by_cases hr : rowR sl w k = 0
  · have hc : (0 ≤ sl ∧ sl < 8) ∧ (0 ≤ w ∧ w < 4) ∧ (0 ≤ k ∧ k ≤ 60) := by
      unfold rowR at hr
      by_cases q : ¬ (0 ≤ sl ∧ sl < 8) ∨ w < 0 ∨ 4 ≤ w ∨ 60 < k
      · rw [if_pos q] at hr; omega
      · rw [if_neg q] at hr
        by_cases q2 : k < 0
        · rw [if_pos q2] at hr; omega
        · omega
    obtain ⟨c1, c2, c3⟩ := hc
    unfold rowS
    rw [hr, if_pos rfl]
    obtain ⟨sn, hsn⟩ : ∃ z : Nat, sl = z := ⟨sl.toNat, by omega⟩
    obtain ⟨wn, hwn⟩ : ∃ z : Nat, w = z := ⟨w.toNat, by omega⟩
    obtain ⟨kn, hkn⟩ : ∃ z : Nat, k = z := ⟨k.toNat, by omega⟩
    subst hsn hwn hkn
    rw [Int.toNat_natCast, Int.toNat_natCast, Int.toNat_natCast]
    refine mi.lift2 b0 b1 hv0 (stM_sv sv0 (by omega) (by omega)) (fun hi wi rk co ro R s r0 r1 mn hv ms sv mr => ?_)
    obtain ⟨⟨f1, a1, a1'⟩, ⟨f2, a2, a2'⟩, f3, a3, a3'⟩ := ms
    rw [E69 239 _ _ _ hK_o]
    simp only [S69, gFs, pFs, okq, bls, bo_true, eUp_at, eUp_eUp, eKls, cl_some, Option.toList_some, Option.toList_none, List.cons_append, List.nil_append, m57 ks]
    rw [decide_eq_true c1, if_neg (show ¬ ldI true = 0 by decide), if_neg (fun e => by have := (lt0 kw).mp e; omega), if_neg (fun e => by have := l1.mp e; omega), if_pos (l2.mpr (by omega)), if_pos ((ge0 kk).mpr (by omega))]
    simp only [S69, gFs, pFs, okq, bls, bo_true, eUp_at, eUp_eUp, eKls, cl_some, Option.toList_some, Option.toList_none, List.cons_append, List.nil_append, hK_o, hK_hs, a1, show iI (sn : Int) = nI sn from rfl, show iI (kn : Int) = nI kn from rfl, show iI (wn : Int) = nI wn from rfl, nI_add]
    rw [wI_nI (by omega) (by decide)]
    simp only [S69, gFs, pFs, okq, bls, bo_true, eUp_at, eUp_eUp, eKls, cl_some, Option.toList_some, Option.toList_none, List.cons_append, List.nil_append, hK_us, hK_o, hK_hs, eUp_ne (show (242 : Nat) ≠ 241 by decide), a2]
    rw [wI_nI (by omega) (by decide)]
    obtain ⟨h', z1, z2, z3, z4⟩ := m69_loop (jt := nI (nJ g.2.1)) (mb := nI (nM g.2.1)) (hi := hi) (wi := wi) (rk := rk) (co := co) (ro := ro) (s := s) (R := R) (sl := sn) (k := kn) (f := f3) (x2 := nI wn) (by omega) (by omega) kn 0 (eUp (eUp h 241 (.inl (0, 8, .inl (upd f1 sn (nI (kn + 1)))))) 242 (.inl (0, 8, .inl (upd f2 sn (nI wn))))) (by omega) (by rw [eUp_ne (by decide), eUp_ne (by decide), a3, Nat.add_zero, fl_self])
    rw [z1]
    have kp : ∀ j, j ≠ 241 → j ≠ 242 → j ≠ 243 → h'.1 j = h.1 j := fun j j1 j2 j3 => (z3 j j3).trans ((eUp_ne j2).trans (eUp_ne j1))
    refine RT2.fin (g := (stM g.1 sn wn kn, g.2)) ⟨z2, fun i hi => kp i (by omega) (by omega) (by omega)⟩ (mn.keep (fun i i1 i2 => kp i (by omega) (by omega) (by omega))) ?_ ⟨_, (kp 256 (by decide) (by decide) (by decide)).trans mr.choose_spec⟩ r0 r1
    refine ⟨?_, ?_, _, z4, fun s' i hs' hi' => ?_⟩
    · refine (AR.keep (AR.upn (AR.ups a1') (show (241 : Nat) ≠ 242 by decide)) (z3 241 (by decide))).cg (fun j hj => ?_)
      show _ = nI (enO (if j = sn then some kn else g.1.1 j))
      by_cases q : j = sn
      · rw [if_pos q, if_pos q]; rfl
      · rw [if_neg q, if_neg q]
    · refine (AR.keep (AR.ups (h := eUp h 241 (.inl (0, 8, .inl (upd f1 sn (nI (kn + 1)))))) a2') (z3 242 (by decide))).cg (fun j hj => ?_)
      show _ = nI (if j = sn then wn else g.1.2.1 j)
      by_cases q : j = sn
      · rw [if_pos q, if_pos q]
      · rw [if_neg q, if_neg q]
    · show fl f3 0 (60 * sn) (60 * sn + kn) (60 * s' + i) = if s' = sn then 0 else g.1.2.2 s' i
      have hi'' : i < szo (stM g.1 sn wn kn) s' := hi'
      have hz := szo_le (stM_sv (s := sn) (w := wn) (k := kn) sv (by omega) (by omega)) hs'
      unfold fl
      by_cases q : s' = sn
      · subst q
        have : szo (stM g.1 s' wn kn) s' = kn := by unfold szo stM; dsimp only; rw [if_pos rfl]; rfl
        rw [if_pos (by omega), if_pos rfl]
      · have e : szo (stM g.1 sn wn kn) s' = szo g.1 s' := by unfold szo stM; dsimp only; rw [if_neg q]
        rw [if_neg (by omega), if_neg q]
        exact a3' s' i hs' (by omega)
  · unfold rowS
    rw [if_neg hr]
    refine mi.lift (t := g.2.2) b0 b1 (fun hi wi rk co ro R s r0 r1 mn hv ms => ?_)
    rw [E69 239 _ _ _ hK_o]
    simp only [S69, gFs, pFs, okq, bls, bo_true, eUp_at, eUp_eUp, eKls, cl_some, Option.toList_some, Option.toList_none, List.cons_append, List.nil_append, m57 ks]
    have bad : rowR sl w k = -2 → RT h g.2.1 (some (some (.int (-2)), hK h (nI (nJ g.2.1)) (nI (nM g.2.1)) hi wi rk co ro R s)) (some (.int (iI (rowR sl w k)))) g.2.2 := fun e => by rw [e]; exact RT.fin r0 r1
    by_cases q0 : 0 ≤ sl ∧ sl < 8
    · rw [decide_eq_true q0, if_neg (show ¬ ldI true = 0 by decide)]
      by_cases q1 : w < 0
      · rw [if_pos ((lt0 kw).mpr q1)]
        exact bad (by unfold rowR; rw [if_pos (by omega)])
      · rw [if_neg (fun e => q1 ((lt0 kw).mp e))]
        by_cases q2 : 3 < w
        · rw [if_pos (l1.mpr q2)]
          exact bad (by unfold rowR; rw [if_pos (by omega)])
        · rw [if_neg (fun e => q2 (l1.mp e))]
          by_cases q3 : k ≤ 60
          · rw [if_pos (l2.mpr q3)]
            by_cases q4 : 0 ≤ k
            · exact absurd (by unfold rowR; rw [if_neg (by omega), if_neg (by omega)]) hr
            · have e : rowR sl w k = -3 := by unfold rowR; rw [if_neg (by omega), if_pos (by omega)]
              rw [if_neg (fun e => q4 ((ge0 kk).mp e)), e]
              exact RT.fin r0 r1
          · rw [if_neg (fun e => q3 (l2.mp e))]
            exact bad (by unfold rowR; rw [if_pos (by omega)])
    · rw [decide_eq_false q0, if_pos (show ldI false = 0 by decide)]
      exact bad (by unfold rowR; rw [if_pos (Or.inl q0)])
theorem r75 {sl : Int} (mi : MI h g) (ks : iok sl) : ∃ h', den 75 [.ref 239, .int (iI sl)] h = some (some (.int (ldI (fld g.1 sl))), h') ∧ FJ h h' ∧ MI h' (tearS g sl) := by
  obtain ⟨b0, b1, hv0, sv0⟩ := mi.b
  by_cases hr : fld g.1 sl = true
  · have hc : (0 ≤ sl ∧ sl < 8) ∧ (g.1.1 sl.toNat).isSome = true := by
      unfold fld at hr
      simp only [Bool.and_eq_true, decide_eq_true_eq] at hr
      exact hr
    obtain ⟨c1, c2⟩ := hc
    unfold tearS
    rw [hr, if_pos rfl]
    obtain ⟨sn, hsn⟩ : ∃ z : Nat, sl = z := ⟨sl.toNat, by omega⟩
    subst hsn
    rw [Int.toNat_natCast] at c2 ⊢
    refine mi.lift2 b0 b1 hv0 (stD_sv sv0) (fun hi wi rk co ro R s r0 r1 mn hv ms sv mr => ?_)
    obtain ⟨⟨f1, a1, a1'⟩, a2, f3, a3, a3'⟩ := ms
    cases hq : g.1.1 sn with
    | none => rw [hq] at c2; cases c2
    | some z =>
      have hz := (sv sn (by omega)).2 z hq
      have g1 : f1 sn = nI (z + 1) := (a1' sn (by omega)).trans (by show nI (enO (g.1.1 sn)) = nI (z + 1); rw [hq]; rfl)
      rw [E75 239 _ hK_o]
      simp only [S75, gFs, pFs, okq, bls, bo_true, eUp_at, eUp_eUp, eKls, cl_some, Option.toList_some, Option.toList_none, List.cons_append, List.nil_append, m57n (show sn < 8 by omega), hK_o, hK_hs, a1, show iI (sn : Int) = nI sn from rfl]
      rw [if_neg (show ¬ ldI true = 0 by decide), aI_nI (by omega) (by decide), g1, if_neg (nI_ne0 (by omega) (by omega))]
      rw [wI_nI (by omega) (by decide)]
      simp only [S75, gFs, pFs, okq, bls, bo_true, eUp_at, eUp_eUp, eKls, cl_some, Option.toList_some, Option.toList_none, List.cons_append, List.nil_append, hK_us]
      refine RT2.fin (g := (stD g.1 sn, g.2)) (FJ.up (by decide) h) (mn.keep (fun i i1 i2 => eUp_ne (by omega))) ⟨?_, a2.upn (by decide), f3, (eUp_ne (by decide)).trans a3, fun s' i hs' hi' => ?_⟩ ⟨_, (eUp_ne (by decide)).trans mr.choose_spec⟩ r0 r1
      · refine (AR.ups a1').cg (fun j hj => ?_)
        show _ = nI (enO (if j = sn then none else g.1.1 j))
        by_cases q : j = sn
        · rw [if_pos q, if_pos q]; rfl
        · rw [if_neg q, if_neg q]
      · show f3 (60 * s' + i) = g.1.2.2 s' i
        refine a3' s' i hs' ?_
        unfold szo stD at hi'
        dsimp only at hi'
        by_cases q : s' = sn
        · rw [if_pos q] at hi'
          exact absurd hi' (Nat.not_lt_zero _)
        · rw [if_neg q] at hi'
          exact hi'
  · unfold tearS
    rw [if_neg hr]
    have hf : fld g.1 sl = false := by cases z : fld g.1 sl with | true => exact absurd z hr | false => rfl
    refine mi.lift (t := g.2.2) b0 b1 (fun hi wi rk co ro R s r0 r1 mn hv ms => ?_)
    obtain ⟨⟨f1, a1, a1'⟩, a2, f3, a3, a3'⟩ := ms
    rw [E75 239 _ hK_o]
    simp only [S75, gFs, pFs, okq, bls, bo_true, eUp_at, eUp_eUp, eKls, cl_some, Option.toList_some, Option.toList_none, List.cons_append, List.nil_append, m57 ks, hK_o, hK_hs, a1]
    by_cases q0 : 0 ≤ sl ∧ sl < 8
    · obtain ⟨sn, hsn⟩ : ∃ z : Nat, sl = z := ⟨sl.toNat, by omega⟩
      subst hsn
      have hn : g.1.1 sn = none := by
        unfold fld at hf
        rw [decide_eq_true q0, Bool.true_and, Int.toNat_natCast] at hf
        cases hq : g.1.1 sn with
        | none => rfl
        | some z => rw [hq] at hf; cases hf
      have g1 : f1 sn = nI 0 := (a1' sn (by omega)).trans (by show nI (enO (g.1.1 sn)) = nI 0; rw [hn]; rfl)
      rw [decide_eq_true q0, if_neg (show ¬ ldI true = 0 by decide), show iI (sn : Int) = nI sn from rfl, aI_nI (by omega) (by decide), g1, if_pos (by decide), hf]
      exact RT.fin r0 r1
    · rw [decide_eq_false q0, if_pos (show ldI false = 0 by decide), hf]
      exact RT.fin r0 r1
theorem r80 {sl i : Int} {v : Int64} (mi : MI h g) (ks : iok sl) (ki : iok i) : ∃ h', den 80 [.ref 239, .int (iI sl), .int (iI i), .long v] h = some (some (.int (iI (wrR g.1 sl i))), h') ∧ FJ h h' ∧ MI h' (wrS g sl i v) := by
  obtain ⟨b0, b1, hv0, sv0⟩ := mi.b
  by_cases q0 : 0 ≤ sl ∧ sl < 8
  · obtain ⟨sn, hsn⟩ : ∃ z : Nat, sl = z := ⟨sl.toNat, by omega⟩
    subst hsn
    cases hq : g.1.1 sn with
    | none =>
      have hr : wrR g.1 sn i = -5 := by unfold wrR; rw [if_neg (fun e => e q0), Int.toNat_natCast, hq]
      unfold wrS
      rw [hr, if_neg (by decide)]
      refine mi.lift (t := g.2.2) b0 b1 (fun hi wi rk co ro R s r0 r1 mn hv ms => ?_)
      obtain ⟨⟨f1, a1, a1'⟩, a2, f3, a3, a3'⟩ := ms
      have g1 : f1 sn = nI 0 := (a1' sn (by omega)).trans (by show nI (enO (g.1.1 sn)) = nI 0; rw [hq]; rfl)
      rw [E80 239 _ _ _ hK_o]
      simp only [S80, gFs, pFs, okq, bls, bo_true, eUp_at, eUp_eUp, eKls, cl_some, Option.toList_some, Option.toList_none, List.cons_append, List.nil_append, m57 ks, hK_o, hK_hs, a1]
      rw [decide_eq_true q0, if_neg (show ¬ ldI true = 0 by decide), show iI (sn : Int) = nI sn from rfl, aI_nI (by omega) (by decide), g1, if_pos (by decide)]
      exact RT.fin r0 r1
    | some z =>
      have hz := (sv0 sn (by omega)).2 z hq
      by_cases q1 : 0 ≤ i ∧ i < z
      · have hr : wrR g.1 sn i = 0 := by unfold wrR; rw [if_neg (fun e => e q0), Int.toNat_natCast, hq]; dsimp only; rw [if_pos q1]
        obtain ⟨m, hm⟩ : ∃ m : Nat, i = m := ⟨i.toNat, by omega⟩
        subst hm
        unfold wrS
        rw [hr, if_pos rfl, Int.toNat_natCast, Int.toNat_natCast]
        refine mi.lift2 b0 b1 hv0 (fun j hj => sv0 j hj) (fun hi wi rk co ro R s r0 r1 mn hv ms sv mr => ?_)
        obtain ⟨⟨f1, a1, a1'⟩, ⟨f2, a2, a2'⟩, f3, a3, a3'⟩ := ms
        have g1 : f1 sn = nI (z + 1) := (a1' sn (by omega)).trans (by show nI (enO (g.1.1 sn)) = nI (z + 1); rw [hq]; rfl)
        have g2 : f2 sn = nI (g.1.2.1 sn) := a2' sn (by omega)
        have hw := (sv sn (by omega)).1
        have fin : ∀ v', v' = cut v (g.1.2.1 sn) → RT2 h (wL (.inl (1, 480, .inr (.inl f3))) (nI (60 * sn + m)) v' (fun e => some (some (.int (nI 0)), eUp (hK h (nI (nJ g.2.1)) (nI (nM g.2.1)) hi wi rk co ro R s) 243 e))) (some (.int (iI 0))) (stW g.1 sn m (cut v (g.1.2.1 sn)), g.2) := by
          intro v' hv'
          rw [wL_nI (by omega) (by decide), hK_un (by decide), hv']
          refine RT2.fin (g := (stW g.1 sn m (cut v (g.1.2.1 sn)), g.2)) (FJ.up (by decide) h) (mn.keep (fun i i1 i2 => eUp_ne (by omega))) ⟨AR.upn ⟨f1, a1, a1'⟩ (by decide), AR.upn ⟨f2, a2, a2'⟩ (by decide), _, eUp_at _ _ _, fun s' i hs' hi' => ?_⟩ ⟨_, (eUp_ne (by decide)).trans mr.choose_spec⟩ r0 r1
          have h60 := szo_le sv hs'
          have hi'' : i < szo g.1 s' := hi'
          show vp_updL f3 (60 * sn + m) (cut v (g.1.2.1 sn)) (60 * s' + i) = if s' = sn ∧ i = m then cut v (g.1.2.1 sn) else g.1.2.2 s' i
          unfold vp_updL
          by_cases q : s' = sn ∧ i = m
          · rw [if_pos (by rw [q.1, q.2]), if_pos q]
          · rw [if_neg (by omega), if_neg q]
            exact a3' s' i hs' hi''
        rw [E80 239 _ _ _ hK_o]
        simp only [S80, gFs, pFs, okq, bls, bo_true, eUp_at, eUp_eUp, eKls, cl_some, Option.toList_some, Option.toList_none, List.cons_append, List.nil_append, m57n (show sn < 8 by omega), hK_o, hK_hs, a1, a2, a3, show iI (sn : Int) = nI sn from rfl, show iI (m : Int) = nI m from rfl]
        rw [if_neg (show ¬ ldI true = 0 by decide), aI_nI (by omega) (by decide), g1, if_neg (nI_ne0 (by omega) (by omega)), if_neg (nI_nneg (by omega)), aI_nI (by omega) (by decide), g1, nI_sub1, if_pos (by rw [nI_I, nI_I, iI_lt (iok_nI (by omega)) (iok_nI (by omega))]; omega), aI_nI (by omega) (by decide), g2, nI_mul, nI_add]
        by_cases w0 : g.1.2.1 sn = 0
        · rw [if_pos (by rw [w0]; rfl)]
          exact fin _ (by unfold cut; rw [if_pos w0])
        · rw [if_neg (nI_ne0 (by omega) (by omega))]
          by_cases w1 : g.1.2.1 sn = 1
          · rw [if_pos (by rw [w1])]
            exact fin _ (by unfold cut; rw [if_neg w0, if_pos w1])
          · rw [if_neg (fun e => w1 ((nI_inj (by omega) (by omega)).mp e))]
            by_cases w2 : g.1.2.1 sn = 2
            · rw [if_pos (by rw [w2])]
              exact fin _ (by unfold cut; rw [if_neg w0, if_neg w1, if_pos w2])
            · rw [if_neg (fun e => w2 ((nI_inj (by omega) (by omega)).mp e))]
              exact fin _ (by unfold cut; rw [if_neg w0, if_neg w1, if_neg w2])
      · have hr : wrR g.1 sn i = -6 := by unfold wrR; rw [if_neg (fun e => e q0), Int.toNat_natCast, hq]; dsimp only; rw [if_neg q1]
        unfold wrS
        rw [hr, if_neg (by decide)]
        refine mi.lift (t := g.2.2) b0 b1 (fun hi wi rk co ro R s r0 r1 mn hv ms => ?_)
        obtain ⟨⟨f1, a1, a1'⟩, a2, f3, a3, a3'⟩ := ms
        have g1 : f1 sn = nI (z + 1) := (a1' sn (by omega)).trans (by show nI (enO (g.1.1 sn)) = nI (z + 1); rw [hq]; rfl)
        rw [E80 239 _ _ _ hK_o]
        simp only [S80, gFs, pFs, okq, bls, bo_true, eUp_at, eUp_eUp, eKls, cl_some, Option.toList_some, Option.toList_none, List.cons_append, List.nil_append, m57n (show sn < 8 by omega), hK_o, hK_hs, a1, show iI (sn : Int) = nI sn from rfl]
        rw [if_neg (show ¬ ldI true = 0 by decide), aI_nI (by omega) (by decide), g1, if_neg (nI_ne0 (by omega) (by omega))]
        by_cases q2 : i < 0
        · rw [if_pos ((lt0 ki).mpr q2)]
          exact RT.fin r0 r1
        · rw [if_neg (fun e => q2 ((lt0 ki).mp e)), aI_nI (by omega) (by decide), g1, nI_sub1, if_neg (by rw [nI_I, iI_lt ki (iok_nI (by omega))]; omega)]
          exact RT.fin r0 r1
  · have hr : wrR g.1 sl i = -2 := by unfold wrR; rw [if_pos q0]
    unfold wrS
    rw [hr, if_neg (by decide)]
    refine mi.lift (t := g.2.2) b0 b1 (fun hi wi rk co ro R s r0 r1 mn hv ms => ?_)
    rw [E80 239 _ _ _ hK_o]
    simp only [S80, gFs, pFs, okq, bls, bo_true, eUp_at, eUp_eUp, eKls, cl_some, Option.toList_some, Option.toList_none, List.cons_append, List.nil_append, m57 ks]
    rw [decide_eq_false q0, if_pos (show ldI false = 0 by decide)]
    exact RT.fin r0 r1
end RW2
