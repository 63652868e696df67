/-! THE REFERENCE: tight -/
section TG4
variable {h : eH} {g : SG} {n : NT} {jt hi wi rk : Int32} {ro : Nat → Int32} {s : SC}
/-- the registers of tight: the reduced forces, the cones below index k of the members below m -/
def TS (n : NT) (R R0 : Nat → Int) (m : Nat) : Prop := Kr (fun k => k = 5 ∨ (340 ≤ k ∧ k < 382)) R0 R ∧ ∀ m', m' < m → nS n m' ≠ 0 → ∀ i, i < 3 → R (340 + 3 * cnt (bar n) m' + i) = qv n (sF n) (nM n) m' i
theorem bar_t {m : Nat} : bar n m = true ↔ nS n m = 0 := by
  unfold bar
  rw [decide_eq_true_eq]
theorem m76_one {m many : Nat} {R0 : Nat → Int} (hv : NV n) (mn : MNt h n) (hb : HB n) (hm : m < nM n) (hs : nS n m ≠ 0) (hmany : many = nM n - (sF n).2.1) (kc : KC R0 (sF n).1 (2 * nFr n) (nM n + 1)) (h8 : R0 8 = (sF n).2.2.1) (rq : RQ ro (sF n).2.2.2.1 (nM n)) : ∀ r i (R : Nat → Int), i + r = 3 → Kr (fun k => k = 5 ∨ (340 ≤ k ∧ k < 382)) R0 R → ∃ (R' : Nat → Int), ru 76 51 [some (.ref 239), some (.int (nI many)), some (.int (nI m)), some (.int (nI i))] [] (hK h jt (nI (nM n)) hi wi rk (nI (cnt (bar n) m)) ro R s) = ru 76 135 [some (.ref 239), some (.int (nI many)), some (.int (nI m)), some (.int (nI 3))] [] (hK h jt (nI (nM n)) hi wi rk (nI (cnt (bar n) m)) ro R' s) ∧ (∀ j, j < 3 → i ≤ j → R' (340 + 3 * cnt (bar n) m + j) = qv n (sF n) (nM n) m j) ∧ Kr (fun k => k = 5 ∨ (340 + 3 * cnt (bar n) m + i ≤ k ∧ k < 340 + 3 * cnt (bar n) m + 3)) R R' := by
  have v1 := hv.1
  have hFr := nFr_le hv
  have hcm : cnt (bar n) m ≤ m := cnt_le _ _
  intro r
  induction r with
  | zero =>
    intro i R hi' k1
    have : i = 3 := by omega
    subst this
    refine ⟨R, ?_, fun j h1 h2 => by omega, Kr.refl _ _⟩
    rw [H76_51]
    simp only [S76, gFs, pFs, okq, bls, bo_true, eUp_at, eUp_eUp, eKls, cl_some, Option.toList_some, Option.toList_none, List.cons_append, List.nil_append]
    rw [if_pos (by decide)]
  | succ r ih =>
    intro i R hi' k1
    have hi3 : i < 3 := by omega
    obtain ⟨C, hC⟩ : ∃ C, C = 340 + 3 * cnt (bar n) m + i := ⟨_, rfl⟩
    have hC' : C < 382 ∧ 340 ≤ C := by omega
    -- the new value
    have goal : ∃ R1 : Nat → Int, (ru 76 51 [some (.ref 239), some (.int (nI many)), some (.int (nI m)), some (.int (nI i))] [] (hK h jt (nI (nM n)) hi wi rk (nI (cnt (bar n) m)) ro R s) = ru 76 51 [some (.ref 239), some (.int (nI many)), some (.int (nI m)), some (.int (nI (i + 1)))] [] (hK h jt (nI (nM n)) hi wi rk (nI (cnt (bar n) m)) ro R1 s)) ∧ R1 C = qv n (sF n) (nM n) m i ∧ Kr (fun k => k = 5 ∨ k = C) R R1 := by
      by_cases q : i < many
      · have e1 := m52 (h := h) (jt := jt) (mb := nI (nM n)) (hi := hi) (wi := wi) (rk := rk) (co := nI (cnt (bar n) m)) (s := s) (R := R) (i := (i : Int)) rq (by omega) (iok_nI (by omega)) (by omega)
        have fi := fcl_red (rows := 2 * nFr n) (M := fM n) (n := nM n) (i := (i : Int)) (by omega)
        cases hf : fcl (sF n).2.2.2.1 (i : Int) (nM n) 0 0 with
        | none =>
          have := fi.mpr (by unfold sF at hmany; omega)
          rw [show (red (2 * nFr n) (fM n) (nM n)) = sF n from rfl, hf] at this
          cases this
        | some f =>
          rw [hf] at e1
          have fl := fcl_some hf
          have hro : ∀ c r, (sF n).2.2.2.1 c = some r → r < 2 * nFr n := ro_hh
          have kc' : KC R (sF n).1 (2 * nFr n) (nM n + 1) := fun a b ha hb' => (k1 _ (by unfold cel; omega)).trans (kc a b ha hb')
          have e2 := m22 (h := h) (jt := jt) (mb := nI (nM n)) (hi := hi) (wi := wi) (rk := rk) (co := nI (cnt (bar n) m)) (s := s) (R := R) (f := f) (c := m) rq (by omega) hm (by omega) (fun r hr => by
            rw [show 20 + 17 * r + f = cel r f from rfl, kc' r f (hro _ r hr) (by omega)]
            exact n23_5 ((hb.1 (nM n) (Nat.le_refl _)).1 r f (hro _ r hr) (by omega)))
          rw [bsc_ffr kc' ((k1 8 (by omega)).trans h8) hf hm (by omega) hro] at e2
          obtain ⟨x, hx⟩ : ∃ x, x = ffr (sF n) (nM n) (i : Int) m := ⟨_, rfl⟩
          rw [← hx] at e2
          have bx : n23 x := by rw [hx]; exact n23_5 (ffr_lt hb.1 (Nat.le_succ _) _ _)
          have e3 := m20 (h := h) (jt := jt) (mb := nI (nM n)) (hi := hi) (wi := wi) (rk := rk) (co := nI (cnt (bar n) m)) (ro := ro) (s := s) (R := ur R 5 x) (a := C) (b := 5) (by omega) (by decide) (by omega)
          rw [ur_at] at e3
          have u1 : 340 + 3 * cnt (bar n) m + i = C := hC.symm
          have hs12 : nS n m = 1 ∨ nS n m = 2 := by have := (hv.2.2.2 m hm).2.2.2.1; omega
          have e1' : den 52 [.ref 239, .int (nI (nM n)), .int (nI i)] (hK h jt (nI (nM n)) hi wi rk (nI (cnt (bar n) m)) ro R s) = some (some (.int (nI f)), hK h jt (nI (nM n)) hi wi rk (nI (cnt (bar n) m)) ro R s) := e1
          rcases hs12 with hs1 | hs2
          · refine ⟨ur (ur R 5 x) C x, ?_, ?_, ((Kr.refl _ R).up' (Or.inl rfl)).up' (Or.inr rfl)⟩
            · rw [H76_51]
              simp only [S76, gFs, pFs, okq, bls, bo_true, eUp_at, eUp_eUp, eKls, cl_some, Option.toList_some, Option.toList_none, List.cons_append, List.nil_append, hK_o, e1', e2, m41, u1, e3, hK_hs, MNt.s (α := eR) mn hv hm, hs1]
              rw [if_neg (nI_ge hi3 (by decide)), if_neg (nI_ge q (by omega)), if_neg (show ¬ nI 1 = nI 2 by decide), nI_1]
            · rw [ur_at, hx]
              unfold qv
              rw [if_pos hs1]
          · have e4 := m18 (h := h) (jt := jt) (mb := nI (nM n)) (hi := hi) (wi := wi) (rk := rk) (co := nI (cnt (bar n) m)) (ro := ro) (s := s) (R := ur (ur R 5 x) C x) (a := C) (by omega) (by rw [ur_at]; exact bx)
            rw [ur_at, ur_ur] at e4
            refine ⟨ur (ur R 5 x) C (-x), ?_, ?_, ((Kr.refl _ R).up' (Or.inl rfl)).up' (Or.inr rfl)⟩
            · rw [H76_51]
              simp only [S76, gFs, pFs, okq, bls, bo_true, eUp_at, eUp_eUp, eKls, cl_some, Option.toList_some, Option.toList_none, List.cons_append, List.nil_append, hK_o, e1', e2, m41, u1, e3, hK_hs, MNt.s (α := eR) mn hv hm, hs2, e4]
              rw [if_neg (nI_ge hi3 (by decide)), if_neg (nI_ge q (by omega)), if_pos trivial, nI_1]
            · rw [ur_at, hx]
              unfold qv
              rw [if_neg (by omega), if_pos hs2]
      · have e1 := m12 (h := h) (jt := jt) (mb := nI (nM n)) (hi := hi) (wi := wi) (rk := rk) (co := nI (cnt (bar n) m)) (ro := ro) (s := s) (R := R) (a := C) (v := 0) (by omega) (by decide)
        have u1 : 340 + 3 * cnt (bar n) m + i = C := hC.symm
        refine ⟨ur R C 0, ?_, ?_, (Kr.refl _ R).up' (Or.inr rfl)⟩
        · rw [H76_51]
          simp only [S76, gFs, pFs, okq, bls, bo_true, eUp_at, eUp_eUp, eKls, cl_some, Option.toList_some, Option.toList_none, List.cons_append, List.nil_append, hK_o, m41, u1, show (lN 0 : Int64) = lI 0 from rfl, e1]
          rw [if_neg (nI_ge hi3 (by decide)), if_pos (nI_le (by omega) (by omega)), nI_1]
        · have fi := fcl_red (rows := 2 * nFr n) (M := fM n) (n := nM n) (i := (i : Int)) (by omega)
          have f0 : ffr (sF n) (nM n) (i : Int) m = 0 := by
            unfold ffr
            cases hf : fcl (sF n).2.2.2.1 (i : Int) (nM n) 0 0 with
            | none => rfl
            | some f =>
              have := fi.mp (by rw [show (red (2 * nFr n) (fM n) (nM n)) = sF n from rfl, hf]; rfl)
              unfold sF at hmany
              omega
          rw [ur_at]
          unfold qv
          rw [f0]
          split
          · rfl
          · split <;> rfl
    obtain ⟨R1, e1, z1, k2⟩ := goal
    obtain ⟨R', w1, w2, w3⟩ := ih (i + 1) R1 (by omega) (k1.trans (k2.mono (fun k e => by omega)))
    refine ⟨R', e1.trans w1, fun j h1 h2 => ?_, (k2.mono (fun k e => by omega)).trans (w3.mono (fun k e => by omega))⟩
    by_cases qj : j = i
    · rw [qj, ← hC, w3 C (by omega)]
      exact z1
    · exact w2 j h1 (by omega)
theorem m76_loop {many : Nat} {R0 : Nat → Int} (hv : NV n) (mn : MNt h n) (hb : HB n) (hmany : many = nM n - (sF n).2.1) (kc : KC R0 (sF n).1 (2 * nFr n) (nM n + 1)) (h8 : R0 8 = (sF n).2.2.1) (rq : RQ ro (sF n).2.2.2.1 (nM n)) : ∀ r m (R : Nat → Int) (x3 : Option Value), m + r = nM n → TS n R R0 m → ∃ (R' : Nat → Int) (y3 : Option Value), ru 76 29 [some (.ref 239), some (.int (nI many)), some (.int (nI m)), x3] [] (hK h jt (nI (nM n)) hi wi rk (nI (cnt (bar n) m)) ro R s) = ru 76 151 [some (.ref 239), some (.int (nI many)), some (.int (nI (nM n))), y3] [] (hK h jt (nI (nM n)) hi wi rk (nI (cnt (bar n) (nM n))) ro R' s) ∧ TS n R' R0 (nM n) := by
  have v1 := hv.1
  intro r
  induction r with
  | zero =>
    intro m R x3 hm ts
    have e : m = nM n := by omega
    rw [e] at ts ⊢
    refine ⟨R, x3, ?_, ts⟩
    rw [H76_29]
    simp only [S76, gFs, pFs, okq, bls, bo_true, eUp_at, eUp_eUp, eKls, cl_some, Option.toList_some, Option.toList_none, List.cons_append, List.nil_append, hK_o]
    rw [if_pos (nI_le (Nat.le_refl _) (by omega))]
  | succ r ih =>
    intro m R x3 hm ts
    have hmm : m < nM n := by omega
    have ec : cnt (bar n) (m + 1) = cnt (bar n) m + (if bar n m = true then 0 else 1) := rfl
    by_cases q : nS n m = 0
    · rw [if_pos (bar_t.mpr q), Nat.add_zero] at ec
      obtain ⟨R', y3, z1, z2⟩ := ih (m + 1) R x3 (by omega) ⟨ts.1, fun m' hm' hs => by
        by_cases qm : m' = m
        · rw [qm] at hs; exact absurd q hs
        · exact ts.2 m' (by omega) hs⟩
      refine ⟨R', y3, ?_, z2⟩
      rw [← z1, ec, H76_29]
      simp only [S76, gFs, pFs, okq, bls, bo_true, eUp_at, eUp_eUp, eKls, cl_some, Option.toList_some, Option.toList_none, List.cons_append, List.nil_append, hK_o, hK_hs, MNt.s (α := eR) mn hv hmm, q]
      rw [if_neg (nI_ge hmm (by omega)), if_pos (show nI 0 = 0 from rfl), nI_1]
      rfl
    · rw [if_neg (fun e => q (bar_t.mp e))] at ec
      have hs2 := (hv.2.2.2 m hmm).2.2.2.1
      have hcm : cnt (bar n) m ≤ m := cnt_le _ _
      obtain ⟨R1, e1, z1, k1⟩ := m76_one (h := h) (jt := jt) (hi := hi) (wi := wi) (rk := rk) (ro := ro) (s := s) (R0 := R0) hv mn hb hmm q hmany kc h8 rq 3 0 R (by decide) ts.1
      obtain ⟨R', y3, w1, w2⟩ := ih (m + 1) R1 (some (.int (nI 3))) (by omega) ⟨ts.1.trans (k1.mono (fun k e => by omega)), fun m' hm' hs i hi' => by
        by_cases qm : m' = m
        · rw [qm]; exact z1 i hi' (Nat.zero_le _)
        · have : cnt (bar n) m' < cnt (bar n) m := cnt_lt (by omega) (fun e => hs (bar_t.mp e))
          rw [k1 _ (by omega)]
          exact ts.2 m' (by omega) hs i hi'⟩
      refine ⟨R', y3, ?_, w2⟩
      rw [← w1, ec, H76_29]
      simp only [S76, gFs, pFs, okq, bls, bo_true, eUp_at, eUp_eUp, eKls, cl_some, Option.toList_some, Option.toList_none, List.cons_append, List.nil_append, hK_o, hK_hs, MNt.s (α := eR) mn hv hmm]
      rw [if_neg (nI_ge hmm (by omega)), if_neg (nI_ne0 (by omega) (by omega)), e1, H76_135]
      simp only [S76, gFs, pFs, okq, bls, bo_true, eUp_at, eUp_eUp, eKls, cl_some, Option.toList_some, Option.toList_none, List.cons_append, List.nil_append, hK_o, hK_uo, nI_add]
      rw [nI_1]
theorem m76 {R : Nat → Int} {co : Int32} (hv : NV n) (mn : MNt h n) (hb : HB n) : ∃ (r : Int) (hi' wi' rk' co' : Int32) (ro' : Nat → Int32) (R' : Nat → Int) (s' : SC), den 76 [.ref 239] (hK h (nI (nJ n)) (nI (nM n)) hi wi rk co ro R s) = some (some (.int (iI r)), hK h (nI (nJ n)) (nI (nM n)) hi' wi' rk' co' ro' R' s') ∧ (3 < nM n - (sF n).2.1 → r = -7) ∧ (nM n - (sF n).2.1 ≤ 3 → (r = 1 ∧ TI n) ∨ (r = 0 ∧ ¬ TI n)) ∧ Kr (fun c => 1 < c) R R' := by
  have v1 := hv.1
  have hrk := (sF_rk n).1
  obtain ⟨R1, s1, ro1, e1, k1, k2, k3, k4⟩ := m32 (h := h) (hi := hi) (wi := wi) (rk := rk) (co := co) (ro := ro) (s := s) (R := R) hv mn hb
  obtain ⟨many, hmany⟩ : ∃ z, z = nM n - (sF n).2.1 := ⟨_, rfl⟩
  have em : nI (nM n) - nI (sF n).2.1 = nI many := by rw [nI_sub hrk, hmany]
  by_cases q : 3 < many
  · refine ⟨-7, nI (2 * nFr n), nI (nM n + 1), nI (sF n).2.1, co, ro1, R1, s1, ?_, fun _ => rfl, fun e => by omega, pc1 k4⟩
    rw [E76 239 hK_o]
    simp only [S76, gFs, pFs, okq, bls, bo_true, eUp_at, eUp_eUp, eKls, cl_some, Option.toList_some, Option.toList_none, List.cons_append, List.nil_append, e1, hK_o, em]
    rw [if_neg (fun e => by have := (nI_le' (by omega) (by omega)).mp e; omega)]
    rfl
  · obtain ⟨R2, y3, e2, ts1, ts2⟩ := m76_loop (h := h) (jt := nI (nJ n)) (hi := nI (2 * nFr n)) (wi := nI (nM n + 1)) (rk := nI (sF n).2.1) (ro := ro1) (s := s1) (R0 := R1) hv mn hb hmany k1 k2 k3 (nM n) 0 R1 none (by omega) ⟨Kr.refl _ _, fun m hm => absurd hm (Nat.not_lt_zero _)⟩
    have cM : cnt (bar n) (nM n) ≤ 14 := Nat.le_trans (cnt_le _ _) (by omega)
    have qe : ∀ j, j < cnt (bar n) (nM n) → ∀ i, i < 3 → QR R2 j i = qv n (sF n) (nM n) (jof (bar n) (nM n) j) i := fun j hj i hi' => by
      obtain ⟨a1, a2, a3⟩ := jof_spec hj
      have := ts2 _ a1 (fun e => a2 (bar_t.mpr e)) i hi'
      rw [a3] at this
      exact this
    have bA : ∀ m, m < cnt (bar n) (nM n) → bq (BB ^ 5) (QR R2 m) := fun m hm i hi' => by
      rw [qe m hm i hi']
      have := ffr_lt hb.1 (Nat.le_succ _) (i : Int) (jof (bar n) (nM n) m : Int)
      show (qv n (sF n) (nM n) _ i).natAbs ≤ _
      unfold qv
      split
      · exact Nat.le_of_lt this
      · split
        · rw [Int.natAbs_neg]; exact Nat.le_of_lt this
        · exact Nat.zero_le _
    obtain ⟨R3, s3, b, e3, hb', k5⟩ := m58 (h := h) (jt := nI (nJ n)) (mb := nI (nM n)) (hi := nI (2 * nFr n)) (wi := nI (nM n + 1)) (rk := nI (sF n).2.1) (ro := ro1) (s := s1) (R := R2) cM bA
    have ti : b = true ↔ TI n := by
      rw [hb']
      unfold TI
      constructor
      · intro ⟨y, hy⟩
        refine ⟨y, fun m hm hs => ?_⟩
        have hc : cnt (bar n) m < cnt (bar n) (nM n) := cnt_lt hm (fun e => hs (bar_t.mp e))
        have := hy _ hc
        rw [dot_cg (x' := qv n (sF n) (nM n) m) (fun i hi' => by rw [qe _ hc i hi', jof_cnt hm (fun e => hs (bar_t.mp e))]) (fun _ _ => rfl)] at this
        exact this
      · intro ⟨y, hy⟩
        refine ⟨y, fun j hj => ?_⟩
        obtain ⟨a1, a2, a3⟩ := jof_spec hj
        rw [dot_cg (qe j hj) (fun _ _ => rfl)]
        exact hy _ a1 (fun e => a2 (bar_t.mpr e))
    refine ⟨if b = true then 1 else 0, nI (2 * nFr n), nI (nM n + 1), nI (sF n).2.1, nI (cnt (bar n) (nM n)), ro1, R3, s3, ?_, fun e => by omega, fun _ => ?_, ((pc1 k4).trans (ts1.mono (fun k e => by omega))).trans (k5.mono (fun k e => by unfold P58 at e; omega))⟩
    · rw [E76 239 hK_o]
      simp only [S76, gFs, pFs, okq, bls, bo_true, eUp_at, eUp_eUp, eKls, cl_some, Option.toList_some, Option.toList_none, List.cons_append, List.nil_append, e1, hK_o, em]
      rw [if_pos ((nI_le' (by omega) (by omega)).mpr (by omega))]
      simp only [S76, gFs, pFs, okq, bls, bo_true, eUp_at, eUp_eUp, eKls, cl_some, Option.toList_some, Option.toList_none, List.cons_append, List.nil_append, hK_o, hK_uo]
      have e2' : ru 76 29 [some (.ref 239), some (.int (nI many)), some (.int (nI 0)), none] [] (hK h (nI (nJ n)) (nI (nM n)) (nI (2 * nFr n)) (nI (nM n + 1)) (nI (sF n).2.1) (nI 0) ro1 R1 s1) = _ := e2
      rw [e2', H76_151]
      simp only [S76, gFs, pFs, okq, bls, bo_true, eUp_at, eUp_eUp, eKls, cl_some, Option.toList_some, Option.toList_none, List.cons_append, List.nil_append, e3]
      cases b with
      | true => rw [if_neg (show ¬ ldI true = 0 by decide), if_pos rfl]; rfl
      | false => rw [if_pos (show ldI false = 0 by decide), if_neg (by decide)]; rfl
    · cases b with
      | true => exact Or.inl ⟨rfl, ti.mp rfl⟩
      | false => exact Or.inr ⟨rfl, fun e => by have := ti.mpr e; cases this⟩
theorem r76 (hb : ∀ n, NV n → HB n) (mi : MI h g) : ∃ h' r, den 76 [.ref 239] h = some (some (.int (iI r)), h') ∧ FJ h h' ∧ MI h' g ∧ (3 < nM g.2.1 - (sF g.2.1).2.1 → r = -7) ∧ (nM g.2.1 - (sF g.2.1).2.1 ≤ 3 → (r = 1 ∧ TI g.2.1) ∨ (r = 0 ∧ ¬ TI g.2.1)) := by
  obtain ⟨b0, b1, hv0, sv0⟩ := mi.b
  have go : ∀ r : Int, ((3 < nM g.2.1 - (sF g.2.1).2.1 → r = -7) ∧ (nM g.2.1 - (sF g.2.1).2.1 ≤ 3 → (r = 1 ∧ TI g.2.1) ∨ (r = 0 ∧ ¬ TI g.2.1))) → ∃ h' r, den 76 [.ref 239] h = some (some (.int (iI r)), h') ∧ FJ h h' ∧ MI h' g ∧ (3 < nM g.2.1 - (sF g.2.1).2.1 → r = -7) ∧ (nM g.2.1 - (sF g.2.1).2.1 ≤ 3 → (r = 1 ∧ TI g.2.1) ∨ (r = 0 ∧ ¬ TI g.2.1)) := by
    intro r hr
    obtain ⟨h', e, f, m⟩ := mi.lift (k := 76) (as := [.ref 239]) (ret := some (.int (iI r))) (t := g.2.2) b0 b1 (fun hi wi rk co ro R s r0 r1 mn hv ms => by
      obtain ⟨r', hi', wi', rk', co', ro', R', s', e, c1, c2, k⟩ := m76 (h := h) (hi := hi) (wi := wi) (rk := rk) (co := co) (ro := ro) (s := s) (R := R) hv mn (hb _ hv)
      have : r' = r := by
        by_cases q : 3 < nM g.2.1 - (sF g.2.1).2.1
        · rw [c1 q, hr.1 q]
        · rcases c2 (by omega) with ⟨x1, x2⟩ | ⟨x1, x2⟩ <;> rcases hr.2 (by omega) with ⟨y1, y2⟩ | ⟨y1, y2⟩
          · rw [x1, y1]
          · exact absurd x2 y2
          · exact absurd y2 x2
          · rw [x1, y1]
      rw [e, this]
      exact RT.fin ((k 0 (by decide)).trans r0) ((k 1 (by decide)).trans r1))
    exact ⟨h', r, e, f, m, hr⟩
  by_cases q : 3 < nM g.2.1 - (sF g.2.1).2.1
  · exact go (-7) ⟨fun _ => rfl, fun e => by omega⟩
  · by_cases t : TI g.2.1
    · exact go 1 ⟨fun e => by omega, fun _ => Or.inl ⟨rfl, t⟩⟩
    · exact go 0 ⟨fun e => by omega, fun _ => Or.inr ⟨rfl, t⟩⟩
end TG4
