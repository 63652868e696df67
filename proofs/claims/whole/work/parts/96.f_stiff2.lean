/-! THE REFERENCE: apart, minor, stiff -/
section SF1
variable {h : eH} {g : SG} {n : NT} {jt mb hi wi rk co : Int32} {ro : Nat → Int32} {s : SC} {R : Nat → Int}
/-- the kept solution i stands in the registers -/
def KPi (n : NT) (R : Nat → Int) (i : Nat) : Prop := ∀ c, c < 2 * nFr n → R (292 + 16 * i + c) = ffr (sN n) (2 * nFr n) i c
theorem n23_w {z : Int} (h : z.natAbs ≤ 4 * 160 ^ 14) : n23 z := n23_le h (by unfold BB; decide)
theorem mv_fix {j ax i : Nat} (hf : nF n j = true) : ffr (sN n) (2 * nFr n) i (mvI (mov n j ax)) = 0 := by
  have e : mov n j ax = none := by unfold mov; rw [if_pos hf]
  rw [e]
  show ffr (sN n) (2 * nFr n) i (-1) = 0
  unfold ffr
  cases fcl (sN n).2.2.2.1 i (2 * nFr n) 0 0 with
  | none => rfl
  | some f => dsimp only; rw [if_neg (by omega)]
theorem m16 {i m ax pl : Nat} (hv : NV n) (mn : MNt h n) (hi3 : i < 3) (hm : m < nM n) (hx : ax < 2) (hp : pl = 4 ∨ pl = 5) (kp : KPi n R i) : den 16 [.ref 239, .int (nI i), .int (nI m), .int (nI ax), .int (nI pl)] (hK h jt mb hi wi rk co ro R s) = some (none, hK h jt mb hi wi rk co ro (ur R pl (gap n (sN n) (2 * nFr n) m ax i)) s) := by
  have v1 := hv.1
  have hFr := nFr_le hv
  obtain ⟨w1, w2, w3, -⟩ := hv.2.2.2 m hm
  have e0 := m12 (h := h) (jt := jt) (mb := mb) (hi := hi) (wi := wi) (rk := rk) (co := co) (ro := ro) (s := s) (R := R) (a := pl) (v := 0) (by omega) (by decide)
  have g1 := MNt.a (α := eR) mn hv hm
  have g2 := MNt.b (α := eR) mn hv hm
  have g3 := MNt.fx (α := eR) mn hv w1
  have g4 := MNt.fx (α := eR) mn hv w2
  have z0 : n23 (0 : Int) := n23_s (by decide)
  -- what the first end gives
  have st1 : ∃ x, x = ffr (sN n) (2 * nFr n) i (mvI (mov n (nA n m) ax)) ∧ ru 16 7 [some (.ref 239), some (.int (nI i)), some (.int (nI m)), some (.int (nI ax)), some (.int (nI pl))] [] (hK h jt mb hi wi rk co ro (ur R pl 0) s) = ru 16 47 [some (.ref 239), some (.int (nI i)), some (.int (nI m)), some (.int (nI ax)), some (.int (nI pl))] [] (hK h jt mb hi wi rk co ro (ur R pl x) s) := by
    by_cases q : nF n (nA n m) = true
    · refine ⟨0, (mv_fix q).symm, ?_⟩
      simp only [S16, gFs, pFs, okq, bls, bo_true, eUp_at, eUp_eUp, eKls, cl_some, Option.toList_some, Option.toList_none, List.cons_append, List.nil_append, hK_o, hK_hs, g1, g3, q]
      rw [if_neg (show ¬ ldI true = 0 by decide)]
    · have hc : cnt (nF n) (nA n m) < nFr n := cnt_lt w1 q
      have qf : nF n (nA n m) = false := by cases z : nF n (nA n m) with | true => exact absurd z q | false => rfl
      have em : mvI (mov n (nA n m) ax) = ((2 * cnt (nF n) (nA n m) + ax : Nat) : Int) := by unfold mov; rw [if_neg q]; rfl
      have eo : ordr n (nA n m) = some (cnt (nF n) (nA n m)) := by unfold ordr; rw [if_neg q]
      have e1 := m13 (h := h) (jt := jt) (mb := mb) (hi := hi) (wi := wi) (rk := rk) (co := co) (ro := ro) (s := s) (R := ur R pl 0) hv mn w1
      rw [eo] at e1
      have k1 := kp (2 * cnt (nF n) (nA n m) + ax) (by omega)
      have f1 : ur R pl 0 (292 + 16 * i + (2 * cnt (nF n) (nA n m) + ax)) = ffr (sN n) (2 * nFr n) i ((2 * cnt (nF n) (nA n m) + ax : Nat) : Int) := by rw [ur_ne (by omega)]; exact k1
      have e2 := m15 (h := h) (jt := jt) (mb := mb) (hi := hi) (wi := wi) (rk := rk) (co := co) (ro := ro) (s := s) (R := ur R pl 0) (t := 1) (a := pl) (b := 292 + 16 * i + (2 * cnt (nF n) (nA n m) + ax)) (by omega) (by omega) (by omega) (by rw [ur_at]; exact z0) (by rw [f1]; exact n23_w (Nat.le_trans (fN_bd hv _ _) (by decide))) (by decide)
      rw [ur_at, f1, ur_ur, Int.mul_one, Int.zero_add] at e2
      refine ⟨_, by rw [em], ?_⟩
      simp only [S16, gFs, pFs, okq, bls, bo_true, eUp_at, eUp_eUp, eKls, cl_some, Option.toList_some, Option.toList_none, List.cons_append, List.nil_append, hK_o, hK_hs, g1, g3, qf]
      rw [if_pos (show ldI false = 0 by decide)]
      simp only [S16, gFs, pFs, okq, bls, bo_true, eUp_at, eUp_eUp, eKls, cl_some, Option.toList_some, Option.toList_none, List.cons_append, List.nil_append, hK_o, hK_hs, g1, e1, show roI (some (cnt (nF n) (nA n m))) = nI (cnt (nF n) (nA n m)) from rfl, nI_mul, nI_add, m14, show (lN 1 : Int64) = lI 1 from rfl, e2]
  obtain ⟨x, hx', st1⟩ := st1
  have bx : x.natAbs ≤ 160 ^ 14 := by rw [hx']; exact fN_bd hv _ _
  have st2 : ru 16 47 [some (.ref 239), some (.int (nI i)), some (.int (nI m)), some (.int (nI ax)), some (.int (nI pl))] [] (hK h jt mb hi wi rk co ro (ur R pl x) s) = some (none, hK h jt mb hi wi rk co ro (ur R pl (gap n (sN n) (2 * nFr n) m ax i)) s) := by
    have eg : gap n (sN n) (2 * nFr n) m ax i = x - ffr (sN n) (2 * nFr n) i (mvI (mov n (nB n m) ax)) := by rw [hx']; rfl
    by_cases q : nF n (nB n m) = true
    · rw [eg, mv_fix q, Int.sub_zero]
      simp only [S16, gFs, pFs, okq, bls, bo_true, eUp_at, eUp_eUp, eKls, cl_some, Option.toList_some, Option.toList_none, List.cons_append, List.nil_append, hK_o, hK_hs, g2, g4, q]
      rw [if_neg (show ¬ ldI true = 0 by decide)]
    · have hc : cnt (nF n) (nB n m) < nFr n := cnt_lt w2 q
      have qf : nF n (nB n m) = false := by cases z : nF n (nB n m) with | true => exact absurd z q | false => rfl
      have em : mvI (mov n (nB n m) ax) = ((2 * cnt (nF n) (nB n m) + ax : Nat) : Int) := by unfold mov; rw [if_neg q]; rfl
      have eo : ordr n (nB n m) = some (cnt (nF n) (nB n m)) := by unfold ordr; rw [if_neg q]
      have e1 := m13 (h := h) (jt := jt) (mb := mb) (hi := hi) (wi := wi) (rk := rk) (co := co) (ro := ro) (s := s) (R := ur R pl x) hv mn w2
      rw [eo] at e1
      have k1 := kp (2 * cnt (nF n) (nB n m) + ax) (by omega)
      have f1 : ur R pl x (292 + 16 * i + (2 * cnt (nF n) (nB n m) + ax)) = ffr (sN n) (2 * nFr n) i ((2 * cnt (nF n) (nB n m) + ax : Nat) : Int) := by rw [ur_ne (by omega)]; exact k1
      have e2 := m15 (h := h) (jt := jt) (mb := mb) (hi := hi) (wi := wi) (rk := rk) (co := co) (ro := ro) (s := s) (R := ur R pl x) (t := -1) (a := pl) (b := 292 + 16 * i + (2 * cnt (nF n) (nB n m) + ax)) (by omega) (by omega) (by omega) (by rw [ur_at]; exact n23_w (Nat.le_trans bx (by decide))) (by rw [f1]; exact n23_w (Nat.le_trans (fN_bd hv _ _) (by decide))) (by decide)
      rw [ur_at, f1, ur_ur] at e2
      rw [eg, em, show x - ffr (sN n) (2 * nFr n) i ((2 * cnt (nF n) (nB n m) + ax : Nat) : Int) = x + ffr (sN n) (2 * nFr n) i ((2 * cnt (nF n) (nB n m) + ax : Nat) : Int) * -1 by omega]
      simp only [S16, gFs, pFs, okq, bls, bo_true, eUp_at, eUp_eUp, eKls, cl_some, Option.toList_some, Option.toList_none, List.cons_append, List.nil_append, hK_o, hK_hs, g2, g4, qf]
      rw [if_pos (show ldI false = 0 by decide)]
      simp only [S16, gFs, pFs, okq, bls, bo_true, eUp_at, eUp_eUp, eKls, cl_some, Option.toList_some, Option.toList_none, List.cons_append, List.nil_append, hK_o, hK_hs, g2, e1, show roI (some (cnt (nF n) (nB n m))) = nI (cnt (nF n) (nB n m)) from rfl, nI_mul, nI_add, m14, show (-lN 1 : Int64) = lI (-1) from rfl, e2]
  rw [E16 239 _ _ _ _ hK_o, ← st2, ← st1]
  simp only [S16, gFs, pFs, okq, bls, bo_true, eUp_at, eUp_eUp, eKls, cl_some, Option.toList_some, Option.toList_none, List.cons_append, List.nil_append, show (lN 0 : Int64) = lI 0 from rfl, e0]
theorem m64 {a b c d pl : Nat} {B : Nat} (ha : a < 3) (hb : b < 3) (hc : c < 3) (hd : d < 3) (hp : 390 < pl ∧ pl < 412) (b1 : (R (382 + 3 * a + c)).natAbs ≤ B) (b2 : (R (382 + 3 * b + d)).natAbs ≤ B) (b3 : (R (382 + 3 * a + d)).natAbs ≤ B) (b4 : (R (382 + 3 * b + c)).natAbs ≤ B) (hB : 2 * (B * B) < BB ^ 23) (hB1 : B < BB ^ 23) : ∃ s', den 64 [.ref 239, .int (nI a), .int (nI b), .int (nI c), .int (nI d), .int (nI pl)] (hK h jt mb hi wi rk co ro R s) = some (none, hK h jt mb hi wi rk co ro (ur (ur (ur R 6 (R (382 + 3 * a + c) * R (382 + 3 * b + d))) 7 (R (382 + 3 * a + d) * R (382 + 3 * b + c))) pl (R (382 + 3 * a + c) * R (382 + 3 * b + d) - R (382 + 3 * a + d) * R (382 + 3 * b + c))) s') := by
  have p1 := mul_le2 b1 b2
  have p2 := mul_le2 b3 b4
  obtain ⟨s1, e1⟩ := m27 (h := h) (jt := jt) (mb := mb) (hi := hi) (wi := wi) (rk := rk) (co := co) (ro := ro) (s := s) (R := R) (t := 6) (a := 382 + 3 * a + c) (b := 382 + 3 * b + d) (by decide) (by omega) (by omega) (n23_le b1 hB1) (n23_le b2 hB1) (n23_le p1 (by omega))
  have f1 : ur R 6 (R (382 + 3 * a + c) * R (382 + 3 * b + d)) (382 + 3 * a + d) = R (382 + 3 * a + d) := ur_ne (by omega)
  have f2 : ur R 6 (R (382 + 3 * a + c) * R (382 + 3 * b + d)) (382 + 3 * b + c) = R (382 + 3 * b + c) := ur_ne (by omega)
  obtain ⟨s2, e2⟩ := m27 (h := h) (jt := jt) (mb := mb) (hi := hi) (wi := wi) (rk := rk) (co := co) (ro := ro) (s := s1) (R := ur R 6 (R (382 + 3 * a + c) * R (382 + 3 * b + d))) (t := 7) (a := 382 + 3 * a + d) (b := 382 + 3 * b + c) (by decide) (by omega) (by omega) (by rw [f1]; exact n23_le b3 hB1) (by rw [f2]; exact n23_le b4 hB1) (by rw [f1, f2]; exact n23_le p2 (by omega))
  rw [f1, f2] at e2
  obtain ⟨x, hx⟩ : ∃ x, x = R (382 + 3 * a + c) * R (382 + 3 * b + d) := ⟨_, rfl⟩
  obtain ⟨y, hy⟩ : ∃ y, y = R (382 + 3 * a + d) * R (382 + 3 * b + c) := ⟨_, rfl⟩
  rw [← hx] at e1 e2 p1 ⊢
  rw [← hy] at e2 p2 ⊢
  have e3 := m20 (h := h) (jt := jt) (mb := mb) (hi := hi) (wi := wi) (rk := rk) (co := co) (ro := ro) (s := s2) (R := ur (ur R 6 x) 7 y) (a := pl) (b := 6) (by omega) (by decide) (by omega)
  rw [ur_ne (show (6 : Nat) ≠ 7 by decide), ur_at] at e3
  have f7 : ur (ur (ur R 6 x) 7 y) pl x 7 = y := by rw [ur_ne (by omega), ur_at]
  have e4 := m15 (h := h) (jt := jt) (mb := mb) (hi := hi) (wi := wi) (rk := rk) (co := co) (ro := ro) (s := s2) (R := ur (ur (ur R 6 x) 7 y) pl x) (t := -1) (a := pl) (b := 7) (by omega) (by decide) (by omega) (by rw [ur_at]; exact n23_le p1 (by omega)) (by rw [f7]; exact n23_le p2 (by omega)) (by decide)
  rw [ur_at, f7, ur_ur, show x + y * -1 = x - y by omega] at e4
  refine ⟨s2, ?_⟩
  rw [E64 239 _ _ _ _ _ hK_o]
  simp only [S64, gFs, pFs, okq, bls, bo_true, eUp_at, eUp_eUp, eKls, cl_some, Option.toList_some, Option.toList_none, List.cons_append, List.nil_append, m51, e1, e2, e3, show (-lN 1 : Int64) = lI (-1) from rfl, e4]
/-- the solutions kept -/
theorem m72_k1 {i f many : Nat} {R0 : Nat → Int} (hv : NV n) (hb : HB n) (hi3 : i < 3) (hf : fcl (sN n).2.2.2.1 (i : Int) (2 * nFr n) 0 0 = some f) (kc : KC R0 (sN n).1 (nM n) (2 * nFr n)) (h8 : R0 8 = (sN n).2.2.1) (rq : RQ ro (sN n).2.2.2.1 (2 * nFr n)) : ∀ r c (R : Nat → Int), c + r = 2 * nFr n → (∀ x, x < c → R (292 + 16 * i + x) = ffr (sN n) (2 * nFr n) i x) → Kr (fun k => k = 5 ∨ (292 ≤ k ∧ k < 340)) R0 R → ∃ (R' : Nat → Int), ru 72 52 [some (.ref 239), some (.int (nI many)), some (.int (nI i)), some (.int (nI f)), some (.int (nI c)), none] [] (hK h jt mb hi (nI (2 * nFr n)) rk co ro R s) = ru 72 86 [some (.ref 239), some (.int (nI many)), some (.int (nI i)), some (.int (nI f)), some (.int (nI (2 * nFr n))), none] [] (hK h jt mb hi (nI (2 * nFr n)) rk co ro R' s) ∧ KPi n R' i ∧ Kr (fun k => k = 5 ∨ (292 + 16 * i ≤ k ∧ k < 292 + 16 * i + 16)) R R' := by
  have v1 := hv.1
  have hFr := nFr_le hv
  have fl := fcl_some hf
  have hro : ∀ c r, (sN n).2.2.2.1 c = some r → r < nM n := ro_hh
  have gN : GBd (nM n) (2 * nFr n) (2 * nFr n) (mN n) := gbd_ng (fun r c => mN_neg n r c) hb.2.1
  intro r
  induction r with
  | zero =>
    intro c R hc k1 k2
    have e : c = 2 * nFr n := by omega
    rw [e] at k1 ⊢
    refine ⟨R, ?_, k1, Kr.refl _ _⟩
    rw [H72_52]
    simp only [S72, gFs, pFs, okq, bls, bo_true, eUp_at, eUp_eUp, eKls, cl_some, Option.toList_some, Option.toList_none, List.cons_append, List.nil_append, hK_o]
    rw [if_pos (nI_le (Nat.le_refl _) (by omega))]
  | succ r ih =>
    intro c R hc k1 k2
    have kc' : KC R (sN n).1 (nM n) (2 * nFr n) := fun a b ha hb' => (k2 _ (by unfold cel; omega)).trans (kc a b ha hb')
    have e1 := m22 (h := h) (jt := jt) (mb := mb) (hi := hi) (wi := nI (2 * nFr n)) (rk := rk) (co := co) (s := s) (R := R) (f := f) (c := c) rq (by omega) (by omega) (by omega) (fun r hr => by
      rw [show 20 + 17 * r + f = cel r f from rfl, kc' r f (hro _ r hr) (by omega)]
      exact n23_5 ((gN (2 * nFr n) (Nat.le_refl _)).1 r f (hro _ r hr) (by omega)))
    rw [bsc_ffr kc' ((k2 8 (by omega)).trans h8) hf (show c < 2 * nFr n by omega) (Nat.le_refl _) hro] at e1
    have e2 := m20 (h := h) (jt := jt) (mb := mb) (hi := hi) (wi := nI (2 * nFr n)) (rk := rk) (co := co) (ro := ro) (s := s) (R := ur R 5 (ffr (sN n) (2 * nFr n) i c)) (a := 292 + 16 * i + c) (b := 5) (by omega) (by decide) (by omega)
    rw [ur_at] at e2
    obtain ⟨R', z1, z2, z3⟩ := ih (c + 1) (ur (ur R 5 (ffr (sN n) (2 * nFr n) i c)) (292 + 16 * i + c) (ffr (sN n) (2 * nFr n) i c)) (by omega) (fun x hx => by
      by_cases q : x = c
      · rw [q, ur_at]
      · rw [ur_ne (by omega), ur_ne (by omega)]; exact k1 x (by omega)) ((k2.up' (Or.inl rfl)).up' (by omega))
    refine ⟨R', ?_, z2, (((Kr.refl _ R).up' (Or.inl rfl)).up' (by omega)).trans z3⟩
    rw [← z1, H72_52]
    simp only [S72, gFs, pFs, okq, bls, bo_true, eUp_at, eUp_eUp, eKls, cl_some, Option.toList_some, Option.toList_none, List.cons_append, List.nil_append, hK_o]
    rw [if_neg (nI_ge (by omega) (by omega))]
    simp only [S72, gFs, pFs, okq, bls, bo_true, eUp_at, eUp_eUp, eKls, cl_some, Option.toList_some, Option.toList_none, List.cons_append, List.nil_append, e1, m14, e2]
    rw [nI_1]
theorem m72_k {many : Nat} {R0 : Nat → Int} (hv : NV n) (hb : HB n) (hm3 : many ≤ 3) (hmany : many = 2 * nFr n - (sM n).2.1) (kc : KC R0 (sN n).1 (nM n) (2 * nFr n)) (h8 : R0 8 = (sN n).2.2.1) (rq : RQ ro (sN n).2.2.2.1 (2 * nFr n)) : ∀ r i (R : Nat → Int) (x3 x4 : Option Value), i + r = many → (∀ i', i' < i → KPi n R i') → Kr (fun k => k = 5 ∨ (292 ≤ k ∧ k < 340)) R0 R → ∃ (R' : Nat → Int) (y3 y4 : Option Value), ru 72 34 [some (.ref 239), some (.int (nI many)), some (.int (nI i)), x3, x4, none] [] (hK h jt mb hi (nI (2 * nFr n)) rk co ro R s) = ru 72 92 [some (.ref 239), some (.int (nI many)), some (.int (nI many)), y3, y4, none] [] (hK h jt mb hi (nI (2 * nFr n)) rk co ro R' s) ∧ (∀ i', i' < many → KPi n R' i') ∧ Kr (fun k => k = 5 ∨ (292 ≤ k ∧ k < 340)) R0 R' := by
  have v1 := hv.1
  have hFr := nFr_le hv
  intro r
  induction r with
  | zero =>
    intro i R x3 x4 hi' k1 k2
    have e : i = many := by omega
    rw [e] at k1 ⊢
    refine ⟨R, x3, x4, ?_, k1, k2⟩
    rw [H72_34]
    simp only [S72, gFs, pFs, okq, bls, bo_true, eUp_at, eUp_eUp, eKls, cl_some, Option.toList_some, Option.toList_none, List.cons_append, List.nil_append]
    rw [if_pos (nI_le (Nat.le_refl _) (by omega))]
  | succ r ih =>
    intro i R x3 x4 hi' k1 k2
    have e1 := m52 (h := h) (jt := jt) (mb := mb) (hi := hi) (wi := nI (2 * nFr n)) (rk := rk) (co := co) (s := s) (R := R) (i := (i : Int)) rq (by omega) (iok_nI (by omega)) (by omega)
    have fi := fcl_red (rows := nM n) (M := mM n) (n := 2 * nFr n) (i := (i : Int)) (by omega)
    cases hf : fcl (sN n).2.2.2.1 (i : Int) (2 * nFr n) 0 0 with
    | none =>
      have := fi.mpr (by unfold sM at hmany; omega)
      rw [show (red (nM n) (mM n) (2 * nFr n)) = sM n from rfl, ← sN_ro, hf] at this
      cases this
    | some f =>
      rw [hf] at e1
      have e1' : den 52 [.ref 239, .int (nI (2 * nFr n)), .int (nI i)] (hK h jt mb hi (nI (2 * nFr n)) rk co ro R s) = some (some (.int (nI f)), hK h jt mb hi (nI (2 * nFr n)) rk co ro R s) := e1
      obtain ⟨R1, z1, z2, z3⟩ := m72_k1 (h := h) (jt := jt) (mb := mb) (hi := hi) (rk := rk) (co := co) (ro := ro) (s := s) (many := many) (R0 := R0) hv hb (by omega) hf kc h8 rq (2 * nFr n) 0 R (by omega) (fun x hx => absurd hx (Nat.not_lt_zero _)) k2
      obtain ⟨R', y3, y4, w1, w2⟩ := ih (i + 1) R1 (some (.int (nI f))) (some (.int (nI (2 * nFr n)))) (by omega) (fun i' hi' => by
        by_cases q : i' = i
        · rw [q]; exact z2
        · intro c hc
          rw [z3 _ (by omega)]
          exact k1 i' (by omega) c hc) (k2.trans (z3.mono (fun k e => by omega)))
      refine ⟨R', y3, y4, ?_, w2⟩
      rw [← w1, H72_34]
      simp only [S72, gFs, pFs, okq, bls, bo_true, eUp_at, eUp_eUp, eKls, cl_some, Option.toList_some, Option.toList_none, List.cons_append, List.nil_append, hK_o, e1']
      rw [if_neg (nI_ge (by omega) (by omega)), z1, H72_86]
      simp only [S72, gFs, pFs, okq, bls, bo_true, eUp_at, eUp_eUp, eKls, cl_some, Option.toList_some, Option.toList_none, List.cons_append, List.nil_append]
      rw [nI_1]
/-- one term of the form -/
theorem m72_ax {i j m ax many : Nat} {t : Int} (hv : NV n) (mn : MNt h n) (hi3 : i < 3) (hj3 : j < 3) (hm : m < nM n) (hx : ax < 2) (ki : KPi n R i) (kj : KPi n R j) (hr : R (382 + 3 * i + j) = t) (bt : t.natAbs ≤ b14) : ∃ (R' : Nat → Int) (s' : SC), ru 72 132 [some (.ref 239), some (.int (nI many)), some (.int (nI i)), some (.int (nI j)), some (.int (nI m)), some (.int (nI ax))] [] (hK h jt mb hi wi rk co ro R s) = ru 72 132 [some (.ref 239), some (.int (nI many)), some (.int (nI i)), some (.int (nI j)), some (.int (nI m)), some (.int (nI (ax + 1)))] [] (hK h jt mb hi wi rk co ro R' s') ∧ R' (382 + 3 * i + j) = t + trm n (sN n) (2 * nFr n) i j m ax ∧ Kr (fun k => k = 4 ∨ k = 5 ∨ k = 6 ∨ k = 382 + 3 * i + j) R R' := by
  have v1 := hv.1
  have hFr := nFr_le hv
  have hu := (hv.2.2.2 m hm).2.2.2.2
  have e1 := m16 (h := h) (jt := jt) (mb := mb) (hi := hi) (wi := wi) (rk := rk) (co := co) (ro := ro) (s := s) (R := R) (pl := 4) hv mn hi3 hm hx (Or.inl rfl) ki
  obtain ⟨x, hx'⟩ : ∃ x, x = gap n (sN n) (2 * nFr n) m ax i := ⟨_, rfl⟩
  obtain ⟨y, hy'⟩ : ∃ y, y = gap n (sN n) (2 * nFr n) m ax j := ⟨_, rfl⟩
  have bx : x.natAbs ≤ 2 * 160 ^ 14 := by rw [hx']; exact gN_bd hv _ _ _
  have b_y : y.natAbs ≤ 2 * 160 ^ 14 := by rw [hy']; exact gN_bd hv _ _ _
  rw [← hx'] at e1
  have e2 := m16 (h := h) (jt := jt) (mb := mb) (hi := hi) (wi := wi) (rk := rk) (co := co) (ro := ro) (s := s) (R := ur R 4 x) (pl := 5) hv mn hj3 hm hx (Or.inr rfl) (fun c hc => by rw [ur_ne (by omega)]; exact kj c hc)
  rw [← hy'] at e2
  have f4 : ur (ur R 4 x) 5 y 4 = x := by rw [ur_ne (by decide), ur_at]
  have f5 : ur (ur R 4 x) 5 y 5 = y := by rw [ur_at]
  have pxy := mul_le2 bx b_y
  have q1 : 2 * 160 ^ 14 < BB ^ 23 := by unfold BB; decide
  have q2 : (2 * 160 ^ 14) * (2 * 160 ^ 14) < BB ^ 23 := by unfold BB; decide
  have q3 : b14 < BB ^ 23 := by unfold b14 BB; decide
  obtain ⟨s1, e3⟩ := m27 (h := h) (jt := jt) (mb := mb) (hi := hi) (wi := wi) (rk := rk) (co := co) (ro := ro) (s := s) (R := ur (ur R 4 x) 5 y) (t := 6) (a := 4) (b := 5) (by decide) (by decide) (by decide) (by rw [f4]; exact n23_le bx q1) (by rw [f5]; exact n23_le b_y q1) (by rw [f4, f5]; exact n23_le pxy q2)
  rw [f4, f5] at e3
  have ff : ur (ur (ur R 4 x) 5 y) 6 (x * y) (382 + 3 * i + j) = t := by rw [ur_ne (by omega), ur_ne (by omega), ur_ne (by omega)]; exact hr
  have f6 : ur (ur (ur R 4 x) 5 y) 6 (x * y) 6 = x * y := by rw [ur_at]
  have e4 := m15 (h := h) (jt := jt) (mb := mb) (hi := hi) (wi := wi) (rk := rk) (co := co) (ro := ro) (s := s1) (R := ur (ur (ur R 4 x) 5 y) 6 (x * y)) (t := nU n m) (a := 382 + 3 * i + j) (b := 6) (by omega) (by decide) (by omega) (by rw [ff]; exact n23_le bt q3) (by rw [f6]; exact n23_le pxy q2) (by omega)
  rw [ff, f6] at e4
  refine ⟨_, s1, ?_, ?_, ((((Kr.refl _ R).up' (v := x) (Or.inl rfl)).up' (v := y) (Or.inr (Or.inl rfl))).up' (v := x * y) (Or.inr (Or.inr (Or.inl rfl)))).up' (a := 382 + 3 * i + j) (v := t + x * y * nU n m) (Or.inr (Or.inr (Or.inr rfl)))⟩
  · rw [H72_132]
    simp only [S72, gFs, pFs, okq, bls, bo_true, eUp_at, eUp_eUp, eKls, cl_some, Option.toList_some, Option.toList_none, List.cons_append, List.nil_append]
    rw [if_neg (nI_ge hx (by decide))]
    simp only [S72, gFs, pFs, okq, bls, bo_true, eUp_at, eUp_eUp, eKls, cl_some, Option.toList_some, Option.toList_none, List.cons_append, List.nil_append, e1, e2, e3, m51, hK_o, hK_hs, MNt.u (α := eR) mn hv hm, iI_l (iok_s (show (nU n m).natAbs ≤ 1000000000 by omega)), e4]
    rw [nI_1]
  · rw [ur_at, hx', hy']
    rfl
theorem KPi.kr {R R' : Nat → Int} {i : Nat} (k : KPi n R i) {P : Nat → Prop} (x : Kr P R R') (hi' : i < 3) (hF : nFr n ≤ 8) (hp : ∀ c, 292 ≤ c → c < 340 → ¬ P c) : KPi n R' i := fun c hc => (x _ (hp _ (by omega) (by omega))).trans (k c hc)
theorem m72_m {i j many : Nat} {R0 : Nat → Int} (hv : NV n) (mn : MNt h n) (hi3 : i < 3) (hj3 : j < 3) : ∀ r m (R : Nat → Int) (s : SC) (x5 : Option Value), m + r = nM n → KPi n R i → KPi n R j → R (382 + 3 * i + j) = frm n (sN n) (2 * nFr n) i j m → Kr (fun k => k = 4 ∨ k = 5 ∨ k = 6 ∨ k = 382 + 3 * i + j) R0 R → ∃ (R' : Nat → Int) (s' : SC) (y5 : Option Value), ru 72 120 [some (.ref 239), some (.int (nI many)), some (.int (nI i)), some (.int (nI j)), some (.int (nI m)), x5] [] (hK h jt (nI (nM n)) hi wi rk co ro R s) = ru 72 198 [some (.ref 239), some (.int (nI many)), some (.int (nI i)), some (.int (nI j)), some (.int (nI (nM n))), y5] [] (hK h jt (nI (nM n)) hi wi rk co ro R' s') ∧ R' (382 + 3 * i + j) = frm n (sN n) (2 * nFr n) i j (nM n) ∧ Kr (fun k => k = 4 ∨ k = 5 ∨ k = 6 ∨ k = 382 + 3 * i + j) R0 R' := by
  have v1 := hv.1
  have hFr := nFr_le hv
  intro r
  induction r with
  | zero =>
    intro m R s x5 hm ki kj hr k2
    have e : m = nM n := by omega
    rw [e] at hr ⊢
    refine ⟨R, s, x5, ?_, hr, k2⟩
    rw [H72_120]
    simp only [S72, gFs, pFs, okq, bls, bo_true, eUp_at, eUp_eUp, eKls, cl_some, Option.toList_some, Option.toList_none, List.cons_append, List.nil_append, hK_o]
    rw [if_pos (nI_le (Nat.le_refl _) (by omega))]
  | succ r ih =>
    intro m R s x5 hm ki kj hr k2
    have hmm : m < nM n := by omega
    obtain ⟨R1, s1, e1, z1, k1⟩ := m72_ax (h := h) (jt := jt) (mb := nI (nM n)) (hi := hi) (wi := wi) (rk := rk) (co := co) (ro := ro) (s := s) (R := R) (many := many) (ax := 0) hv mn hi3 hj3 hmm (by decide) ki kj hr (frmN_bd hv i j (by omega))
    have bt : (frm n (sN n) (2 * nFr n) i j m + trm n (sN n) (2 * nFr n) i j m 0).natAbs ≤ b14 := by
      have h0 : (frm n (sN n) (2 * nFr n) i j m).natAbs ≤ m * (8000 * (160 ^ 14 * 160 ^ 14)) := by
        rw [frm_ng]
        exact su_bd (f := fun m => trm n (sM n) (2 * nFr n) i j m 0 + trm n (sM n) (2 * nFr n) i j m 1) (fun m' hm' => by
          have h0 := trm_bd hv (i := i) (j := j) (ax := 0) (show m' < nM n by omega)
          have h1 := trm_bd hv (i := i) (j := j) (ax := 1) (show m' < nM n by omega)
          have hrk := (sM_rk n).2
          have p : 160 ^ (sM n).2.1 ≤ 160 ^ 14 := pw_le (by decide) (by omega)
          have := Nat.mul_le_mul p p
          omega)
      have h1 : (trm n (sN n) (2 * nFr n) i j m 0).natAbs ≤ 4000 * (160 ^ 14 * 160 ^ 14) := by
        unfold trm
        have := mul_le2 (mul_le2 (gN_bd hv m 0 i) (gN_bd hv m 0 j)) (show (nU n m).natAbs ≤ 1000 by have := (hv.2.2.2 m hmm).2.2.2.2; omega)
        refine Nat.le_trans this (Nat.le_of_eq ?_)
        rw [Nat.mul_mul_mul_comm, Nat.mul_right_comm]
      have h2 : m * (8000 * (160 ^ 14 * 160 ^ 14)) ≤ 13 * (8000 * (160 ^ 14 * 160 ^ 14)) := Nat.mul_le_mul_right _ (by omega)
      unfold b14
      obtain ⟨X, hX⟩ : ∃ X, X = 160 ^ 14 * 160 ^ 14 := ⟨_, rfl⟩
      rw [← hX] at h0 h1 h2 ⊢
      clear hX
      omega
    have pk : ∀ c, 292 ≤ c → c < 340 → ¬ (c = 4 ∨ c = 5 ∨ c = 6 ∨ c = 382 + 3 * i + j) := fun c h1 h2 => by omega
    obtain ⟨R2, s2, e2, z2, k3⟩ := m72_ax (h := h) (jt := jt) (mb := nI (nM n)) (hi := hi) (wi := wi) (rk := rk) (co := co) (ro := ro) (s := s1) (R := R1) (many := many) (ax := 1) hv mn hi3 hj3 hmm (by decide) (ki.kr k1 hi3 hFr pk) (kj.kr k1 hj3 hFr pk) z1 bt
    obtain ⟨R', s', y5, w1, w2⟩ := ih (m + 1) R2 s2 (some (.int (nI 2))) (by omega) ((ki.kr k1 hi3 hFr pk).kr k3 hi3 hFr pk) ((kj.kr k1 hj3 hFr pk).kr k3 hj3 hFr pk) (by
      rw [z2]
      show _ = frm n (sN n) (2 * nFr n) i j m + (trm n (sN n) (2 * nFr n) i j m 0 + trm n (sN n) (2 * nFr n) i j m 1)
      rw [Int.add_assoc]) ((k2.trans k1).trans k3)
    refine ⟨R', s', y5, ?_, w2⟩
    rw [← w1, H72_120]
    simp only [S72, gFs, pFs, okq, bls, bo_true, eUp_at, eUp_eUp, eKls, cl_some, Option.toList_some, Option.toList_none, List.cons_append, List.nil_append, hK_o]
    rw [if_neg (nI_ge hmm (by omega)), e1, e2, H72_132]
    simp only [S72, gFs, pFs, okq, bls, bo_true, eUp_at, eUp_eUp, eKls, cl_some, Option.toList_some, Option.toList_none, List.cons_append, List.nil_append]
    rw [if_pos (by decide), H72_192]
    simp only [S72, gFs, pFs, okq, bls, bo_true, eUp_at, eUp_eUp, eKls, cl_some, Option.toList_some, Option.toList_none, List.cons_append, List.nil_append]
    rw [nI_1]
end SF1
