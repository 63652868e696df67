/-! THE REFERENCE: isShaped -/
theorem su_bd {f : Nat → Int} {B : Nat} : ∀ {t : Nat}, (∀ i, i < t → (f i).natAbs ≤ B) → (su f t).natAbs ≤ t * B := by
  intro t
  induction t with
  | zero => intro _; show (0 : Int).natAbs ≤ _; omega
  | succ t ih =>
    intro h
    have h1 := ih (fun i hi => h i (by omega))
    have h2 := h t (by omega)
    rw [Nat.succ_mul]
    show (su f t + f t).natAbs ≤ t * B + B
    omega
theorem n23_s {z : Int} (h : z.natAbs ≤ 1000000000000) : n23 z := Nat.lt_of_le_of_lt h (by unfold BB; decide)
def ow (n : NT) (k : Nat) : Nat → Int := su (fun m => if nA n m = k ∨ nB n m = k then nU n m else 0)
/-- row i and D alone change -/
def FR5 (i : Nat) (R R' : Nat → Int) : Prop := ∀ z, z ≠ 5 → (∀ x, x < 17 → z ≠ cel i x) → R' z = R z
theorem FR5.refl (i : Nat) (R : Nat → Int) : FR5 i R R := fun _ _ _ => rfl
theorem FR5.up' {i x : Nat} {R R' : Nat → Int} {v : Int} (f : FR5 i R R') (hx : x < 17) : FR5 i R (ur R' (cel i x) v) := fun z h5 hz => by rw [ur_ne (hz x hx)]; exact f z h5 hz
theorem FR5.up5 {i : Nat} {R R' : Nat → Int} {v : Int} (f : FR5 i R R') : FR5 i R (ur R' 5 v) := fun z h5 hz => by rw [ur_ne h5]; exact f z h5 hz
theorem FR5.kr {i : Nat} {R R' : Nat → Int} (f : FR5 i R R') (_ : i < 16) : Kr (fun c => 1 < c) R R' := fun z hz => f z (fun e => hz (by omega)) (fun x _ e => hz (by rw [e]; unfold cel; omega))
theorem pc1 {R R' : Nat → Int} (k : Kr PC R R') : Kr (fun c => 1 < c) R R' := k.mono (fun c hc => by unfold PC at hc; omega)
section SH1
variable {h : eH} {jt mb hi wi rk co : Int32} {ro : Nat → Int32} {s : SC} {n : NT} {x11 : Option Value} {k i : Nat}
theorem hm_no {c m : Nat} (h1 : ¬ nA n m = k) (h2 : ¬ nB n m = k) : hm n k c m = 0 := by
  unfold hm
  rw [if_neg h1, if_neg h2]
  rfl
theorem hm_a {m : Nat} (h1 : nA n m = k) (h2 : ¬ nB n m = k) (c : Nat) : hm n k c m = hc n k (nB n m) (nU n m) c := by
  unfold hm
  rw [if_pos h1, if_neg h2, Int.add_zero]
theorem hm_b {m : Nat} (h1 : ¬ nA n m = k) (h2 : nB n m = k) (c : Nat) : hm n k c m = hc n k (nA n m) (nU n m) c := by
  unfold hm
  rw [if_neg h1, if_pos h2, Int.zero_add]
/-- row i while the members below t are told -/
def SR (n : NT) (k i t : Nat) (R : Nat → Int) : Prop := ∀ c, c < nFr n → R (cel i c) = su (hm n k c) t - (if c = i then ow n k t else 0)
theorem ow_bd (hv : NV n) {t : Nat} (ht : t ≤ nM n) : (ow n k t).natAbs ≤ t * 1000 := su_bd (fun m hm => by
  have := hv.2.2.2 m (by omega)
  split <;> omega)
theorem sr_bd (hv : NV n) {c t : Nat} (ht : t ≤ nM n) : (su (hm n k c) t).natAbs ≤ t * 44000 := su_bd (fun m hm' => hm_le hv (by omega))
theorem m56_inc {o m : Nat} {R R0 : Nat → Int} (hv : NV n) (mn : MNt h n) (hk : k < nJ n) (hf : ¬ nF n k = true) (hi' : i = cnt (nF n) k) (hmm : m < nM n) (ho : o < nJ n) (hmo : ∀ c, hm n k c m = hc n k o (nU n m) c) (inc : nA n m = k ∨ nB n m = k) (sr : SR n k i m R) (fr5 : FR5 i R0 R) : ∃ R' : Nat → Int, ru 56 160 [some (.ref 239), some (.int (nI (nFr n))), some (.int (nI k)), some (.int (nI i)), some (.long (lI (ow n k m))), none, some (.long (lI (nL n 0 k + su (hm n k (nFr n)) m))), none, some (.long (lI (nL n 1 k + su (hm n k (nFr n + 1)) m))), none, some (.int (nI m)), some (.int (nI o))] [] (hK h jt mb hi wi rk co ro R s) = ru 56 96 [some (.ref 239), some (.int (nI (nFr n))), some (.int (nI k)), some (.int (nI i)), some (.long (lI (ow n k (m + 1)))), none, some (.long (lI (nL n 0 k + su (hm n k (nFr n)) (m + 1)))), none, some (.long (lI (nL n 1 k + su (hm n k (nFr n + 1)) (m + 1)))), none, some (.int (nI (m + 1))), some (.int (nI o))] [] (hK h jt mb hi wi rk co ro R' s) ∧ SR n k i (m + 1) R' ∧ FR5 i R0 R' := by
  have v1 := hv.1
  have hFr := nFr_le hv
  have hc' : cnt (nF n) k < nFr n := cnt_lt hk hf
  have hu := (hv.2.2.2 m hmm).2.2.2.2
  have p0 := hv.2.1 0 o ho
  have p1 := hv.2.1 1 o ho
  have eo : ordr n k = some i := by unfold ordr; rw [if_neg hf, hi']
  have s1 : ow n k (m + 1) = ow n k m + nU n m := by
    show ow n k m + (if nA n m = k ∨ nB n m = k then nU n m else 0) = _
    rw [if_pos inc]
  have s2 : ∀ c, su (hm n k c) (m + 1) = su (hm n k c) m + hc n k o (nU n m) c := fun c => by
    show su (hm n k c) m + hm n k c m = _
    rw [hmo]
  have g1 := MNt.u (α := eR) mn hv hmm
  have g2 := MNt.fx (α := eR) mn hv ho
  have l1 : (iI (nU n m)).toInt64 = lI (nU n m) := iI_l (iok_s (by omega))
  by_cases q : nF n o = true
  · have on : ordr n o = none := by unfold ordr; rw [if_pos q]
    have hcv : ∀ c, hc n k o (nU n m) c = (if c = i then nU n m else 0) + (if c = nFr n then nU n m * nP n 0 o else if c = nFr n + 1 then nU n m * nP n 1 o else 0) := by
      intro c
      unfold hc
      rw [eo, on, if_pos q]
      by_cases qc : c = i
      · rw [if_pos qc, if_pos (by rw [qc]), if_neg (fun e => by cases e)]; omega
      · rw [if_neg qc, if_neg (fun e => qc (by cases e; rfl)), if_neg (fun e => by cases e)]; omega
    have t0 : hc n k o (nU n m) (nFr n) = nU n m * nP n 0 o := by rw [hcv, if_neg (by omega), if_pos rfl, Int.zero_add]
    have t1 : hc n k o (nU n m) (nFr n + 1) = nU n m * nP n 1 o := by rw [hcv, if_neg (by omega), if_neg (by omega), if_pos rfl, Int.zero_add]
    refine ⟨R, ?_, fun c hcc => ?_, fr5⟩
    · rw [s1, s2, s2, t0, t1]
      rw [q] at g2
      simp only [S56, gFs, pFs, okq, bls, bo_true, eUp_at, eUp_eUp, eKls, cl_some, Option.toList_some, Option.toList_none, List.cons_append, List.nil_append, hK_o, hK_hs, g1, g2, l1, lI_add]
      rw [if_neg (show ¬ ldI true = 0 by decide)]
      simp only [S56, gFs, pFs, okq, bls, bo_true, eUp_at, eUp_eUp, eKls, cl_some, Option.toList_some, Option.toList_none, List.cons_append, List.nil_append, hK_o, hK_hs, g1, MNt.x (α := eR) mn hv ho, MNt.y (α := eR) mn hv ho, l1, iI_l (iok_s (show (nP n 0 o).natAbs ≤ 1000000000 by omega)), iI_l (iok_s (show (nP n 1 o).natAbs ≤ 1000000000 by omega)), lI_mul, lI_add]
      rw [nI_1, Int.add_assoc, Int.add_assoc]
    · rw [sr c hcc, s2, s1, hcv, if_neg (show ¬ c = nFr n by omega), if_neg (show ¬ c = nFr n + 1 by omega)]
      split <;> omega
  · have on : ordr n o = some (cnt (nF n) o) := by unfold ordr; rw [if_neg q]
    have hj : cnt (nF n) o < nFr n := cnt_lt ho q
    obtain ⟨j, hj'⟩ : ∃ j, j = cnt (nF n) o := ⟨_, rfl⟩
    rw [← hj'] at on hj
    have hcv : ∀ c, hc n k o (nU n m) c = (if c = i then nU n m else 0) - (if c = j then nU n m else 0) := by
      intro c
      unfold hc
      rw [eo, on, if_neg q]
      by_cases qc : c = i
      · rw [if_pos qc, if_pos (by rw [qc])]
        by_cases qj : c = j
        · rw [if_pos qj, if_pos (by rw [qj])]; omega
        · rw [if_neg qj, if_neg (fun e => qj (by cases e; rfl))]; omega
      · rw [if_neg qc, if_neg (fun e => qc (by cases e; rfl))]
        by_cases qj : c = j
        · rw [if_pos qj, if_pos (by rw [qj])]; omega
        · rw [if_neg qj, if_neg (fun e => qj (by cases e; rfl))]; omega
    have t0 : hc n k o (nU n m) (nFr n) = 0 := by rw [hcv, if_neg (by omega), if_neg (by omega)]; rfl
    have t1 : hc n k o (nU n m) (nFr n + 1) = 0 := by rw [hcv, if_neg (by omega), if_neg (by omega)]; rfl
    have ff : (nF n o) = false := by cases z : nF n o with | true => exact absurd z q | false => rfl
    rw [ff] at g2
    have b1 := sr_bd (n := n) (k := k) (c := j) hv (show m ≤ nM n by omega)
    have b2 := ow_bd (n := n) (k := k) hv (show m ≤ nM n by omega)
    have rj : (R (cel i j)).natAbs ≤ 1000000 := by
      rw [sr j hj]
      split <;> omega
    have e1 := m12 (h := h) (jt := jt) (mb := mb) (hi := hi) (wi := wi) (rk := rk) (co := co) (ro := ro) (s := s) (R := R) (v := - nU n m) (show 5 < 412 by decide) (by omega)
    have e2 := m13 (h := h) (jt := jt) (mb := mb) (hi := hi) (wi := wi) (rk := rk) (co := co) (ro := ro) (s := s) (R := ur R 5 (- nU n m)) hv mn ho
    rw [on] at e2
    have cn : cel i j ≠ 5 := by unfold cel; omega
    have e3 := m15 (h := h) (jt := jt) (mb := mb) (hi := hi) (wi := wi) (rk := rk) (co := co) (ro := ro) (s := s) (R := ur R 5 (- nU n m)) (t := 1) (a := cel i j) (b := 5) (by unfold cel; omega) (by decide) (fun e => cn e.symm) (by rw [ur_ne cn]; exact n23_s (by omega)) (by rw [ur_at]; exact n23_s (by omega)) (by decide)
    rw [ur_ne cn, ur_at] at e3
    have u1 : 20 + 17 * i + j = cel i j := rfl
    refine ⟨ur (ur R 5 (- nU n m)) (cel i j) (R (cel i j) + - nU n m * 1), ?_, fun c hcc => ?_, (fr5.up5).up' (by omega)⟩
    · rw [s1, s2, s2, t0, t1]
      simp only [S56, gFs, pFs, okq, bls, bo_true, eUp_at, eUp_eUp, eKls, cl_some, Option.toList_some, Option.toList_none, List.cons_append, List.nil_append, hK_o, hK_hs, g1, g2, l1, lI_add]
      rw [if_pos (show ldI false = 0 by decide)]
      simp only [S56, gFs, pFs, okq, bls, bo_true, eUp_at, eUp_eUp, eKls, cl_some, Option.toList_some, Option.toList_none, List.cons_append, List.nil_append, hK_o, hK_hs, g1, iI_neg, iI_l (iok_s (show (- nU n m).natAbs ≤ 1000000000 by omega)), e1, e2, show roI (some j) = nI j from rfl, m21, u1, show (lN 1 : Int64) = lI 1 from rfl, e3]
      rw [nI_1, Int.add_zero, Int.add_zero]
    · by_cases qj : c = j
      · rw [qj, ur_at, sr j hj, s2, s1, hcv, if_pos rfl]
        split <;> omega
      · rw [ur_ne (fun e => qj ((cel_inj (by omega) (by omega)).mp e).2), ur_ne (by unfold cel; omega), sr c hcc, s2, s1, hcv, if_neg qj]
        split <;> omega
theorem m56_mem {R0 : Nat → Int} (hv : NV n) (mn : MNt h n) (hk : k < nJ n) (hf : ¬ nF n k = true) (hi' : i = cnt (nF n) k) : ∀ r m (R : Nat → Int) (x11 : Option Value), m + r = nM n → SR n k i m R → FR5 i R0 R → ∃ (R' : Nat → Int) (y11 : Option Value), ru 56 96 [some (.ref 239), some (.int (nI (nFr n))), some (.int (nI k)), some (.int (nI i)), some (.long (lI (ow n k m))), none, some (.long (lI (nL n 0 k + su (hm n k (nFr n)) m))), none, some (.long (lI (nL n 1 k + su (hm n k (nFr n + 1)) m))), none, some (.int (nI m)), x11] [] (hK h jt (nI (nM n)) hi wi rk co ro R s) = ru 56 267 [some (.ref 239), some (.int (nI (nFr n))), some (.int (nI k)), some (.int (nI i)), some (.long (lI (ow n k (nM n)))), none, some (.long (lI (nL n 0 k + su (hm n k (nFr n)) (nM n)))), none, some (.long (lI (nL n 1 k + su (hm n k (nFr n + 1)) (nM n)))), none, some (.int (nI (nM n))), y11] [] (hK h jt (nI (nM n)) hi wi rk co ro R' s) ∧ SR n k i (nM n) R' ∧ FR5 i R0 R' := by
  have v1 := hv.1
  intro r
  induction r with
  | zero =>
    intro m R x11 hm k1 k2
    have : m = nM n := by omega
    subst this
    refine ⟨R, x11, ?_, k1, k2⟩
    rw [H56_96]
    simp only [S56, gFs, pFs, okq, bls, bo_true, eUp_at, eUp_eUp, eKls, cl_some, Option.toList_some, Option.toList_none, List.cons_append, List.nil_append, hK_o]
    rw [if_pos (nI_le (Nat.le_refl _) (by omega))]
  | succ r ih =>
    intro m R x11 hm' k1 k2
    have hmm : m < nM n := by omega
    obtain ⟨w1, w2, w3, -⟩ := hv.2.2.2 m hmm
    have g1 := MNt.a (α := eR) mn hv hmm
    have g2 := MNt.b (α := eR) mn hv hmm
    by_cases qa : nA n m = k
    · have qb : ¬ nB n m = k := by omega
      obtain ⟨R1, z1, z2, z3⟩ := m56_inc (h := h) (jt := jt) (mb := nI (nM n)) (hi := hi) (wi := wi) (rk := rk) (co := co) (ro := ro) (s := s) hv mn hk hf hi' hmm w2 (hm_a qa qb) (Or.inl qa) k1 k2
      obtain ⟨R', y11, y1, y2⟩ := ih (m + 1) R1 (some (.int (nI (nB n m)))) (by omega) z2 z3
      refine ⟨R', y11, ?_, y2⟩
      rw [← y1, ← z1, H56_96]
      simp only [S56, gFs, pFs, okq, bls, bo_true, eUp_at, eUp_eUp, eKls, cl_some, Option.toList_some, Option.toList_none, List.cons_append, List.nil_append, hK_o, hK_hs, g1, g2]
      rw [if_neg (nI_ge hmm (by omega)), if_pos (by rw [qa]), if_pos (by rw [qa])]
    · by_cases qb : nB n m = k
      · obtain ⟨R1, z1, z2, z3⟩ := m56_inc (h := h) (jt := jt) (mb := nI (nM n)) (hi := hi) (wi := wi) (rk := rk) (co := co) (ro := ro) (s := s) hv mn hk hf hi' hmm w1 (hm_b qa qb) (Or.inr qb) k1 k2
        obtain ⟨R', y11, y1, y2⟩ := ih (m + 1) R1 (some (.int (nI (nA n m)))) (by omega) z2 z3
        refine ⟨R', y11, ?_, y2⟩
        have qa' : ¬ nI (nA n m) = nI k := fun e => qa ((nI_inj (by omega) (by omega)).mp e)
        rw [← y1, ← z1, H56_96]
        simp only [S56, gFs, pFs, okq, bls, bo_true, eUp_at, eUp_eUp, eKls, cl_some, Option.toList_some, Option.toList_none, List.cons_append, List.nil_append, hK_o, hK_hs, g1, g2]
        rw [if_neg (nI_ge hmm (by omega)), if_neg qa', if_pos (by rw [qb]), if_neg qa']
      · have qa' : ¬ nI (nA n m) = nI k := fun e => qa ((nI_inj (by omega) (by omega)).mp e)
        have qb' : ¬ nI (nB n m) = nI k := fun e => qb ((nI_inj (by omega) (by omega)).mp e)
        have s1 : ow n k (m + 1) = ow n k m := by
          show ow n k m + (if nA n m = k ∨ nB n m = k then nU n m else 0) = _
          rw [if_neg (fun e => e.elim qa qb), Int.add_zero]
        have s2 : ∀ c, su (hm n k c) (m + 1) = su (hm n k c) m := fun c => by
          show su (hm n k c) m + hm n k c m = _
          rw [hm_no qa qb, Int.add_zero]
        obtain ⟨R', y11, y1, y2⟩ := ih (m + 1) R x11 (by omega) (fun c hc => by rw [s1, s2]; exact k1 c hc) k2
        rw [s1, s2, s2] at y1
        refine ⟨R', y11, ?_, y2⟩
        rw [← y1, H56_96]
        simp only [S56, gFs, pFs, okq, bls, bo_true, eUp_at, eUp_eUp, eKls, cl_some, Option.toList_some, Option.toList_none, List.cons_append, List.nil_append, hK_o, hK_hs, g1, g2]
        rw [if_neg (nI_ge hmm (by omega)), if_neg qa', if_neg qb', nI_1]
end SH1
