/-! THE REFERENCE: stiff, whole -/
section SF2
variable {h : eH} {g : SG} {n : NT} {jt mb hi wi rk co : Int32} {ro : Nat → Int32} {s : SC} {R : Nat → Int}
def FDn (n : NT) (R : Nat → Int) (many i j : Nat) : Prop := ∀ i' j', j' < many → (i' < i ∨ (i' = i ∧ j' < j)) → R (382 + 3 * i' + j') = frm n (sN n) (2 * nFr n) i' j' (nM n)
def P72 (k : Nat) : Prop := k = 4 ∨ k = 5 ∨ k = 6 ∨ (382 ≤ k ∧ k < 391)
theorem m72_j {i many : Nat} {R0 : Nat → Int} (hv : NV n) (mn : MNt h n) (hm3 : many ≤ 3) (hi3 : i < many) : ∀ r j (R : Nat → Int) (s : SC) (x4 x5 : Option Value), j + r = many → (∀ i', i' < many → KPi n R i') → FDn n R many i j → Kr P72 R0 R → ∃ (R' : Nat → Int) (s' : SC) (y4 y5 : Option Value), ru 72 101 [some (.ref 239), some (.int (nI many)), some (.int (nI i)), some (.int (nI j)), x4, x5] [] (hK h jt (nI (nM n)) hi wi rk co ro R s) = ru 72 204 [some (.ref 239), some (.int (nI many)), some (.int (nI i)), some (.int (nI many)), y4, y5] [] (hK h jt (nI (nM n)) hi wi rk co ro R' s') ∧ (∀ i', i' < many → KPi n R' i') ∧ FDn n R' many i many ∧ Kr P72 R0 R' := by
  have v1 := hv.1
  have hFr := nFr_le hv
  intro r
  induction r with
  | zero =>
    intro j R s x4 x5 hj kp fd k2
    have e : j = many := by omega
    rw [e] at fd ⊢
    refine ⟨R, s, x4, x5, ?_, kp, fd, k2⟩
    rw [H72_101]
    simp only [S72, gFs, pFs, okq, bls, bo_true, eUp_at, eUp_eUp, eKls, cl_some, Option.toList_some, Option.toList_none, List.cons_append, List.nil_append]
    rw [if_pos (nI_le (Nat.le_refl _) (by omega))]
  | succ r ih =>
    intro j R s x4 x5 hj kp fd k2
    have hjm : j < many := by omega
    have e0 := m12 (h := h) (jt := jt) (mb := nI (nM n)) (hi := hi) (wi := wi) (rk := rk) (co := co) (ro := ro) (s := s) (R := R) (a := 382 + 3 * i + j) (v := 0) (by omega) (by decide)
    have k0 : Kr (fun k => k = 382 + 3 * i + j) R (ur R (382 + 3 * i + j) 0) := (Kr.refl _ R).up' rfl
    have pk0 : ∀ c, 292 ≤ c → c < 340 → ¬ (c = 382 + 3 * i + j) := fun c h1 h2 => by omega
    obtain ⟨R1, s1, y5, e1, z1, k1⟩ := m72_m (h := h) (jt := jt) (hi := hi) (wi := wi) (rk := rk) (co := co) (ro := ro) (many := many) (R0 := ur R (382 + 3 * i + j) 0) hv mn (show i < 3 by omega) (show j < 3 by omega) (nM n) 0 (ur R (382 + 3 * i + j) 0) s x5 (by omega) ((kp i (by omega)).kr k0 (by omega) hFr pk0) ((kp j (by omega)).kr k0 (by omega) hFr pk0) (by rw [ur_at]; rfl) (Kr.refl _ _)
    have k01 : Kr (fun k => k = 4 ∨ k = 5 ∨ k = 6 ∨ k = 382 + 3 * i + j) R R1 := (k0.mono (fun k e => by omega)).trans k1
    have pk1 : ∀ c, 292 ≤ c → c < 340 → ¬ (c = 4 ∨ c = 5 ∨ c = 6 ∨ c = 382 + 3 * i + j) := fun c h1 h2 => by omega
    obtain ⟨R', s', y4', y5', w1, w2⟩ := ih (j + 1) R1 s1 (some (.int (nI (nM n)))) y5 (by omega) (fun i' hi' => (kp i' hi').kr k01 (by omega) hFr pk1) (fun i' j' hj' hh => by
      by_cases q : i' = i ∧ j' = j
      · rw [q.1, q.2]; exact z1
      · rw [k01 _ (by omega)]
        exact fd i' j' hj' (by omega)) (k2.trans (k01.mono (fun k e => by unfold P72; omega)))
    refine ⟨R', s', y4', y5', ?_, w2⟩
    rw [← w1, H72_101]
    simp only [S72, gFs, pFs, okq, bls, bo_true, eUp_at, eUp_eUp, eKls, cl_some, Option.toList_some, Option.toList_none, List.cons_append, List.nil_append]
    rw [if_neg (nI_ge hjm (by omega))]
    simp only [S72, gFs, pFs, okq, bls, bo_true, eUp_at, eUp_eUp, eKls, cl_some, Option.toList_some, Option.toList_none, List.cons_append, List.nil_append, m51, show (lN 0 : Int64) = lI 0 from rfl, e0]
    rw [e1, H72_198]
    simp only [S72, gFs, pFs, okq, bls, bo_true, eUp_at, eUp_eUp, eKls, cl_some, Option.toList_some, Option.toList_none, List.cons_append, List.nil_append]
    rw [nI_1]
theorem m72_i {many : Nat} {R0 : Nat → Int} (hv : NV n) (mn : MNt h n) (hm3 : many ≤ 3) : ∀ r i (R : Nat → Int) (s : SC) (x3 x4 x5 : Option Value), i + r = many → (∀ i', i' < many → KPi n R i') → FDn n R many i 0 → Kr P72 R0 R → ∃ (R' : Nat → Int) (s' : SC) (y3 y4 y5 : Option Value), ru 72 94 [some (.ref 239), some (.int (nI many)), some (.int (nI i)), x3, x4, x5] [] (hK h jt (nI (nM n)) hi wi rk co ro R s) = ru 72 210 [some (.ref 239), some (.int (nI many)), some (.int (nI many)), y3, y4, y5] [] (hK h jt (nI (nM n)) hi wi rk co ro R' s') ∧ FDn n R' many many 0 ∧ Kr P72 R0 R' := by
  intro r
  induction r with
  | zero =>
    intro i R s x3 x4 x5 hi' kp fd k2
    have e : i = many := by omega
    rw [e] at fd ⊢
    refine ⟨R, s, x3, x4, x5, ?_, fd, k2⟩
    rw [H72_94]
    simp only [S72, gFs, pFs, okq, bls, bo_true, eUp_at, eUp_eUp, eKls, cl_some, Option.toList_some, Option.toList_none, List.cons_append, List.nil_append]
    rw [if_pos (nI_le (Nat.le_refl _) (by omega))]
  | succ r ih =>
    intro i R s x3 x4 x5 hi' kp fd k2
    obtain ⟨R1, s1, y4, y5, e1, kp1, fd1, k1⟩ := m72_j (h := h) (jt := jt) (hi := hi) (wi := wi) (rk := rk) (co := co) (ro := ro) (R0 := R0) hv mn hm3 (show i < many by omega) many 0 R s x4 x5 (by omega) kp fd k2
    obtain ⟨R', s', y3', y4', y5', w1, w2⟩ := ih (i + 1) R1 s1 (some (.int (nI many))) y4 y5 (by omega) kp1 (fun i' j' hj' hh => fd1 i' j' hj' (by omega)) k1
    refine ⟨R', s', y3', y4', y5', ?_, w2⟩
    rw [← w1, H72_94]
    simp only [S72, gFs, pFs, okq, bls, bo_true, eUp_at, eUp_eUp, eKls, cl_some, Option.toList_some, Option.toList_none, List.cons_append, List.nil_append]
    rw [if_neg (nI_ge (by omega) (by omega)), e1, H72_204]
    simp only [S72, gFs, pFs, okq, bls, bo_true, eUp_at, eUp_eUp, eKls, cl_some, Option.toList_some, Option.toList_none, List.cons_append, List.nil_append]
    rw [nI_1]
/-- the sum of the third minor -/
def s3 (F : Nat → Nat → Int) : Nat → Int
  | 0 => 0
  | j + 1 => s3 F j + F 0 j * (F 1 ((j + 1) % 3) * F 2 ((j + 2) % 3) - F 1 ((j + 2) % 3) * F 2 ((j + 1) % 3))
theorem s3_3 (F : Nat → Nat → Int) : s3 F 3 = q3 F := by
  show 0 + F 0 0 * (F 1 1 * F 2 2 - F 1 2 * F 2 1) + F 0 1 * (F 1 2 * F 2 0 - F 1 0 * F 2 2) + F 0 2 * (F 1 0 * F 2 1 - F 1 1 * F 2 0) = _
  unfold q3
  omega
theorem s3_bd {F : Nat → Nat → Int} {B : Nat} (hF : ∀ i j, i < 3 → j < 3 → (F i j).natAbs ≤ B) : ∀ j, j ≤ 3 → (s3 F j).natAbs ≤ j * (B * (2 * (B * B))) := by
  intro j
  induction j with
  | zero => intro _; show (0 : Int).natAbs ≤ _; omega
  | succ j ih =>
    intro hj
    have h1 := ih (by omega)
    have l1 : (j + 1) % 3 < 3 := Nat.mod_lt _ (by decide)
    have l2 : (j + 2) % 3 < 3 := Nat.mod_lt _ (by decide)
    have p1 := mul_le2 (hF 1 _ (by decide) l1) (hF 2 _ (by decide) l2)
    have p2 := mul_le2 (hF 1 _ (by decide) l2) (hF 2 _ (by decide) l1)
    have p3 : (F 1 ((j + 1) % 3) * F 2 ((j + 2) % 3) - F 1 ((j + 2) % 3) * F 2 ((j + 1) % 3)).natAbs ≤ 2 * (B * B) := by omega
    have p4 := mul_le2 (hF 0 j (by decide) (by omega)) p3
    rw [Nat.succ_mul]
    show (s3 F j + F 0 j * (F 1 ((j + 1) % 3) * F 2 ((j + 2) % 3) - F 1 ((j + 2) % 3) * F 2 ((j + 1) % 3))).natAbs ≤ _
    omega
theorem m72_t3 {many : Nat} {x3 x4 x5 : Option Value} {F : Nat → Nat → Int} {B : Nat} {R0 : Nat → Int} (hR : ∀ i j, i < 3 → j < 3 → R0 (382 + 3 * i + j) = F i j) (hF : ∀ i j, i < 3 → j < 3 → (F i j).natAbs ≤ B) (hB : 4 * (B * (2 * (B * B))) < BB ^ 23) (hB2 : 2 * (B * B) < BB ^ 23) (hB1 : B < BB ^ 23) : ∀ r j (R : Nat → Int) (s : SC), j + r = 3 → R 395 = s3 F j → Kr (fun k => k = 6 ∨ k = 7 ∨ k = 394 ∨ k = 395) R0 R → ∃ (R' : Nat → Int) (s' : SC), ru 72 272 [some (.ref 239), some (.int (nI many)), some (.int (nI j)), x3, x4, x5] [] (hK h jt mb hi wi rk co ro R s) = ru 72 327 [some (.ref 239), some (.int (nI many)), some (.int (nI 3)), x3, x4, x5] [] (hK h jt mb hi wi rk co ro R' s') ∧ R' 395 = q3 F ∧ Kr (fun k => k = 6 ∨ k = 7 ∨ k = 394 ∨ k = 395) R0 R' := by
  intro r
  induction r with
  | zero =>
    intro j R s hj k1 k2
    have : j = 3 := by omega
    subst this
    refine ⟨R, s, ?_, by rw [k1, s3_3], k2⟩
    rw [H72_272]
    simp only [S72, gFs, pFs, okq, bls, bo_true, eUp_at, eUp_eUp, eKls, cl_some, Option.toList_some, Option.toList_none, List.cons_append, List.nil_append]
    rw [if_pos (by decide)]
  | succ r ih =>
    intro j R s hj k1 k2
    have hj3 : j < 3 := by omega
    obtain ⟨i1, hi1⟩ : ∃ i1, i1 = (j + 1) % 3 := ⟨_, rfl⟩
    obtain ⟨i2, hi2⟩ : ∃ i2, i2 = (j + 2) % 3 := ⟨_, rfl⟩
    have l1 : i1 < 3 := by omega
    have l2 : i2 < 3 := by omega
    have c1 : nI (j + 1) - nI (j + 1) / nI 3 * nI 3 = nI i1 := by
      rcases (by omega : j = 0 ∨ j = 1 ∨ j = 2) with e | e | e <;> subst e <;> subst hi1 <;> decide
    have c2 : nI (j + 2) - nI (j + 2) / nI 3 * nI 3 = nI i2 := by
      rcases (by omega : j = 0 ∨ j = 1 ∨ j = 2) with e | e | e <;> subst e <;> subst hi2 <;> decide
    have rF : ∀ a b, a < 3 → b < 3 → R (382 + 3 * a + b) = F a b := fun a b ha hb => (k2 _ (by omega)).trans (hR a b ha hb)
    obtain ⟨s1, e1⟩ := m64 (h := h) (jt := jt) (mb := mb) (hi := hi) (wi := wi) (rk := rk) (co := co) (ro := ro) (s := s) (R := R) (a := 1) (b := 2) (c := i1) (d := i2) (pl := 394) (B := B) (by decide) (by decide) l1 l2 (by decide) (by rw [rF 1 i1 (by decide) l1]; exact hF 1 i1 (by decide) l1) (by rw [rF 2 i2 (by decide) l2]; exact hF 2 i2 (by decide) l2) (by rw [rF 1 i2 (by decide) l2]; exact hF 1 i2 (by decide) l2) (by rw [rF 2 i1 (by decide) l1]; exact hF 2 i1 (by decide) l1) hB2 hB1
    rw [rF 1 i1 (by decide) l1, rF 2 i2 (by decide) l2, rF 1 i2 (by decide) l2, rF 2 i1 (by decide) l1] at e1
    obtain ⟨R1, hR1⟩ : ∃ R1, R1 = ur (ur (ur R 6 (F 1 i1 * F 2 i2)) 7 (F 1 i2 * F 2 i1)) 394 (F 1 i1 * F 2 i2 - F 1 i2 * F 2 i1) := ⟨_, rfl⟩
    rw [← hR1] at e1
    have kR1 : ∀ k, k ≠ 6 → k ≠ 7 → k ≠ 394 → R1 k = R k := fun k h1 h2 h3 => by rw [hR1, ur_ne h3, ur_ne h2, ur_ne h1]
    have g394 : R1 394 = F 1 i1 * F 2 i2 - F 1 i2 * F 2 i1 := by rw [hR1, ur_at]
    have gF : R1 (382 + 3 * 0 + j) = F 0 j := by rw [kR1 _ (by omega) (by omega) (by omega)]; exact rF 0 j (by decide) hj3
    have p1 := mul_le2 (hF 1 i1 (by decide) l1) (hF 2 i2 (by decide) l2)
    have p2 := mul_le2 (hF 1 i2 (by decide) l2) (hF 2 i1 (by decide) l1)
    have p3 : (F 1 i1 * F 2 i2 - F 1 i2 * F 2 i1).natAbs ≤ 2 * (B * B) := by omega
    have p4 := mul_le2 (hF 0 j (by decide) hj3) p3
    obtain ⟨s2, e2⟩ := m27 (h := h) (jt := jt) (mb := mb) (hi := hi) (wi := wi) (rk := rk) (co := co) (ro := ro) (s := s1) (R := R1) (t := 6) (a := 382 + 3 * 0 + j) (b := 394) (by decide) (by omega) (by decide) (by rw [gF]; exact n23_le (hF 0 j (by decide) hj3) hB1) (by rw [g394]; exact n23_le p3 hB2) (by rw [gF, g394]; exact n23_le p4 (by omega))
    rw [gF, g394] at e2
    have f395 : ur R1 6 (F 0 j * (F 1 i1 * F 2 i2 - F 1 i2 * F 2 i1)) 395 = s3 F j := by rw [ur_ne (by decide), kR1 395 (by decide) (by decide) (by decide)]; exact k1
    have b3 := s3_bd hF j (by omega)
    have b3' : j * (B * (2 * (B * B))) ≤ 3 * (B * (2 * (B * B))) := Nat.mul_le_mul_right _ (by omega)
    have e3 := m15 (h := h) (jt := jt) (mb := mb) (hi := hi) (wi := wi) (rk := rk) (co := co) (ro := ro) (s := s2) (R := ur R1 6 (F 0 j * (F 1 i1 * F 2 i2 - F 1 i2 * F 2 i1))) (t := 1) (a := 395) (b := 6) (by decide) (by decide) (by decide) (by rw [f395]; exact n23_le b3 (by omega)) (by rw [ur_at]; exact n23_le p4 (by omega)) (by decide)
    rw [f395, ur_at, Int.mul_one] at e3
    obtain ⟨R', s', w1, w2⟩ := ih (j + 1) (ur (ur R1 6 (F 0 j * (F 1 i1 * F 2 i2 - F 1 i2 * F 2 i1))) 395 (s3 F j + F 0 j * (F 1 i1 * F 2 i2 - F 1 i2 * F 2 i1))) s2 (by omega) (by rw [ur_at, hi1, hi2]; rfl) (fun k hk => by
      rw [ur_ne (by omega), ur_ne (by omega), kR1 k (by omega) (by omega) (by omega)]
      exact k2 k hk)
    refine ⟨R', s', ?_, w2⟩
    rw [← w1, H72_272]
    simp only [S72, gFs, pFs, okq, bls, bo_true, eUp_at, eUp_eUp, eKls, cl_some, Option.toList_some, Option.toList_none, List.cons_append, List.nil_append, if_neg (show ¬ nI 3 = 0 by decide), nI_add, c1, c2]
    rw [if_neg (nI_ge hj3 (by decide))]
    simp only [S72, gFs, pFs, okq, bls, bo_true, eUp_at, eUp_eUp, eKls, cl_some, Option.toList_some, Option.toList_none, List.cons_append, List.nil_append, e1, m51, e2, show (lN 1 : Int64) = lI 1 from rfl, e3]
    rw [nI_1]
theorem m72_t {many : Nat} {x2 x3 x4 x5 : Option Value} {F : Nat → Nat → Int} {B : Nat} (hm3 : many ≤ 3) (hR : ∀ i j, i < many → j < many → R (382 + 3 * i + j) = F i j) (hF : ∀ i j, i < many → j < many → (F i j).natAbs ≤ B) (hB : 3 ≤ many → 4 * (B * (2 * (B * B))) < BB ^ 23) (hB2 : 2 * (B * B) < BB ^ 23) (hB1 : B < BB ^ 23) : ∃ (R' : Nat → Int) (s' : SC) (b : Bool), ru 72 210 [some (.ref 239), some (.int (nI many)), x2, x3, x4, x5] [] (hK h jt mb hi wi rk co ro R s) = some (some (.int (ldI b)), hK h jt mb hi wi rk co ro R' s') ∧ (b = true ↔ (1 ≤ many → 0 < F 0 0) ∧ (2 ≤ many → 0 < q2 F) ∧ (3 ≤ many → 0 < q3 F)) ∧ Kr (fun c => 1 < c) R R' := by
  have l0 : ∀ z : Nat, z ≤ 3 → (nI many ≤ nI z ↔ many ≤ z) := fun z hz => nI_le' (by omega) (by omega)
  rcases (by omega : many = 0 ∨ 1 ≤ many) with h0 | h1
  · refine ⟨R, s, true, ?_, ⟨fun _ => ⟨fun e => by omega, fun e => by omega, fun e => by omega⟩, fun _ => rfl⟩, Kr.refl _ _⟩
    rw [H72_210]
    simp only [S72, gFs, pFs, okq, bls, bo_true, eUp_at, eUp_eUp, eKls, cl_some, Option.toList_some, Option.toList_none, List.cons_append, List.nil_append]
    rw [if_pos ((nI_le0 (by omega)).mpr h0), if_pos ((l0 1 (by decide)).mpr (by omega)), if_pos ((l0 2 (by decide)).mpr (by omega))]
    rfl
  · have r00 : R (382 + 3 * 0 + 0) = F 0 0 := hR 0 0 h1 h1
    have e1 := m42 (h := h) (jt := jt) (mb := mb) (hi := hi) (wi := wi) (rk := rk) (co := co) (ro := ro) (s := s) (R := R) (a := 382 + 3 * 0 + 0) (by decide) (by rw [r00]; exact n23_le (hF 0 0 h1 h1) hB1)
    rw [r00] at e1
    have n0 : ¬ nI many ≤ 0 := fun e => by have := (nI_le0 (by omega)).mp e; omega
    by_cases p1 : 0 < F 0 0
    · rcases (by omega : many = 1 ∨ 2 ≤ many) with h2 | h2
      · refine ⟨R, s, true, ?_, ⟨fun _ => ⟨fun _ => p1, fun e => by omega, fun e => by omega⟩, fun _ => rfl⟩, Kr.refl _ _⟩
        rw [H72_210]
        simp only [S72, gFs, pFs, okq, bls, bo_true, eUp_at, eUp_eUp, eKls, cl_some, Option.toList_some, Option.toList_none, List.cons_append, List.nil_append, m51, e1]
        rw [if_neg n0, if_pos (sgn_lt.2.1.mpr p1), if_pos ((l0 1 (by decide)).mpr (by omega)), if_pos ((l0 2 (by decide)).mpr (by omega))]
        rfl
      · have r01 : R (382 + 3 * 0 + 1) = F 0 1 := hR 0 1 (by omega) (by omega)
        have r10 : R (382 + 3 * 1 + 0) = F 1 0 := hR 1 0 (by omega) (by omega)
        have r11 : R (382 + 3 * 1 + 1) = F 1 1 := hR 1 1 (by omega) (by omega)
        have f01 := hF 0 1 (by omega) (by omega)
        have f10 := hF 1 0 (by omega) (by omega)
        have f11 := hF 1 1 (by omega) (by omega)
        have f00 := hF 0 0 h1 h1
        obtain ⟨s1, e2⟩ := m64 (h := h) (jt := jt) (mb := mb) (hi := hi) (wi := wi) (rk := rk) (co := co) (ro := ro) (s := s) (R := R) (a := 0) (b := 1) (c := 0) (d := 1) (pl := 394) (B := B) (by decide) (by decide) (by decide) (by decide) (by decide) (by rw [r00]; exact f00) (by rw [r11]; exact f11) (by rw [r01]; exact f01) (by rw [r10]; exact f10) hB2 hB1
        rw [r00, r01, r10, r11] at e2
        obtain ⟨R1, hR1⟩ : ∃ R1, R1 = ur (ur (ur R 6 (F 0 0 * F 1 1)) 7 (F 0 1 * F 1 0)) 394 (F 0 0 * F 1 1 - F 0 1 * F 1 0) := ⟨_, rfl⟩
        rw [← hR1] at e2
        have kR1 : ∀ k, k ≠ 6 → k ≠ 7 → k ≠ 394 → R1 k = R k := fun k h1 h2 h3 => by rw [hR1, ur_ne h3, ur_ne h2, ur_ne h1]
        have g394 : R1 394 = q2 F := by rw [hR1, ur_at]; rfl
        have bq2 : (q2 F).natAbs ≤ 2 * (B * B) := by
          have p3 := mul_le2 f00 f11
          have p4 := mul_le2 f01 f10
          unfold q2
          omega
        have e3 := m42 (h := h) (jt := jt) (mb := mb) (hi := hi) (wi := wi) (rk := rk) (co := co) (ro := ro) (s := s1) (R := R1) (a := 394) (by decide) (by rw [g394]; exact n23_le bq2 hB2)
        rw [g394] at e3
        have n1 : ¬ nI many ≤ nI 1 := fun e => by have := (l0 1 (by decide)).mp e; omega
        have kr1 : Kr (fun c => 1 < c) R R1 := fun k hk => kR1 k (by omega) (by omega) (by omega)
        by_cases p2 : 0 < q2 F
        · rcases (by omega : many = 2 ∨ many = 3) with h3 | h3
          · refine ⟨R1, s1, true, ?_, ⟨fun _ => ⟨fun _ => p1, fun _ => p2, fun e => by omega⟩, fun _ => rfl⟩, kr1⟩
            rw [H72_210]
            simp only [S72, gFs, pFs, okq, bls, bo_true, eUp_at, eUp_eUp, eKls, cl_some, Option.toList_some, Option.toList_none, List.cons_append, List.nil_append, m51, e1]
            rw [if_neg n0, if_pos (sgn_lt.2.1.mpr p1), if_neg n1]
            simp only [S72, gFs, pFs, okq, bls, bo_true, eUp_at, eUp_eUp, eKls, cl_some, Option.toList_some, Option.toList_none, List.cons_append, List.nil_append, e2, e3]
            rw [if_pos (sgn_lt.2.1.mpr p2), if_pos ((l0 2 (by decide)).mpr (by omega))]
            rfl
          · have n2 : ¬ nI many ≤ nI 2 := fun e => by have := (l0 2 (by decide)).mp e; omega
            have e4 := m12 (h := h) (jt := jt) (mb := mb) (hi := hi) (wi := wi) (rk := rk) (co := co) (ro := ro) (s := s1) (R := R1) (a := 395) (v := 0) (by decide) (by decide)
            obtain ⟨R2, s2, e5, z5, k5⟩ := m72_t3 (h := h) (jt := jt) (mb := mb) (hi := hi) (wi := wi) (rk := rk) (co := co) (ro := ro) (many := many) (x3 := x3) (x4 := x4) (x5 := x5) (F := F) (B := B) (R0 := ur R1 395 0) (fun i j hi' hj' => by rw [ur_ne (by omega), kR1 _ (by omega) (by omega) (by omega)]; exact hR i j (by omega) (by omega)) (fun i j hi' hj' => hF i j (by omega) (by omega)) (hB (by omega)) hB2 hB1 3 0 (ur R1 395 0) s1 (by decide) (by rw [ur_at]; rfl) (Kr.refl _ _)
            have bq3 : (q3 F).natAbs ≤ 3 * (B * (2 * (B * B))) := by rw [← s3_3]; exact s3_bd (fun i j hi' hj' => hF i j (by omega) (by omega)) 3 (Nat.le_refl _)
            have hB' := hB (by omega)
            have e6 := m42 (h := h) (jt := jt) (mb := mb) (hi := hi) (wi := wi) (rk := rk) (co := co) (ro := ro) (s := s2) (R := R2) (a := 395) (by decide) (by rw [z5]; exact n23_le bq3 (by omega))
            rw [z5] at e6
            have kr2 : Kr (fun c => 1 < c) R R2 := (kr1.up' (by decide)).trans (k5.mono (fun k e => by omega))
            by_cases p3 : 0 < q3 F
            · refine ⟨R2, s2, true, ?_, ⟨fun _ => ⟨fun _ => p1, fun _ => p2, fun _ => p3⟩, fun _ => rfl⟩, kr2⟩
              rw [H72_210]
              simp only [S72, gFs, pFs, okq, bls, bo_true, eUp_at, eUp_eUp, eKls, cl_some, Option.toList_some, Option.toList_none, List.cons_append, List.nil_append, m51, e1]
              rw [if_neg n0, if_pos (sgn_lt.2.1.mpr p1), if_neg n1]
              simp only [S72, gFs, pFs, okq, bls, bo_true, eUp_at, eUp_eUp, eKls, cl_some, Option.toList_some, Option.toList_none, List.cons_append, List.nil_append, e2, e3]
              rw [if_pos (sgn_lt.2.1.mpr p2), if_neg n2]
              simp only [S72, gFs, pFs, okq, bls, bo_true, eUp_at, eUp_eUp, eKls, cl_some, Option.toList_some, Option.toList_none, List.cons_append, List.nil_append, show (lN 0 : Int64) = lI 0 from rfl, e4]
              rw [e5, H72_327]
              simp only [S72, gFs, pFs, okq, bls, bo_true, eUp_at, eUp_eUp, eKls, cl_some, Option.toList_some, Option.toList_none, List.cons_append, List.nil_append, e6]
              rw [if_pos (sgn_lt.2.1.mpr p3)]
              rfl
            · refine ⟨R2, s2, false, ?_, ⟨fun e => (by cases e), fun e => absurd (e.2.2 (by omega)) p3⟩, kr2⟩
              rw [H72_210]
              simp only [S72, gFs, pFs, okq, bls, bo_true, eUp_at, eUp_eUp, eKls, cl_some, Option.toList_some, Option.toList_none, List.cons_append, List.nil_append, m51, e1]
              rw [if_neg n0, if_pos (sgn_lt.2.1.mpr p1), if_neg n1]
              simp only [S72, gFs, pFs, okq, bls, bo_true, eUp_at, eUp_eUp, eKls, cl_some, Option.toList_some, Option.toList_none, List.cons_append, List.nil_append, e2, e3]
              rw [if_pos (sgn_lt.2.1.mpr p2), if_neg n2]
              simp only [S72, gFs, pFs, okq, bls, bo_true, eUp_at, eUp_eUp, eKls, cl_some, Option.toList_some, Option.toList_none, List.cons_append, List.nil_append, show (lN 0 : Int64) = lI 0 from rfl, e4]
              rw [e5, H72_327]
              simp only [S72, gFs, pFs, okq, bls, bo_true, eUp_at, eUp_eUp, eKls, cl_some, Option.toList_some, Option.toList_none, List.cons_append, List.nil_append, e6]
              rw [if_neg (fun e => p3 (sgn_lt.2.1.mp e))]
              rfl
        · refine ⟨R1, s1, false, ?_, ⟨fun e => (by cases e), fun e => absurd (e.2.1 h2) p2⟩, kr1⟩
          rw [H72_210]
          simp only [S72, gFs, pFs, okq, bls, bo_true, eUp_at, eUp_eUp, eKls, cl_some, Option.toList_some, Option.toList_none, List.cons_append, List.nil_append, m51, e1]
          rw [if_neg n0, if_pos (sgn_lt.2.1.mpr p1), if_neg n1]
          simp only [S72, gFs, pFs, okq, bls, bo_true, eUp_at, eUp_eUp, eKls, cl_some, Option.toList_some, Option.toList_none, List.cons_append, List.nil_append, e2, e3]
          rw [if_neg (fun e => p2 (sgn_lt.2.1.mp e))]
          rfl
    · refine ⟨R, s, false, ?_, ⟨fun e => (by cases e), fun e => absurd (e.1 h1) p1⟩, Kr.refl _ _⟩
      rw [H72_210]
      simp only [S72, gFs, pFs, okq, bls, bo_true, eUp_at, eUp_eUp, eKls, cl_some, Option.toList_some, Option.toList_none, List.cons_append, List.nil_append, m51, e1]
      rw [if_neg n0, if_neg (fun e => p1 (sgn_lt.2.1.mp e))]
      rfl
theorem r72 (hb : ∀ n, NV n → HB n) (mi : MI h g) : ∃ h', den 72 [.ref 239] h = some (some (.int (iI (stfR g.2.1))), h') ∧ FJ h h' ∧ MI h' g := by
  refine mi.lift (t := g.2.2) mi.b.1 mi.b.2.1 (fun hi wi rk co ro R s r0 r1 mn hv ms => ?_)
  have v1 := hv.1
  have hFr := nFr_le hv
  have e0 := m49 (h := h) (hi := hi) (wi := wi) (rk := rk) (co := co) (ro := ro) (s := s) (R := R) (w := false) hv mn
  rw [E72 239 hK_o]
  simp only [S72, gFs, pFs, okq, bls, bo_true, eUp_at, eUp_eUp, eKls, cl_some, Option.toList_some, Option.toList_none, List.cons_append, List.nil_append, show (nI 0 : Int32) = ldI false from rfl, e0]
  unfold stfR
  by_cases ev : evn g.2.1 false (nJ g.2.1) 0 = false
  · rw [ev, if_pos (show ldI false = 0 by decide), if_pos rfl]
    exact RT.fin r0 r1
  · have ev' : evn g.2.1 false (nJ g.2.1) 0 = true := by cases z : evn g.2.1 false (nJ g.2.1) 0 with | true => rfl | false => exact absurd z ev
    rw [if_neg ev, ev', if_neg (show ¬ ldI true = 0 by decide)]
    obtain ⟨R1, s1, ro1, e1, k1, k2, k3, k4⟩ := m65 (h := h) (hi := hi) (wi := wi) (rk := rk) (co := co) (ro := ro) (s := s) (R := R) hv mn (hb _ hv)
    have hrk := sM_rk g.2.1
    obtain ⟨many, hmany⟩ : ∃ z, z = 2 * nFr g.2.1 - (sM g.2.1).2.1 := ⟨_, rfl⟩
    have em : nI (2 * nFr g.2.1) - nI (sN g.2.1).2.1 = nI many := by rw [sN_rk, nI_sub hrk.1, hmany]
    rw [← hmany]
    simp only [S72, gFs, pFs, okq, bls, bo_true, eUp_at, eUp_eUp, eKls, cl_some, Option.toList_some, Option.toList_none, List.cons_append, List.nil_append, e1, hK_o, em]
    by_cases q : 3 < many
    · rw [if_neg (fun e => by have := (nI_le' (by omega) (by omega)).mp e; omega), if_pos q]
      exact RT.fin ((pc1 k4 0 (by decide)).trans r0) ((pc1 k4 1 (by decide)).trans r1)
    · obtain ⟨R2, y3, y4, e2, kp, k5⟩ := m72_k (h := h) (jt := nI (nJ g.2.1)) (mb := nI (nM g.2.1)) (hi := nI (nM g.2.1)) (rk := nI (sN g.2.1).2.1) (co := co) (ro := ro1) (s := s1) (R0 := R1) hv (hb _ hv) (by omega) hmany k1 k2 k3 many 0 R1 none none (by omega) (fun i hi' => absurd hi' (Nat.not_lt_zero _)) (Kr.refl _ _)
      obtain ⟨R3, s3', z3, z4, z5, e3, fd, k6⟩ := m72_i (h := h) (jt := nI (nJ g.2.1)) (hi := nI (nM g.2.1)) (wi := nI (2 * nFr g.2.1)) (rk := nI (sN g.2.1).2.1) (co := co) (ro := ro1) (R0 := R2) (many := many) hv mn (by omega) many 0 R2 s1 y3 y4 none (by omega) kp (fun i' j' _ hh => by omega) (Kr.refl _ _)
      have fF : ∀ i j, i < many → j < many → R3 (382 + 3 * i + j) = frm g.2.1 (sM g.2.1) (2 * nFr g.2.1) i j (nM g.2.1) := fun i j hi' hj' => by
        rw [← frm_ng]
        exact fd i j hj' (Or.inl hi')
      obtain ⟨B, hB0, hB3, hB2, hB1⟩ : ∃ B, (∀ i j, i < many → j < many → (frm g.2.1 (sM g.2.1) (2 * nFr g.2.1) i j (nM g.2.1)).natAbs ≤ B) ∧ (3 ≤ many → 4 * (B * (2 * (B * B))) < BB ^ 23) ∧ 2 * (B * B) < BB ^ 23 ∧ B < BB ^ 23 := by
        by_cases q3' : 3 ≤ many
        · exact ⟨b13, fun i j _ _ => frm_b hv (by omega) i j, fun _ => by unfold b13 BB; decide, by unfold b13 BB; decide, by unfold b13 BB; decide⟩
        · exact ⟨b14, fun i j _ _ => frm_b hv (by omega) i j, fun e => absurd e q3', by unfold b14 BB; decide, by unfold b14 BB; decide⟩
      obtain ⟨R4, s4, b, e4, hb4, k7⟩ := m72_t (h := h) (jt := nI (nJ g.2.1)) (mb := nI (nM g.2.1)) (hi := nI (nM g.2.1)) (wi := nI (2 * nFr g.2.1)) (rk := nI (sN g.2.1).2.1) (co := co) (ro := ro1) (s := s3') (R := R3) (many := many) (x2 := some (.int (nI many))) (x3 := z3) (x4 := z4) (x5 := z5) (F := fun r c => frm g.2.1 (sM g.2.1) (2 * nFr g.2.1) r c (nM g.2.1)) (B := B) (by omega) fF hB0 hB3 hB2 hB1
      have kk : Kr (fun c => 1 < c) R R4 := (((pc1 k4).trans (k5.mono (fun k e => by omega))).trans (k6.mono (fun k e => by unfold P72 at e; omega))).trans k7
      have bs : b = stfB g.2.1 := by
        have h1 := stf_iff (w := many) (by omega) (fun r c => frm g.2.1 (sM g.2.1) (2 * nFr g.2.1) r c (nM g.2.1))
        have h2 : stfB g.2.1 = (red many (fun r c => frm g.2.1 (sM g.2.1) (2 * nFr g.2.1) r c (nM g.2.1)) many).2.2.2.2 := by unfold stfB; rw [← hmany]
        have h3 : b = true ↔ stfB g.2.1 = true := by rw [h2, h1]; exact hb4
        cases b with
        | true => exact (h3.mp rfl).symm
        | false =>
          cases z : stfB g.2.1 with
          | true => exact h3.mpr z
          | false => rfl
      rw [if_pos ((nI_le' (by omega) (by omega)).mpr (by omega)), if_neg q, e2, H72_92]
      simp only [S72, gFs, pFs, okq, bls, bo_true, eUp_at, eUp_eUp, eKls, cl_some, Option.toList_some, Option.toList_none, List.cons_append, List.nil_append]
      rw [e3, e4, bs]
      have fin : some (Value.int (ldI (stfB g.2.1))) = some (Value.int (iI (if stfB g.2.1 = true then 1 else 0))) := by
        cases stfB g.2.1 <;> rfl
      rw [fin]
      exact RT.fin ((kk 0 (by decide)).trans r0) ((kk 1 (by decide)).trans r1)
end SF2
