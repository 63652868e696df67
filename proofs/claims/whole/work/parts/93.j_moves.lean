/-! THE REFERENCE: moves -/
section MV1
variable {h : eH} {jt mb hi wi rk co : Int32} {ro : Nat → Int32} {s : SC} {n : NT}
theorem m65_ax {m k ax : Nat} (hv : NV n) (mn : MNt h n) (hm : m < nM n) (hk : k < nJ n) (hf : ¬ nF n k = true) (hx : ax < 2) (R : Nat → Int) : ru 65 40 [some (.ref 239), some (.int (nI m)), some (.int (nI k)), some (.int (nI ax))] [] (hK h jt mb hi wi rk co ro R s) = ru 65 40 [some (.ref 239), some (.int (nI m)), some (.int (nI k)), some (.int (nI (ax + 1)))] [] (hK h jt mb hi wi rk co ro (ur R (cel m (2 * cnt (nF n) k + ax)) (mN n m (2 * cnt (nF n) k + ax))) s) := by
  have v1 := hv.1
  have hc : cnt (nF n) k < nFr n := cnt_lt hk hf
  have hFr := nFr_le hv
  have fl := far_le hv (k := k) (ax := ax) hm
  have e0 := m13 (h := h) (jt := jt) (mb := mb) (hi := hi) (wi := wi) (rk := rk) (co := co) (ro := ro) (s := s) (R := R) hv mn hk
  have eo : ordr n k = some (cnt (nF n) k) := by unfold ordr; rw [if_neg hf]
  rw [eo] at e0
  have e1 := m24 (h := h) (jt := jt) (mb := mb) (hi := hi) (wi := wi) (rk := rk) (co := co) (ro := ro) (s := s) (R := R) (n := n) (k := k) hv mn hm (by omega) hx
  have e2 := m12 (h := h) (jt := jt) (mb := mb) (hi := hi) (wi := wi) (rk := rk) (co := co) (ro := ro) (s := s) (R := R) (a := cel m (2 * cnt (nF n) k + ax)) (v := far n m k ax) (by unfold cel; omega) (by omega)
  have ff : ((nF n k) = false) := by cases q : nF n k with | true => exact absurd q hf | false => rfl
  have ig : nI 2 * nI (cnt (nF n) k) + nI ax = nI (2 * cnt (nF n) k + ax) := by rw [nI_mul, nI_add]
  have u1 : 20 + 17 * m + (2 * cnt (nF n) k + ax) = cel m (2 * cnt (nF n) k + ax) := rfl
  have em : mN n m (2 * cnt (nF n) k + ax) = far n m k ax := by
    unfold mN
    rw [show (2 * cnt (nF n) k + ax) / 2 = cnt (nF n) k by omega, show (2 * cnt (nF n) k + ax) % 2 = ax by omega]
    rw [show jo n (cnt (nF n) k) = k from jof_cnt hk hf]
  rw [em, H65_40]
  simp only [S65, gFs, pFs, okq, bls, bo_true, eUp_at, eUp_eUp, eKls, cl_some, Option.toList_some, Option.toList_none, List.cons_append, List.nil_append, hK_o, hK_hs, MNt.fx (α := eR) mn hv hk, ff]
  rw [if_neg (nI_ge hx (by decide)), if_pos (show ldI false = 0 by decide)]
  simp only [S65, gFs, pFs, okq, bls, bo_true, eUp_at, eUp_eUp, eKls, cl_some, Option.toList_some, Option.toList_none, List.cons_append, List.nil_append, e0, show roI (some (cnt (nF n) k)) = nI (cnt (nF n) k) from rfl, ig, m21, u1, e1, iI_l (iok_s (show (far n m k ax).natAbs ≤ 1000000000 by omega)), e2]
  rw [nI_1]
theorem m65_jt {m : Nat} (hv : NV n) (mn : MNt h n) (hm : m < nM n) {R0 : Nat → Int} : ∀ r k (R : Nat → Int) (x3 : Option Value), k + r = nJ n → (∀ c, c < 2 * cnt (nF n) k → R (cel m c) = mN n m c) → FRw m R0 R → ∃ (R' : Nat → Int) (y3 : Option Value), ru 65 30 [some (.ref 239), some (.int (nI m)), some (.int (nI k)), x3] [] (hK h (nI (nJ n)) mb hi wi rk co ro R s) = ru 65 92 [some (.ref 239), some (.int (nI m)), some (.int (nI (nJ n))), y3] [] (hK h (nI (nJ n)) mb hi wi rk co ro R' s) ∧ (∀ c, c < 2 * nFr n → R' (cel m c) = mN n m c) ∧ FRw m R0 R' := by
  have v1 := hv.1
  intro r
  induction r with
  | zero =>
    intro k R x3 hk k1 k2
    have : k = nJ n := by omega
    subst this
    refine ⟨R, x3, ?_, k1, k2⟩
    rw [H65_30]
    simp only [S65, gFs, pFs, okq, bls, bo_true, eUp_at, eUp_eUp, eKls, cl_some, Option.toList_some, Option.toList_none, List.cons_append, List.nil_append, hK_o]
    rw [if_pos (nI_le (Nat.le_refl _) (by omega))]
  | succ r ih =>
    intro k R x3 hk k1 k2
    have hkj : k < nJ n := by omega
    have ec : cnt (nF n) (k + 1) = cnt (nF n) k + (if nF n k = true then 0 else 1) := rfl
    by_cases hf : nF n k = true
    · rw [if_pos hf] at ec
      obtain ⟨R', y3, z1, z2⟩ := ih (k + 1) R (some (.int (nI 0))) (by omega) (fun c hi' => k1 c (by omega)) k2
      refine ⟨R', y3, ?_, z2⟩
      rw [← z1, H65_30]
      simp only [S65, gFs, pFs, okq, bls, bo_true, eUp_at, eUp_eUp, eKls, cl_some, Option.toList_some, Option.toList_none, List.cons_append, List.nil_append, hK_o]
      rw [if_neg (nI_ge hkj (by omega)), H65_40]
      simp only [S65, gFs, pFs, okq, bls, bo_true, eUp_at, eUp_eUp, eKls, cl_some, Option.toList_some, Option.toList_none, List.cons_append, List.nil_append, hK_o, hK_hs, MNt.fx (α := eR) mn hv hkj, hf]
      rw [if_neg (nI_ge (show 0 < 2 by decide) (by decide)), if_neg (show ¬ ldI true = 0 by decide), H65_86]
      simp only [S65, gFs, pFs, okq, bls, bo_true, eUp_at, eUp_eUp, eKls, cl_some, Option.toList_some, Option.toList_none, List.cons_append, List.nil_append]
      rw [nI_1]
    · rw [if_neg hf] at ec
      have hc : cnt (nF n) k < nFr n := cnt_lt hkj hf
      have hFr := nFr_le hv
      have z1 := m65_ax (h := h) (jt := nI (nJ n)) (mb := mb) (hi := hi) (wi := wi) (rk := rk) (co := co) (ro := ro) (s := s) (ax := 0) hv mn hm hkj hf (by decide) R
      have w1 := m65_ax (h := h) (jt := nI (nJ n)) (mb := mb) (hi := hi) (wi := wi) (rk := rk) (co := co) (ro := ro) (s := s) (ax := 1) hv mn hm hkj hf (by decide) (ur R (cel m (2 * cnt (nF n) k + 0)) (mN n m (2 * cnt (nF n) k + 0)))
      obtain ⟨R', y3, v1', v2⟩ := ih (k + 1) (ur (ur R (cel m (2 * cnt (nF n) k + 0)) (mN n m (2 * cnt (nF n) k + 0))) (cel m (2 * cnt (nF n) k + 1)) (mN n m (2 * cnt (nF n) k + 1))) (some (.int (nI 2))) (by omega) (by
        intro c hc'
        by_cases q1 : c = 2 * cnt (nF n) k + 1
        · rw [q1, ur_at]
        · rw [ur_ne (fun e => q1 ((cel_inj (by omega) (by omega)).mp e).2)]
          by_cases q0 : c = 2 * cnt (nF n) k + 0
          · rw [q0, ur_at]
          · rw [ur_ne (fun e => q0 ((cel_inj (by omega) (by omega)).mp e).2)]
            exact k1 c (by omega)) ((k2.up' (by omega)).up' (by omega))
      refine ⟨R', y3, ?_, v2⟩
      rw [← v1', H65_30]
      simp only [S65, gFs, pFs, okq, bls, bo_true, eUp_at, eUp_eUp, eKls, cl_some, Option.toList_some, Option.toList_none, List.cons_append, List.nil_append, hK_o]
      rw [if_neg (nI_ge hkj (by omega)), z1, w1, H65_40]
      simp only [S65, gFs, pFs, okq, bls, bo_true, eUp_at, eUp_eUp, eKls, cl_some, Option.toList_some, Option.toList_none, List.cons_append, List.nil_append]
      rw [if_pos (nI_le (Nat.le_refl _) (by decide)), H65_86]
      simp only [S65, gFs, pFs, okq, bls, bo_true, eUp_at, eUp_eUp, eKls, cl_some, Option.toList_some, Option.toList_none, List.cons_append, List.nil_append]
      rw [nI_1]
theorem m65_mb (hv : NV n) (mn : MNt h n) {R0 : Nat → Int} : ∀ r m (R : Nat → Int) (x2 x3 : Option Value), m + r = nM n → (∀ i c, i < m → c < 2 * nFr n → R (cel i c) = mN n i c) → Kr PC R0 R → ∃ (R' : Nat → Int) (y2 y3 : Option Value), ru 65 20 [some (.ref 239), some (.int (nI m)), x2, x3] [] (hK h (nI (nJ n)) (nI (nM n)) hi wi rk co ro R s) = ru 65 98 [some (.ref 239), some (.int (nI (nM n))), y2, y3] [] (hK h (nI (nJ n)) (nI (nM n)) hi wi rk co ro R' s) ∧ KC R' (mN n) (nM n) (2 * nFr n) ∧ Kr PC R0 R' := by
  have v1 := hv.1
  have hFr := nFr_le hv
  intro r
  induction r with
  | zero =>
    intro m R x2 x3 hk k1 k2
    have : m = nM n := by omega
    subst this
    refine ⟨R, x2, x3, ?_, k1, k2⟩
    rw [H65_20]
    simp only [S65, gFs, pFs, okq, bls, bo_true, eUp_at, eUp_eUp, eKls, cl_some, Option.toList_some, Option.toList_none, List.cons_append, List.nil_append, hK_o]
    rw [if_pos (nI_le (Nat.le_refl _) (by omega))]
  | succ r ih =>
    intro m R x2 x3 hk k1 k2
    have hm : m < nM n := by omega
    obtain ⟨R1, y3, z1, z2, z3⟩ := m65_jt (h := h) (mb := nI (nM n)) (hi := hi) (wi := wi) (rk := rk) (co := co) (ro := ro) (s := s) (m := m) (R0 := R) hv mn hm (nJ n) 0 R x3 (by omega) (fun c hc => absurd hc (by rw [show cnt (nF n) 0 = 0 from rfl]; omega)) (FRw.refl _ _)
    obtain ⟨R', w2, w3, w4, w5⟩ := ih (m + 1) R1 (some (.int (nI (nJ n)))) y3 (by omega) (by
      intro i c hi' hc'
      by_cases q : i = m
      · rw [q]; exact z2 c hc'
      · rw [z3 _ (fun x hx e => q ((cel_inj (by omega) (by omega)).mp e).1)]
        exact k1 i c (by omega) hc') (k2.trans (z3.kr (by omega)))
    refine ⟨R', w2, w3, ?_, w5⟩
    rw [← w4, H65_20]
    simp only [S65, gFs, pFs, okq, bls, bo_true, eUp_at, eUp_eUp, eKls, cl_some, Option.toList_some, Option.toList_none, List.cons_append, List.nil_append, hK_o]
    rw [if_neg (nI_ge hm (by omega)), z1, H65_92]
    simp only [S65, gFs, pFs, okq, bls, bo_true, eUp_at, eUp_eUp, eKls, cl_some, Option.toList_some, Option.toList_none, List.cons_append, List.nil_append]
    rw [nI_1]
/-- moves: the moves reduced, with every sign turned -/
theorem m65 {R : Nat → Int} (hv : NV n) (mn : MNt h n) (hb : HB n) : ∃ (R' : Nat → Int) (s' : SC) (ro' : Nat → Int32), den 65 [.ref 239] (hK h (nI (nJ n)) (nI (nM n)) hi wi rk co ro R s) = some (none, hK h (nI (nJ n)) (nI (nM n)) (nI (nM n)) (nI (2 * nFr n)) (nI (sN n).2.1) co ro' R' s') ∧ KC R' (sN n).1 (nM n) (2 * nFr n) ∧ R' 8 = (sN n).2.2.1 ∧ RQ ro' (sN n).2.2.2.1 (2 * nFr n) ∧ Kr PC R R' := by
  have v1 := hv.1
  have hFr := nFr_le hv
  have e0 := m23 (h := h) (mb := nI (nM n)) (hi := nI (nM n)) (wi := wi) (rk := rk) (co := co) (ro := ro) (s := s) (R := R) hv mn
  obtain ⟨R1, y2, y3, z1, z2, z3⟩ := m65_mb (h := h) (hi := nI (nM n)) (wi := nI (2 * nFr n)) (rk := rk) (co := co) (ro := ro) (s := s) (R0 := R) hv mn (nM n) 0 R none none (by omega) (fun i c hi' => absurd hi' (Nat.not_lt_zero _)) (Kr.refl _ _)
  obtain ⟨R2, s2, ro2, w1, w2, w3, w4, w5⟩ := m31 (h := h) (jt := nI (nJ n)) (mb := nI (nM n)) (co := co) (hh := nM n) (w := 2 * nFr n) (u := 2 * nFr n) (M := mN n) (R := R1) (s := s) (ro := ro) (rk := rk) (by omega) (by omega) (by omega) (gbd_ng (fun r c => mN_neg n r c) hb.2.1) z2
  refine ⟨R2, s2, ro2, ?_, w2, w3, w4, z3.trans w5⟩
  rw [E65 239 hK_o]
  simp only [S65, gFs, pFs, okq, bls, bo_true, eUp_at, eUp_eUp, eKls, cl_some, Option.toList_some, Option.toList_none, List.cons_append, List.nil_append, hK_o, hK_uo, e0, nI_mul]
  rw [z1, H65_98]
  simp only [S65, gFs, pFs, okq, bls, bo_true, eUp_at, eUp_eUp, eKls, cl_some, Option.toList_some, Option.toList_none, List.cons_append, List.nil_append, hK_o, w1]
  rfl
end MV1
