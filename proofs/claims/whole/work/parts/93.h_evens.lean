/-! THE REFERENCE: evens -/
/-- registers outside row i of the cells are kept -/
def FRw (i : Nat) (R R' : Nat → Int) : Prop := ∀ z, (∀ x, x < 17 → z ≠ cel i x) → R' z = R z
theorem FRw.refl (i : Nat) (R : Nat → Int) : FRw i R R := fun _ _ => rfl
theorem FRw.up' {i x : Nat} {R R' : Nat → Int} {v : Int} (f : FRw i R R') (hx : x < 17) : FRw i R (ur R' (cel i x) v) := fun z hz => by rw [ur_ne (hz x hx)]; exact f z hz
theorem FRw.kr {i : Nat} {R R' : Nat → Int} (f : FRw i R R') (hi : i < 16) : Kr PC R R' := fun z hz => f z (fun x hx e => hz (by rw [e]; exact pc_cel hi hx))
theorem iok_s {z : Int} (h : z.natAbs ≤ 1000000000) : iok z := by unfold iok; omega
section EV1
variable {h : eH} {jt mb hi wi rk co : Int32} {ro : Nat → Int32} {s : SC} {n : NT} {x3 x4 : Option Value}
theorem m32_row {k ax i : Nat} (hv : NV n) (mn : MNt h n) (hk : k < nJ n) (hx : ax < 2) (hi16 : i < 16) : ∀ r m (R R0 : Nat → Int), m + r = nM n → (∀ x, x < m → R (cel i x) = far n x k ax) → FRw i R0 R → ∃ R' : Nat → Int, ru 32 59 [some (.ref 239), some (.int (nI k)), some (.int (nI ax)), some (.int (nI i)), some (.int (nI m))] [] (hK h jt (nI (nM n)) hi wi rk co ro R s) = ru 32 94 [some (.ref 239), some (.int (nI k)), some (.int (nI ax)), some (.int (nI i)), some (.int (nI (nM n)))] [] (hK h jt (nI (nM n)) hi wi rk co ro R' s) ∧ (∀ x, x < nM n → R' (cel i x) = far n x k ax) ∧ FRw i R0 R' := by
  have v1 := hv.1
  intro r
  induction r with
  | zero =>
    intro m R R0 hm k1 k2
    have : m = nM n := by omega
    subst this
    refine ⟨R, ?_, k1, k2⟩
    rw [H32_59]
    simp only [S32, gFs, pFs, okq, bls, bo_true, eUp_at, eUp_eUp, eKls, cl_some, Option.toList_some, Option.toList_none, List.cons_append, List.nil_append, hK_o]
    rw [if_pos (nI_le (Nat.le_refl _) (by omega))]
  | succ r ih =>
    intro m R R0 hm k1 k2
    have hmm : m < nM n := by omega
    have fl := far_le hv (k := k) (ax := ax) hmm
    have e1 := m24 (h := h) (jt := jt) (mb := nI (nM n)) (hi := hi) (wi := wi) (rk := rk) (co := co) (ro := ro) (s := s) (R := R) (n := n) (k := k) hv mn hmm (by omega) hx
    have e2 := m12 (h := h) (jt := jt) (mb := nI (nM n)) (hi := hi) (wi := wi) (rk := rk) (co := co) (ro := ro) (s := s) (R := R) (a := cel i m) (v := far n m k ax) (by unfold cel; omega) (by omega)
    obtain ⟨R', z1, z2⟩ := ih (m + 1) (ur R (cel i m) (far n m k ax)) R0 (by omega) (fun x hx' => by
      by_cases q : x = m
      · rw [q, ur_at]
      · rw [ur_ne (fun e => q ((cel_inj (by omega) (by omega)).mp e).2)]; exact k1 x (by omega)) (k2.up' (by omega))
    refine ⟨R', ?_, z2⟩
    have u1 : 20 + 17 * i + m = cel i m := rfl
    rw [← z1, H32_59]
    simp only [S32, gFs, pFs, okq, bls, bo_true, eUp_at, eUp_eUp, eKls, cl_some, Option.toList_some, Option.toList_none, List.cons_append, List.nil_append, hK_o]
    rw [if_neg (nI_ge hmm (by omega))]
    simp only [S32, gFs, pFs, okq, bls, bo_true, eUp_at, eUp_eUp, eKls, cl_some, Option.toList_some, Option.toList_none, List.cons_append, List.nil_append, m21, u1, e1, iI_l (iok_s (show (far n m k ax).natAbs ≤ 1000000000 by omega)), e2]
    rw [nI_1]
theorem m32_ax {k ax : Nat} (hv : NV n) (mn : MNt h n) (hk : k < nJ n) (hf : ¬ nF n k = true) (hx : ax < 2) (R : Nat → Int) : ∃ (R' : Nat → Int) (y3 y4 : Option Value), ru 32 32 [some (.ref 239), some (.int (nI k)), some (.int (nI ax)), x3, x4] [] (hK h jt (nI (nM n)) hi wi rk co ro R s) = ru 32 32 [some (.ref 239), some (.int (nI k)), some (.int (nI (ax + 1))), y3, y4] [] (hK h jt (nI (nM n)) hi wi rk co ro R' s) ∧ (∀ c, c < nM n + 1 → R' (cel (2 * cnt (nF n) k + ax) c) = fM n (2 * cnt (nF n) k + ax) c) ∧ FRw (2 * cnt (nF n) k + ax) R R' := by
  have v1 := hv.1
  have hc : cnt (nF n) k < nFr n := cnt_lt hk hf
  have hFr := nFr_le hv
  have l0 := hv.2.2.1 0 k hk
  have l1 := hv.2.2.1 1 k hk
  have e0 := m13 (h := h) (jt := jt) (mb := nI (nM n)) (hi := hi) (wi := wi) (rk := rk) (co := co) (ro := ro) (s := s) (R := R) hv mn hk
  have eo : ordr n k = some (cnt (nF n) k) := by unfold ordr; rw [if_neg hf]
  rw [eo] at e0
  obtain ⟨i, hi'⟩ : ∃ i, i = 2 * cnt (nF n) k + ax := ⟨_, rfl⟩
  have hi16 : i < 16 := by omega
  obtain ⟨R1, z1, z2, z3⟩ := m32_row (h := h) (jt := jt) (hi := hi) (wi := wi) (rk := rk) (co := co) (ro := ro) (s := s) (i := i) hv mn hk hx hi16 (nM n) 0 R R (by omega) (fun x hx => absurd hx (Nat.not_lt_zero _)) (FRw.refl _ _)
  have e2 : ∀ v : Int, -1000 ≤ v ∧ v ≤ 1000 → den 12 [.ref 239, .int (nI (cel i (nM n))), .long (lI v)] (hK h jt (nI (nM n)) hi wi rk co ro R1 s) = some (none, hK h jt (nI (nM n)) hi wi rk co ro (ur R1 (cel i (nM n)) v) s) := fun v hv' => m12 (by unfold cel; omega) (by omega)
  have jo1 : jo n (i / 2) = k := by
    rw [show i / 2 = cnt (nF n) k by omega]
    exact jof_cnt hk hf
  have im : i % 2 = ax := by omega
  have ff : ((nF n k) = false) := by cases q : nF n k with | true => exact absurd q hf | false => rfl
  have fin : ∀ c, c < nM n + 1 → ur R1 (cel i (nM n)) (- nL n ax k) (cel i c) = fM n i c := by
    intro c hcc
    unfold fM
    rw [jo1, im]
    by_cases q : c < nM n
    · rw [if_pos q, ur_ne (fun e => by have := ((cel_inj (by omega) (by omega)).mp e).2; omega)]
      exact z2 c q
    · rw [if_neg q, show c = nM n by omega, ur_at]
  have u1 : 20 + 17 * i + nM n = cel i (nM n) := rfl
  have ig : nI 2 * nI (cnt (nF n) k) + nI ax = nI i := by rw [nI_mul, nI_add, hi']
  rw [← hi']
  refine ⟨ur R1 (cel i (nM n)) (- nL n ax k), some (.int (nI i)), some (.int (nI (nM n))), ?_, fin, z3.up' (by omega)⟩
  rw [H32_32]
  simp only [S32, gFs, pFs, okq, bls, bo_true, eUp_at, eUp_eUp, eKls, cl_some, Option.toList_some, Option.toList_none, List.cons_append, List.nil_append, hK_o, hK_hs, MNt.fx (α := eR) mn hv hk, ff]
  rw [if_neg (nI_ge hx (by decide)), if_pos (show ldI false = 0 by decide)]
  simp only [S32, gFs, pFs, okq, bls, bo_true, eUp_at, eUp_eUp, eKls, cl_some, Option.toList_some, Option.toList_none, List.cons_append, List.nil_append, e0, show roI (some (cnt (nF n) k)) = nI (cnt (nF n) k) from rfl, ig]
  rw [z1, H32_94]
  simp only [S32, gFs, pFs, okq, bls, bo_true, eUp_at, eUp_eUp, eKls, cl_some, Option.toList_some, Option.toList_none, List.cons_append, List.nil_append, hK_o, m21, u1, hK_hs, MNt.lx (α := eR) mn hv hk, MNt.ly (α := eR) mn hv hk, iI_neg]
  rcases (by omega : ax = 0 ∨ ax = 1) with e | e
  · subst e
    rw [if_pos (show nI 0 = 0 by decide), iI_l (iok_s (by omega)), e2 _ (by omega)]
    simp only [S32, gFs, pFs, okq, bls, bo_true, eUp_at, eUp_eUp, eKls, cl_some, Option.toList_some, Option.toList_none, List.cons_append, List.nil_append]
    rw [nI_1]
  · subst e
    rw [if_neg (show ¬ nI 1 = 0 by decide), iI_l (iok_s (by omega)), e2 _ (by omega)]
    simp only [S32, gFs, pFs, okq, bls, bo_true, eUp_at, eUp_eUp, eKls, cl_some, Option.toList_some, Option.toList_none, List.cons_append, List.nil_append]
    rw [nI_1]
theorem m32_jt (hv : NV n) (mn : MNt h n) {R0 : Nat → Int} : ∀ r k (R : Nat → Int) (x2 x3 x4 : Option Value), k + r = nJ n → (∀ i c, i < 2 * cnt (nF n) k → c < nM n + 1 → R (cel i c) = fM n i c) → Kr PC R0 R → ∃ (R' : Nat → Int) (y2 y3 y4 : Option Value), ru 32 22 [some (.ref 239), some (.int (nI k)), x2, x3, x4] [] (hK h (nI (nJ n)) (nI (nM n)) hi wi rk co ro R s) = ru 32 142 [some (.ref 239), some (.int (nI (nJ n))), y2, y3, y4] [] (hK h (nI (nJ n)) (nI (nM n)) hi wi rk co ro R' s) ∧ KC R' (fM n) (2 * nFr n) (nM n + 1) ∧ Kr PC R0 R' := by
  have v1 := hv.1
  intro r
  induction r with
  | zero =>
    intro k R x2 x3 x4 hk k1 k2
    have : k = nJ n := by omega
    subst this
    refine ⟨R, x2, x3, x4, ?_, k1, k2⟩
    rw [H32_22]
    simp only [S32, gFs, pFs, okq, bls, bo_true, eUp_at, eUp_eUp, eKls, cl_some, Option.toList_some, Option.toList_none, List.cons_append, List.nil_append, hK_o]
    rw [if_pos (nI_le (Nat.le_refl _) (by omega))]
  | succ r ih =>
    intro k R x2 x3 x4 hk k1 k2
    have hkj : k < nJ n := by omega
    have ec : cnt (nF n) (k + 1) = cnt (nF n) k + (if nF n k = true then 0 else 1) := rfl
    by_cases hf : nF n k = true
    · rw [if_pos hf] at ec
      obtain ⟨R', y2, y3, y4, z1, z2⟩ := ih (k + 1) R (some (.int (nI 0))) x3 x4 (by omega) (fun i c hi' => k1 i c (by omega)) k2
      refine ⟨R', y2, y3, y4, ?_, z2⟩
      rw [← z1, H32_22]
      simp only [S32, gFs, pFs, okq, bls, bo_true, eUp_at, eUp_eUp, eKls, cl_some, Option.toList_some, Option.toList_none, List.cons_append, List.nil_append, hK_o]
      rw [if_neg (nI_ge hkj (by omega)), H32_32]
      simp only [S32, gFs, pFs, okq, bls, bo_true, eUp_at, eUp_eUp, eKls, cl_some, Option.toList_some, Option.toList_none, List.cons_append, List.nil_append, hK_o, hK_hs, MNt.fx (α := eR) mn hv hkj, hf]
      rw [if_neg (nI_ge (show 0 < 2 by decide) (by decide)), if_neg (show ¬ ldI true = 0 by decide), H32_136]
      simp only [S32, gFs, pFs, okq, bls, bo_true, eUp_at, eUp_eUp, eKls, cl_some, Option.toList_some, Option.toList_none, List.cons_append, List.nil_append]
      rw [nI_1]
    · rw [if_neg hf] at ec
      have hc : cnt (nF n) k < nFr n := cnt_lt hkj hf
      have hFr := nFr_le hv
      obtain ⟨R1, a3, a4, z1, z2, z3⟩ := m32_ax (h := h) (jt := nI (nJ n)) (hi := hi) (wi := wi) (rk := rk) (co := co) (ro := ro) (s := s) (x3 := x3) (x4 := x4) (ax := 0) hv mn hkj hf (by decide) R
      obtain ⟨R2, b3, b4, w1, w2, w3⟩ := m32_ax (h := h) (jt := nI (nJ n)) (hi := hi) (wi := wi) (rk := rk) (co := co) (ro := ro) (s := s) (x3 := a3) (x4 := a4) (ax := 1) hv mn hkj hf (by decide) R1
      obtain ⟨R', y2, y3, y4, v1', v2⟩ := ih (k + 1) R2 (some (.int (nI 2))) b3 b4 (by omega) (by
        intro i c hi' hc'
        by_cases q1 : i = 2 * cnt (nF n) k + 1
        · rw [q1]; exact w2 c hc'
        · rw [w3 _ (fun x hx e => q1 ((cel_inj (by omega) (by omega)).mp e).1)]
          by_cases q0 : i = 2 * cnt (nF n) k + 0
          · rw [q0]; exact z2 c hc'
          · rw [z3 _ (fun x hx e => q0 ((cel_inj (by omega) (by omega)).mp e).1)]
            exact k1 i c (by omega) hc') ((k2.trans (z3.kr (by omega))).trans (w3.kr (by omega)))
      refine ⟨R', y2, y3, y4, ?_, v2⟩
      rw [← v1', H32_22]
      simp only [S32, gFs, pFs, okq, bls, bo_true, eUp_at, eUp_eUp, eKls, cl_some, Option.toList_some, Option.toList_none, List.cons_append, List.nil_append, hK_o]
      rw [if_neg (nI_ge hkj (by omega)), z1, w1, H32_32]
      simp only [S32, gFs, pFs, okq, bls, bo_true, eUp_at, eUp_eUp, eKls, cl_some, Option.toList_some, Option.toList_none, List.cons_append, List.nil_append]
      rw [if_pos (nI_le (Nat.le_refl _) (by decide)), H32_136]
      simp only [S32, gFs, pFs, okq, bls, bo_true, eUp_at, eUp_eUp, eKls, cl_some, Option.toList_some, Option.toList_none, List.cons_append, List.nil_append]
      rw [nI_1]
/-- evens: the forces reduced -/
theorem m32 {R : Nat → Int} (hv : NV n) (mn : MNt h n) (hb : HB n) : ∃ (R' : Nat → Int) (s' : SC) (ro' : Nat → Int32), den 32 [.ref 239] (hK h (nI (nJ n)) (nI (nM n)) hi wi rk co ro R s) = some (none, hK h (nI (nJ n)) (nI (nM n)) (nI (2 * nFr n)) (nI (nM n + 1)) (nI (sF n).2.1) co ro' R' s') ∧ KC R' (sF n).1 (2 * nFr n) (nM n + 1) ∧ R' 8 = (sF n).2.2.1 ∧ RQ ro' (sF n).2.2.2.1 (nM n) ∧ Kr PC R R' := by
  have v1 := hv.1
  have hFr := nFr_le hv
  have e0 := m23 (h := h) (mb := nI (nM n)) (hi := hi) (wi := wi) (rk := rk) (co := co) (ro := ro) (s := s) (R := R) hv mn
  obtain ⟨R1, y2, y3, y4, z1, z2, z3⟩ := m32_jt (h := h) (hi := nI (2 * nFr n)) (wi := nI (nM n + 1)) (rk := rk) (co := co) (ro := ro) (s := s) (R0 := R) hv mn (nJ n) 0 R none none none (by omega) (fun i c hi' => absurd hi' (by rw [show cnt (nF n) 0 = 0 from rfl]; omega)) (Kr.refl _ _)
  obtain ⟨R2, s2, ro2, w1, w2, w3, w4, w5⟩ := m31 (h := h) (jt := nI (nJ n)) (mb := nI (nM n)) (co := co) (hh := 2 * nFr n) (w := nM n + 1) (u := nM n) (M := fM n) (R := R1) (s := s) (ro := ro) (rk := rk) (by omega) (by omega) (by omega) hb.1 z2
  refine ⟨R2, s2, ro2, ?_, w2, w3, w4, z3.trans w5⟩
  rw [E32 239 hK_o]
  simp only [S32, gFs, pFs, okq, bls, bo_true, eUp_at, eUp_eUp, eKls, cl_some, Option.toList_some, Option.toList_none, List.cons_append, List.nil_append, hK_o, e0, hK_uo, nI_mul, nI_add]
  rw [z1, H32_142]
  simp only [S32, gFs, pFs, okq, bls, bo_true, eUp_at, eUp_eUp, eKls, cl_some, Option.toList_some, Option.toList_none, List.cons_append, List.nil_append, hK_o, w1]
  rfl
end EV1
