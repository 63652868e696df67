/-! THE REFERENCE: isShaped, whole -/
section SH2
variable {h : eH} {jt mb hi wi rk co : Int32} {ro : Nat → Int32} {s : SC} {n : NT} {k i : Nat}
theorem m56_zero {R0 : Nat → Int} {x4 x6 x8 : Int64} {x11 : Option Value} (hF : nFr n ≤ 8) (hi' : i < 8) : ∀ r c (R : Nat → Int), c + r = nFr n → (∀ x, x < c → R (cel i x) = 0) → FR5 i R0 R → ∃ R' : Nat → Int, ru 56 69 [some (.ref 239), some (.int (nI (nFr n))), some (.int (nI k)), some (.int (nI i)), some (.long x4), none, some (.long x6), none, some (.long x8), none, some (.int (nI c)), x11] [] (hK h jt mb hi wi rk co ro R s) = ru 56 93 [some (.ref 239), some (.int (nI (nFr n))), some (.int (nI k)), some (.int (nI i)), some (.long x4), none, some (.long x6), none, some (.long x8), none, some (.int (nI (nFr n))), x11] [] (hK h jt mb hi wi rk co ro R' s) ∧ (∀ x, x < nFr n → R' (cel i x) = 0) ∧ FR5 i R0 R' := by
  intro r
  induction r with
  | zero =>
    intro c R hc k1 k2
    have : c = nFr n := by omega
    subst this
    refine ⟨R, ?_, k1, k2⟩
    rw [H56_69]
    simp only [S56, gFs, pFs, okq, bls, bo_true, eUp_at, eUp_eUp, eKls, cl_some, Option.toList_some, Option.toList_none, List.cons_append, List.nil_append]
    rw [if_pos (nI_le (Nat.le_refl _) (by omega))]
  | succ r ih =>
    intro c R hc k1 k2
    have e1 := m12 (h := h) (jt := jt) (mb := mb) (hi := hi) (wi := wi) (rk := rk) (co := co) (ro := ro) (s := s) (R := R) (a := cel i c) (v := 0) (by unfold cel; omega) (by decide)
    obtain ⟨R', z1, z2⟩ := ih (c + 1) (ur R (cel i c) 0) (by omega) (fun x hx => by
      by_cases q : x = c
      · rw [q, ur_at]
      · rw [ur_ne (fun e => q ((cel_inj (by omega) (by omega)).mp e).2)]; exact k1 x (by omega)) (k2.up' (by omega))
    refine ⟨R', ?_, z2⟩
    have u1 : 20 + 17 * i + c = cel i c := rfl
    rw [← z1, H56_69]
    simp only [S56, gFs, pFs, okq, bls, bo_true, eUp_at, eUp_eUp, eKls, cl_some, Option.toList_some, Option.toList_none, List.cons_append, List.nil_append]
    rw [if_neg (nI_ge (by omega) (by omega))]
    simp only [S56, gFs, pFs, okq, bls, bo_true, eUp_at, eUp_eUp, eKls, cl_some, Option.toList_some, Option.toList_none, List.cons_append, List.nil_append, m21, u1, show (lN 0 : Int64) = lI 0 from rfl, e1]
    rw [nI_1]
theorem m56_one {R : Nat → Int} {x3 x4 x5 x6 x7 x8 x9 x10 x11 : Option Value} (hv : NV n) (mn : MNt h n) (hk : k < nJ n) (hf : ¬ nF n k = true) : ∃ (R' : Nat → Int) (y3 y4 y5 y6 y7 y8 y9 y10 y11 : Option Value), ru 56 39 [some (.ref 239), some (.int (nI (nFr n))), some (.int (nI k)), x3, x4, x5, x6, x7, x8, x9, x10, x11] [] (hK h jt (nI (nM n)) hi wi rk co ro R s) = ru 56 19 [some (.ref 239), some (.int (nI (nFr n))), some (.int (nI (k + 1))), y3, y4, y5, y6, y7, y8, y9, y10, y11] [] (hK h jt (nI (nM n)) hi wi rk co ro R' s) ∧ (∀ c, c < nFr n + 2 → R' (cel (cnt (nF n) k) c) = pM n (cnt (nF n) k) c) ∧ FR5 (cnt (nF n) k) R R' := by
  have v1 := hv.1
  have hFr := nFr_le hv
  have hc : cnt (nF n) k < nFr n := cnt_lt hk hf
  have l0 := hv.2.2.1 0 k hk
  have l1 := hv.2.2.1 1 k hk
  have e0 := m13 (h := h) (jt := jt) (mb := nI (nM n)) (hi := hi) (wi := wi) (rk := rk) (co := co) (ro := ro) (s := s) (R := R) hv mn hk
  have eo : ordr n k = some (cnt (nF n) k) := by unfold ordr; rw [if_neg hf]
  rw [eo] at e0
  obtain ⟨i, hi'⟩ : ∃ i, i = cnt (nF n) k := ⟨_, rfl⟩
  rw [← hi'] at e0 hc ⊢
  obtain ⟨R1, z1, z2, z3⟩ := m56_zero (h := h) (jt := jt) (mb := nI (nM n)) (hi := hi) (wi := wi) (rk := rk) (co := co) (ro := ro) (s := s) (n := n) (k := k) (i := i) (x4 := lI 0) (x6 := lI (nL n 0 k)) (x8 := lI (nL n 1 k)) (x11 := x11) (R0 := R) hFr (by omega) (nFr n) 0 R (by omega) (fun x hx => absurd hx (Nat.not_lt_zero _)) (FR5.refl _ _)
  obtain ⟨R2, y11, w1, w2, w3⟩ := m56_mem (h := h) (jt := jt) (hi := hi) (wi := wi) (rk := rk) (co := co) (ro := ro) (s := s) (R0 := R) hv mn hk hf hi' (nM n) 0 R1 x11 (by omega) (fun c hc => by
    rw [z2 c hc, show su (hm n k c) 0 = 0 from rfl, show ow n k 0 = 0 from rfl]
    split <;> rfl) z3
  rw [show su (hm n k (nFr n)) 0 = 0 from rfl, show su (hm n k (nFr n + 1)) 0 = 0 from rfl, show ow n k 0 = 0 from rfl, Int.add_zero, Int.add_zero] at w1
  have b1 := sr_bd (n := n) (k := k) (c := i) hv (Nat.le_refl (nM n))
  have b2 := ow_bd (n := n) (k := k) hv (Nat.le_refl (nM n))
  have b3 := sr_bd (n := n) (k := k) (c := nFr n) hv (Nat.le_refl (nM n))
  have b4 := sr_bd (n := n) (k := k) (c := nFr n + 1) hv (Nat.le_refl (nM n))
  have cn : cel i i ≠ 5 := by unfold cel; omega
  have r1 : R2 (cel i i) = su (hm n k i) (nM n) - ow n k (nM n) := by rw [w2 i hc, if_pos rfl]
  have e1 := m12 (h := h) (jt := jt) (mb := nI (nM n)) (hi := hi) (wi := wi) (rk := rk) (co := co) (ro := ro) (s := s) (R := R2) (a := 5) (v := ow n k (nM n)) (by decide) (by omega)
  have e2 := m15 (h := h) (jt := jt) (mb := nI (nM n)) (hi := hi) (wi := wi) (rk := rk) (co := co) (ro := ro) (s := s) (R := ur R2 5 (ow n k (nM n))) (t := 1) (a := cel i i) (b := 5) (by unfold cel; omega) (by decide) (fun e => cn e.symm) (by rw [ur_ne cn, r1]; exact n23_s (by omega)) (by rw [ur_at]; exact n23_s (by omega)) (by decide)
  rw [ur_ne cn, ur_at, r1, show su (hm n k i) (nM n) - ow n k (nM n) + ow n k (nM n) * 1 = su (hm n k i) (nM n) by omega] at e2
  have e3 := m12 (h := h) (jt := jt) (mb := nI (nM n)) (hi := hi) (wi := wi) (rk := rk) (co := co) (ro := ro) (s := s) (R := ur (ur R2 5 (ow n k (nM n))) (cel i i) (su (hm n k i) (nM n))) (a := cel i (nFr n)) (v := nL n 0 k + su (hm n k (nFr n)) (nM n)) (by unfold cel; omega) (by omega)
  have e4 := m12 (h := h) (jt := jt) (mb := nI (nM n)) (hi := hi) (wi := wi) (rk := rk) (co := co) (ro := ro) (s := s) (R := ur (ur (ur R2 5 (ow n k (nM n))) (cel i i) (su (hm n k i) (nM n))) (cel i (nFr n)) (nL n 0 k + su (hm n k (nFr n)) (nM n))) (a := cel i (nFr n + 1)) (v := nL n 1 k + su (hm n k (nFr n + 1)) (nM n)) (by unfold cel; omega) (by omega)
  have jo1 : jo n i = k := by rw [hi']; exact jof_cnt hk hf
  refine ⟨ur (ur (ur (ur R2 5 (ow n k (nM n))) (cel i i) (su (hm n k i) (nM n))) (cel i (nFr n)) (nL n 0 k + su (hm n k (nFr n)) (nM n))) (cel i (nFr n + 1)) (nL n 1 k + su (hm n k (nFr n + 1)) (nM n)), some (.int (nI i)), some (.long (lI (ow n k (nM n)))), none, some (.long (lI (nL n 0 k + su (hm n k (nFr n)) (nM n)))), none, some (.long (lI (nL n 1 k + su (hm n k (nFr n + 1)) (nM n)))), none, some (.int (nI (nM n))), y11, ?_, fun c hcc => ?_, (((w3.up5).up' (by omega)).up' (by omega)).up' (by omega)⟩
  · have u1 : 20 + 17 * i + i = cel i i := rfl
    have u2 : 20 + 17 * i + nFr n = cel i (nFr n) := rfl
    have u3 : 20 + 17 * i + (nFr n + 1) = cel i (nFr n + 1) := rfl
    simp only [S56, gFs, pFs, okq, bls, bo_true, eUp_at, eUp_eUp, eKls, cl_some, Option.toList_some, Option.toList_none, List.cons_append, List.nil_append, e0, show roI (some i) = nI i from rfl, hK_o, hK_hs, MNt.lx (α := eR) mn hv hk, MNt.ly (α := eR) mn hv hk, iI_l (iok_s (show (nL n 0 k).natAbs ≤ 1000000000 by omega)), iI_l (iok_s (show (nL n 1 k).natAbs ≤ 1000000000 by omega)), show (lN 0 : Int64) = lI 0 from rfl]
    rw [z1, H56_93]
    simp only [S56, gFs, pFs, okq, bls, bo_true, eUp_at, eUp_eUp, eKls, cl_some, Option.toList_some, Option.toList_none, List.cons_append, List.nil_append]
    rw [w1, H56_267]
    simp only [S56, gFs, pFs, okq, bls, bo_true, eUp_at, eUp_eUp, eKls, cl_some, Option.toList_some, Option.toList_none, List.cons_append, List.nil_append, e1, m21, u1, show (lN 1 : Int64) = lI 1 from rfl, e2, u2, e3, nI_add, u3, e4]
    rw [nI_1]
  · unfold pM ldp
    rw [jo1]
    by_cases q1 : c = nFr n + 1
    · rw [q1, ur_at, if_neg (by omega), if_pos rfl]; omega
    · rw [ur_ne (fun e => q1 ((cel_inj (by omega) (by omega)).mp e).2)]
      by_cases q0 : c = nFr n
      · rw [q0, ur_at, if_pos rfl]; omega
      · rw [ur_ne (fun e => q0 ((cel_inj (by omega) (by omega)).mp e).2), if_neg q0, if_neg q1]
        by_cases qi : c = i
        · rw [qi, ur_at]; omega
        · rw [ur_ne (fun e => qi ((cel_inj (by omega) (by omega)).mp e).2), ur_ne (by unfold cel; omega), w2 c (by omega), if_neg qi]; omega
theorem m56_jt (hv : NV n) (mn : MNt h n) {R0 : Nat → Int} : ∀ r k (R : Nat → Int) (x3 x4 x5 x6 x7 x8 x9 x10 x11 : Option Value), k + r = nJ n → (∀ i c, i < cnt (nF n) k → c < nFr n + 2 → R (cel i c) = pM n i c) → Kr (fun c => 1 < c) R0 R → ∃ (R' : Nat → Int) (y3 y4 y5 y6 y7 y8 y9 y10 y11 : Option Value), ru 56 19 [some (.ref 239), some (.int (nI (nFr n))), some (.int (nI k)), x3, x4, x5, x6, x7, x8, x9, x10, x11] [] (hK h (nI (nJ n)) (nI (nM n)) hi wi rk co ro R s) = ru 56 318 [some (.ref 239), some (.int (nI (nFr n))), some (.int (nI (nJ n))), y3, y4, y5, y6, y7, y8, y9, y10, y11] [] (hK h (nI (nJ n)) (nI (nM n)) hi wi rk co ro R' s) ∧ KC R' (pM n) (nFr n) (nFr n + 2) ∧ Kr (fun c => 1 < c) R0 R' := by
  have v1 := hv.1
  have hFr := nFr_le hv
  intro r
  induction r with
  | zero =>
    intro k R x3 x4 x5 x6 x7 x8 x9 x10 x11 hk k1 k2
    have : k = nJ n := by omega
    subst this
    refine ⟨R, x3, x4, x5, x6, x7, x8, x9, x10, x11, ?_, k1, k2⟩
    rw [H56_19]
    simp only [S56, gFs, pFs, okq, bls, bo_true, eUp_at, eUp_eUp, eKls, cl_some, Option.toList_some, Option.toList_none, List.cons_append, List.nil_append, hK_o]
    rw [if_pos (nI_le (Nat.le_refl _) (by omega))]
  | succ r ih =>
    intro k R x3 x4 x5 x6 x7 x8 x9 x10 x11 hk k1 k2
    have hkj : k < nJ n := by omega
    have ec : cnt (nF n) (k + 1) = cnt (nF n) k + (if nF n k = true then 0 else 1) := rfl
    by_cases hf : nF n k = true
    · rw [if_pos hf] at ec
      obtain ⟨R', y3, y4, y5, y6, y7, y8, y9, y10, y11, z1, z2⟩ := ih (k + 1) R x3 x4 x5 x6 x7 x8 x9 x10 x11 (by omega) (fun i c hi' => k1 i c (by omega)) k2
      refine ⟨R', y3, y4, y5, y6, y7, y8, y9, y10, y11, ?_, z2⟩
      rw [← z1, H56_19]
      simp only [S56, gFs, pFs, okq, bls, bo_true, eUp_at, eUp_eUp, eKls, cl_some, Option.toList_some, Option.toList_none, List.cons_append, List.nil_append, hK_o, hK_hs, MNt.fx (α := eR) mn hv hkj, hf]
      rw [if_neg (nI_ge hkj (by omega)), if_neg (show ¬ ldI true = 0 by decide), nI_1]
    · rw [if_neg hf] at ec
      have hc : cnt (nF n) k < nFr n := cnt_lt hkj hf
      have ff : (nF n k) = false := by cases z : nF n k with | true => exact absurd z hf | false => rfl
      obtain ⟨R1, a3, a4, a5, a6, a7, a8, a9, a10, a11, w1, w2, w3⟩ := m56_one (h := h) (jt := nI (nJ n)) (hi := hi) (wi := wi) (rk := rk) (co := co) (ro := ro) (s := s) (R := R) (x3 := x3) (x4 := x4) (x5 := x5) (x6 := x6) (x7 := x7) (x8 := x8) (x9 := x9) (x10 := x10) (x11 := x11) hv mn hkj hf
      obtain ⟨R', y3, y4, y5, y6, y7, y8, y9, y10, y11, z1, z2⟩ := ih (k + 1) R1 a3 a4 a5 a6 a7 a8 a9 a10 a11 (by omega) (by
        intro i c hi' hc'
        by_cases q : i = cnt (nF n) k
        · rw [q]; exact w2 c hc'
        · rw [w3 _ (by unfold cel; omega) (fun x hx e => q ((cel_inj (by omega) (by omega)).mp e).1)]
          exact k1 i c (by omega) hc') (k2.trans (w3.kr (by omega)))
      refine ⟨R', y3, y4, y5, y6, y7, y8, y9, y10, y11, ?_, z2⟩
      rw [← z1, ← w1, H56_19]
      simp only [S56, gFs, pFs, okq, bls, bo_true, eUp_at, eUp_eUp, eKls, cl_some, Option.toList_some, Option.toList_none, List.cons_append, List.nil_append, hK_o, hK_hs, MNt.fx (α := eR) mn hv hkj, ff]
      rw [if_neg (nI_ge hkj (by omega)), if_pos (show ldI false = 0 by decide)]
/-- isShaped: the places reduced -/
theorem m56 {R : Nat → Int} (hv : NV n) (mn : MNt h n) (hb : HB n) : ∃ (R' : Nat → Int) (s' : SC) (ro' : Nat → Int32), den 56 [.ref 239] (hK h (nI (nJ n)) (nI (nM n)) hi wi rk co ro R s) = some (some (.int (ldI (decide ((sP n).2.1 = nFr n)))), hK h (nI (nJ n)) (nI (nM n)) (nI (nFr n)) (nI (nFr n + 2)) (nI (sP n).2.1) co ro' R' s') ∧ KC R' (sP n).1 (nFr n) (nFr n + 2) ∧ R' 8 = (sP n).2.2.1 ∧ RQ ro' (sP n).2.2.2.1 (nFr n) ∧ Kr (fun c => 1 < c) R R' := by
  have v1 := hv.1
  have hFr := nFr_le hv
  have e0 := m23 (h := h) (mb := nI (nM n)) (hi := hi) (wi := wi) (rk := rk) (co := co) (ro := ro) (s := s) (R := R) hv mn
  obtain ⟨R1, y3, y4, y5, y6, y7, y8, y9, y10, y11, z1, z2, z3⟩ := m56_jt (h := h) (hi := nI (nFr n)) (wi := nI (nFr n + 2)) (rk := rk) (co := co) (ro := ro) (s := s) (R0 := R) hv mn (nJ n) 0 R none none none none none none none none none (by omega) (fun i c hi' => absurd hi' (by rw [show cnt (nF n) 0 = 0 from rfl]; omega)) (Kr.refl _ _)
  obtain ⟨R2, s2, ro2, w1, w2, w3, w4, w5⟩ := m31 (h := h) (jt := nI (nJ n)) (mb := nI (nM n)) (co := co) (hh := nFr n) (w := nFr n + 2) (u := nFr n) (M := pM n) (R := R1) (s := s) (ro := ro) (rk := rk) (by omega) (by omega) (by omega) hb.2.2.1 z2
  refine ⟨R2, s2, ro2, ?_, w2, w3, w4, z3.trans (pc1 w5)⟩
  rw [E56 239 hK_o]
  simp only [S56, gFs, pFs, okq, bls, bo_true, eUp_at, eUp_eUp, eKls, cl_some, Option.toList_some, Option.toList_none, List.cons_append, List.nil_append, e0, hK_o, hK_uo, nI_add]
  rw [z1, H56_318]
  simp only [S56, gFs, pFs, okq, bls, bo_true, eUp_at, eUp_eUp, eKls, cl_some, Option.toList_some, Option.toList_none, List.cons_append, List.nil_append, hK_o, w1]
  have hrk := (red_rank (nFr n) (pM n) (nFr n)).1
  unfold sP
  by_cases q : (red (nFr n) (pM n) (nFr n)).2.1 = nFr n
  · rw [if_pos (by rw [q]), decide_eq_true q]; rfl
  · rw [if_neg (fun e => q ((nI_inj (by omega) (by omega)).mp e)), decide_eq_false q]; rfl
end SH2
