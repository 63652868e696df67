/-! THE REFERENCE: net: what each kind of number asks -/
section NE2
variable {h : eH} {jt mb hi wi rk co : Int32} {ro : Nat → Int32} {s : SC} {R : Nat → Int} {f : Nat → Int32} {sl k at' J M : Nat} {x6 x7 x11 : Option Value} {z : Int}
theorem cLt {c : Int} (hz : lok z) (hc : lok c) : lg_cmp (lI z) (lI c) < 0 ↔ z < c := by rw [lg_lt0, lI_lt hz hc]
theorem cGt {c : Int} (hz : lok z) (hc : lok c) : 0 < lg_cmp (lI z) (lI c) ↔ c < z := by rw [lg_gt0, lI_lt hc hz]
theorem cGe {c : Int} (hz : lok z) (hc : lok c) : 0 ≤ lg_cmp (lI z) (lI c) ↔ c ≤ z := by rw [lg_ge0, lI_le hc hz]
theorem cEq {c : Int} (hz : lok z) (hc : lok c) : lg_cmp (lI z) (lI c) = 0 ↔ z = c := by rw [lg_eq0, lI_eq hz hc]
theorem lokS {c : Int} (h : -1000 ≤ c ∧ c ≤ 1000) : lok c := by unfold lok; omega
theorem n66_a0 (hz : lok z) (ha : at' < 60) : ru 66 159 (LL sl k at' J M x6 x7 (some (.long (lI z))) none (some (.int (nI 0))) x11) [] (hK (hq h f) jt mb hi wi rk co ro R s) = if 1 ≤ z ∧ z ≤ 8 then ru 66 39 [some (.ref 239), some (.int (nI sl)), some (.int (nI k)), some (.int (nI (at' + 1))), some (.int (iI z)), some (.int (nI M)), x6, x7, some (.long (lI z)), none, some (.int (nI 0)), some (.int (nI 1))] [] (hK (hq h (upd f at' (iI z))) jt mb hi wi rk co ro R s) else some (some (.int (-4)), hK (hq h f) jt mb hi wi rk co ro R s) := by
  unfold LL
  have es : eSw 161 (nI 0) 217 0 6 #[43, 69, 69, 97, 121, 147, 173] = some 204 := by decide
  have k1 : (lN 1 : Int64) = lI 1 := rfl
  have k2 : (lN 8 : Int64) = lI 8 := rfl
  have n0 : nI 0 = 0 := rfl
  have n1 : ¬ nI 1 = 0 := by decide
  have n4 : ¬ nI 0 = nI 4 := by decide
  by_cases q1 : z < 1
  · have c1 := (cLt hz (lokS (by decide))).mpr q1
    rw [if_neg (show ¬ (1 ≤ z ∧ z ≤ 8) by omega)]
    simp only [S66, gFs, pFs, okq, bls, bo_true, eUp_at, eUp_eUp, eKls, cl_some, Option.toList_some, Option.toList_none, List.cons_append, List.nil_append, es, swF_at (z := 204) (k := 204) rfl, k1, k2, if_pos c1, if_pos n0]
  · have c1 := fun e => q1 ((cLt hz (lokS (by decide))).mp e)
    by_cases q2 : 8 < z
    · have c2 := (cGt hz (lokS (by decide))).mpr q2
      rw [if_neg (show ¬ (1 ≤ z ∧ z ≤ 8) by omega)]
      simp only [S66, gFs, pFs, okq, bls, bo_true, eUp_at, eUp_eUp, eKls, cl_some, Option.toList_some, Option.toList_none, List.cons_append, List.nil_append, es, swF_at (z := 204) (k := 204) rfl, k1, k2, if_neg c1, if_pos c2, if_pos n0]
    · have c2 := fun e => q2 ((cGt hz (lokS (by decide))).mp e)
      rw [if_pos (show (1 ≤ z ∧ z ≤ 8) by omega)]
      simp only [S66, gFs, pFs, okq, bls, bo_true, eUp_at, eUp_eUp, eKls, cl_some, Option.toList_some, Option.toList_none, List.cons_append, List.nil_append, es, swF_at (z := 204) (k := 204) rfl, k1, k2, if_neg c1, if_neg c2, if_neg n1, hK_o, hK_hs, hq_at, wI_nI (n := 60) (j := at') ha (by decide), hK_us, hq_up, lI_i, if_pos n0, if_neg n4, nI_1]
theorem n66_a12 {a : Nat} (ha2 : a < 2) (hz : lok z) (ha : at' < 60) : ru 66 159 (LL sl k at' J M x6 x7 (some (.long (lI z))) none (some (.int (nI (1 + a)))) x11) [] (hK (hq h f) jt mb hi wi rk co ro R s) = if -20 ≤ z ∧ z ≤ 20 then ru 66 39 (LL sl k (at' + 1) J M x6 x7 (some (.long (lI z))) none (some (.int (nI (1 + a)))) (some (.int (nI 1)))) [] (hK (hq h (upd f at' (iI z))) jt mb hi wi rk co ro R s) else some (some (.int (-4)), hK (hq h f) jt mb hi wi rk co ro R s) := by
  unfold LL
  have es : eSw 161 (nI (1 + a)) 217 0 6 #[43, 69, 69, 97, 121, 147, 173] = some 230 := by
    rcases (by omega : a = 0 ∨ a = 1) with e | e <;> subst e <;> decide
  have k1 : (-lI 20 : Int64) = lI (-20) := rfl
  have k2 : (lN 20 : Int64) = lI 20 := rfl
  have n0 : nI 0 = 0 := rfl
  have n1 : ¬ nI 1 = 0 := by decide
  have n3 : ¬ nI (1 + a) = 0 := nI_ne0 (by omega) (by omega)
  have n4 : ¬ nI (1 + a) = nI 4 := fun e => by have := (nI_inj (by omega) (by omega)).mp e; omega
  by_cases q1 : z < -20
  · have c1 := (cLt hz (lokS (by decide))).mpr q1
    rw [if_neg (show ¬ (-20 ≤ z ∧ z ≤ 20) by omega)]
    simp only [S66, gFs, pFs, okq, bls, bo_true, eUp_at, eUp_eUp, eKls, cl_some, Option.toList_some, Option.toList_none, List.cons_append, List.nil_append, es, swF_at (z := 230) (k := 230) rfl, k1, k2, if_pos c1, if_pos n0]
  · have c1 := fun e => q1 ((cLt hz (lokS (by decide))).mp e)
    by_cases q2 : 20 < z
    · have c2 := (cGt hz (lokS (by decide))).mpr q2
      rw [if_neg (show ¬ (-20 ≤ z ∧ z ≤ 20) by omega)]
      simp only [S66, gFs, pFs, okq, bls, bo_true, eUp_at, eUp_eUp, eKls, cl_some, Option.toList_some, Option.toList_none, List.cons_append, List.nil_append, es, swF_at (z := 230) (k := 230) rfl, k1, k2, if_neg c1, if_pos c2, if_pos n0]
    · have c2 := fun e => q2 ((cGt hz (lokS (by decide))).mp e)
      rw [if_pos (show (-20 ≤ z ∧ z ≤ 20) by omega)]
      simp only [S66, gFs, pFs, okq, bls, bo_true, eUp_at, eUp_eUp, eKls, cl_some, Option.toList_some, Option.toList_none, List.cons_append, List.nil_append, es, swF_at (z := 230) (k := 230) rfl, k1, k2, if_neg c1, if_neg c2, if_neg n1, hK_o, hK_hs, hq_at, wI_nI (n := 60) (j := at') ha (by decide), hK_us, hq_up, lI_i, if_neg n3, if_neg n4, nI_1]
theorem n66_a3 (hz : lok z) (ha : at' < 60) : ru 66 159 (LL sl k at' J M x6 x7 (some (.long (lI z))) none (some (.int (nI 3))) x11) [] (hK (hq h f) jt mb hi wi rk co ro R s) = if 0 ≤ z ∧ z ≤ 1 then ru 66 39 (LL sl k (at' + 1) J M x6 x7 (some (.long (lI z))) none (some (.int (nI 3))) (some (.int (nI 1)))) [] (hK (hq h (upd f at' (iI z))) jt mb hi wi rk co ro R s) else some (some (.int (-4)), hK (hq h f) jt mb hi wi rk co ro R s) := by
  unfold LL
  have es : eSw 161 (nI 3) 217 0 6 #[43, 69, 69, 97, 121, 147, 173] = some 258 := by decide
  have k1 : (lN 0 : Int64) = lI 0 := rfl
  have k2 : (lN 1 : Int64) = lI 1 := rfl
  have n0 : nI 0 = 0 := rfl
  have n1 : ¬ nI 1 = 0 := by decide
  have n3 : ¬ nI 3 = 0 := by decide
  have n4 : ¬ nI 3 = nI 4 := by decide
  by_cases q1 : z = 0
  · have c1 := (cEq hz (lokS (by decide))).mpr q1
    rw [if_pos (show (0 ≤ z ∧ z ≤ 1) by omega)]
    simp only [S66, gFs, pFs, okq, bls, bo_true, eUp_at, eUp_eUp, eKls, cl_some, Option.toList_some, Option.toList_none, List.cons_append, List.nil_append, es, swF_at (z := 258) (k := 258) rfl, k1, k2, if_pos c1, if_neg n1, hK_o, hK_hs, hq_at, wI_nI (n := 60) (j := at') ha (by decide), hK_us, hq_up, lI_i, if_neg n3, if_neg n4, nI_1]
  · have c1 := fun e => q1 ((cEq hz (lokS (by decide))).mp e)
    by_cases q2 : z = 1
    · have c2 := (cEq hz (lokS (by decide))).mpr q2
      rw [if_pos (show (0 ≤ z ∧ z ≤ 1) by omega)]
      simp only [S66, gFs, pFs, okq, bls, bo_true, eUp_at, eUp_eUp, eKls, cl_some, Option.toList_some, Option.toList_none, List.cons_append, List.nil_append, es, swF_at (z := 258) (k := 258) rfl, k1, k2, if_neg c1, if_pos c2, if_neg n1, hK_o, hK_hs, hq_at, wI_nI (n := 60) (j := at') ha (by decide), hK_us, hq_up, lI_i, if_neg n3, if_neg n4, nI_1]
    · have c2 := fun e => q2 ((cEq hz (lokS (by decide))).mp e)
      rw [if_neg (show ¬ (0 ≤ z ∧ z ≤ 1) by omega)]
      simp only [S66, gFs, pFs, okq, bls, bo_true, eUp_at, eUp_eUp, eKls, cl_some, Option.toList_some, Option.toList_none, List.cons_append, List.nil_append, es, swF_at (z := 258) (k := 258) rfl, k1, k2, if_neg c1, if_neg c2, if_pos n0]
theorem n66_a4 (hz : lok z) (ha : at' < 60) : ru 66 159 (LL sl k at' J M x6 x7 (some (.long (lI z))) none (some (.int (nI 4))) x11) [] (hK (hq h f) jt mb hi wi rk co ro R s) = if 0 ≤ z ∧ z ≤ 14 then ru 66 39 [some (.ref 239), some (.int (nI sl)), some (.int (nI k)), some (.int (nI (at' + 1))), some (.int (nI J)), some (.int (iI z)), x6, x7, some (.long (lI z)), none, some (.int (nI 4)), some (.int (nI 1))] [] (hK (hq h (upd f at' (iI z))) jt mb hi wi rk co ro R s) else some (some (.int (-4)), hK (hq h f) jt mb hi wi rk co ro R s) := by
  unfold LL
  have es : eSw 161 (nI 4) 217 0 6 #[43, 69, 69, 97, 121, 147, 173] = some 282 := by decide
  have k1 : (lN 0 : Int64) = lI 0 := rfl
  have k2 : (lN 14 : Int64) = lI 14 := rfl
  have n0 : nI 0 = 0 := rfl
  have n1 : ¬ nI 1 = 0 := by decide
  have n3 : ¬ nI 4 = 0 := by decide
  have n4 : nI 4 = nI 4 := rfl
  by_cases q1 : z < 0
  · have c1 := (cLt hz (lokS (by decide))).mpr q1
    rw [if_neg (show ¬ (0 ≤ z ∧ z ≤ 14) by omega)]
    simp only [S66, gFs, pFs, okq, bls, bo_true, eUp_at, eUp_eUp, eKls, cl_some, Option.toList_some, Option.toList_none, List.cons_append, List.nil_append, es, swF_at (z := 282) (k := 282) rfl, k1, k2, if_pos c1, if_pos n0]
  · have c1 := fun e => q1 ((cLt hz (lokS (by decide))).mp e)
    by_cases q2 : 14 < z
    · have c2 := (cGt hz (lokS (by decide))).mpr q2
      rw [if_neg (show ¬ (0 ≤ z ∧ z ≤ 14) by omega)]
      simp only [S66, gFs, pFs, okq, bls, bo_true, eUp_at, eUp_eUp, eKls, cl_some, Option.toList_some, Option.toList_none, List.cons_append, List.nil_append, es, swF_at (z := 282) (k := 282) rfl, k1, k2, if_neg c1, if_pos c2, if_pos n0]
    · have c2 := fun e => q2 ((cGt hz (lokS (by decide))).mp e)
      rw [if_pos (show (0 ≤ z ∧ z ≤ 14) by omega)]
      simp only [S66, gFs, pFs, okq, bls, bo_true, eUp_at, eUp_eUp, eKls, cl_some, Option.toList_some, Option.toList_none, List.cons_append, List.nil_append, es, swF_at (z := 282) (k := 282) rfl, k1, k2, if_neg c1, if_neg c2, if_neg n1, hK_o, hK_hs, hq_at, wI_nI (n := 60) (j := at') ha (by decide), hK_us, hq_up, lI_i, if_neg n3, eq_self, if_true, nI_1]
theorem n66_a5 (hz : lok z) (ha : at' < 60) (hJ : J ≤ 8) : ru 66 159 (LL sl k at' J M x6 x7 (some (.long (lI z))) none (some (.int (nI 5))) x11) [] (hK (hq h f) jt mb hi wi rk co ro R s) = if 0 ≤ z ∧ z ≤ (J : Int) - 1 then ru 66 39 (LL sl k (at' + 1) J M x6 x7 (some (.long (lI z))) none (some (.int (nI 5))) (some (.int (nI 1)))) [] (hK (hq h (upd f at' (iI z))) jt mb hi wi rk co ro R s) else some (some (.int (-4)), hK (hq h f) jt mb hi wi rk co ro R s) := by
  unfold LL
  have es : eSw 161 (nI 5) 217 0 6 #[43, 69, 69, 97, 121, 147, 173] = some 308 := by decide
  have k1 : (lN 0 : Int64) = lI 0 := rfl
  have k2 : (nI J).toInt64 = lI (J : Int) := iI_l (iok_nI (by omega))
  have n0 : nI 0 = 0 := rfl
  have n1 : ¬ nI 1 = 0 := by decide
  have n3 : ¬ nI 5 = 0 := by decide
  have n4 : ¬ nI 5 = nI 4 := by decide
  by_cases q1 : z < 0
  · have c1 := (cLt hz (lokS (by decide))).mpr q1
    rw [if_neg (show ¬ (0 ≤ z ∧ z ≤ (J : Int) - 1) by omega)]
    simp only [S66, gFs, pFs, okq, bls, bo_true, eUp_at, eUp_eUp, eKls, cl_some, Option.toList_some, Option.toList_none, List.cons_append, List.nil_append, es, swF_at (z := 308) (k := 308) rfl, k1, k2, if_pos c1, if_pos n0]
  · have c1 := fun e => q1 ((cLt hz (lokS (by decide))).mp e)
    by_cases q2 : (J : Int) ≤ z
    · have c2 := (cGe hz (lokS (by omega))).mpr q2
      rw [if_neg (show ¬ (0 ≤ z ∧ z ≤ (J : Int) - 1) by omega)]
      simp only [S66, gFs, pFs, okq, bls, bo_true, eUp_at, eUp_eUp, eKls, cl_some, Option.toList_some, Option.toList_none, List.cons_append, List.nil_append, es, swF_at (z := 308) (k := 308) rfl, k1, k2, if_neg c1, if_pos c2, if_pos n0]
    · have c2 := fun e => q2 ((cGe hz (lokS (by omega))).mp e)
      rw [if_pos (show (0 ≤ z ∧ z ≤ (J : Int) - 1) by omega)]
      simp only [S66, gFs, pFs, okq, bls, bo_true, eUp_at, eUp_eUp, eKls, cl_some, Option.toList_some, Option.toList_none, List.cons_append, List.nil_append, es, swF_at (z := 308) (k := 308) rfl, k1, k2, if_neg c1, if_neg c2, if_neg n1, hK_o, hK_hs, hq_at, wI_nI (n := 60) (j := at') ha (by decide), hK_us, hq_up, lI_i, if_neg n3, if_neg n4, nI_1]
theorem n66_a7 (hz : lok z) (ha : at' < 60) : ru 66 159 (LL sl k at' J M x6 x7 (some (.long (lI z))) none (some (.int (nI 7))) x11) [] (hK (hq h f) jt mb hi wi rk co ro R s) = if 0 ≤ z ∧ z ≤ 2 then ru 66 39 (LL sl k (at' + 1) J M x6 x7 (some (.long (lI z))) none (some (.int (nI 7))) (some (.int (nI 1)))) [] (hK (hq h (upd f at' (iI z))) jt mb hi wi rk co ro R s) else some (some (.int (-4)), hK (hq h f) jt mb hi wi rk co ro R s) := by
  unfold LL
  have es : eSw 161 (nI 7) 217 0 6 #[43, 69, 69, 97, 121, 147, 173] = some 378 := by decide
  have k1 : (lN 0 : Int64) = lI 0 := rfl
  have k2 : (lN 2 : Int64) = lI 2 := rfl
  have n0 : nI 0 = 0 := rfl
  have n1 : ¬ nI 1 = 0 := by decide
  have n3 : ¬ nI 7 = 0 := by decide
  have n4 : ¬ nI 7 = nI 4 := by decide
  by_cases q1 : z < 0
  · have c1 := (cLt hz (lokS (by decide))).mpr q1
    rw [if_neg (show ¬ (0 ≤ z ∧ z ≤ 2) by omega)]
    simp only [S66, gFs, pFs, okq, bls, bo_true, eUp_at, eUp_eUp, eKls, cl_some, Option.toList_some, Option.toList_none, List.cons_append, List.nil_append, es, swF_at (z := 378) (k := 378) rfl, k1, k2, if_pos c1, if_pos n0]
  · have c1 := fun e => q1 ((cLt hz (lokS (by decide))).mp e)
    by_cases q2 : 2 < z
    · have c2 := (cGt hz (lokS (by decide))).mpr q2
      rw [if_neg (show ¬ (0 ≤ z ∧ z ≤ 2) by omega)]
      simp only [S66, gFs, pFs, okq, bls, bo_true, eUp_at, eUp_eUp, eKls, cl_some, Option.toList_some, Option.toList_none, List.cons_append, List.nil_append, es, swF_at (z := 378) (k := 378) rfl, k1, k2, if_neg c1, if_pos c2, if_pos n0]
    · have c2 := fun e => q2 ((cGt hz (lokS (by decide))).mp e)
      rw [if_pos (show (0 ≤ z ∧ z ≤ 2) by omega)]
      simp only [S66, gFs, pFs, okq, bls, bo_true, eUp_at, eUp_eUp, eKls, cl_some, Option.toList_some, Option.toList_none, List.cons_append, List.nil_append, es, swF_at (z := 378) (k := 378) rfl, k1, k2, if_neg c1, if_neg c2, if_neg n1, hK_o, hK_hs, hq_at, wI_nI (n := 60) (j := at') ha (by decide), hK_us, hq_up, lI_i, if_neg n3, if_neg n4, nI_1]
/-- isApart: the two places told differ -/
theorem m54 {a b : Nat} {P : Nat → Nat → Int} (ha : a < 8) (hb : b < 8) (p1 : ∀ j, j = a ∨ j = b → f (1 + 3 * j) = iI (P 0 j) ∧ f (2 + 3 * j) = iI (P 1 j)) (pb : ∀ x j, -20 ≤ P x j ∧ P x j ≤ 20) : den 54 [.ref 239, .int (nI a), .int (nI b)] (hK (hq h f) jt mb hi wi rk co ro R s) = some (some (.int (ldI (decide (¬ (P 0 b - P 0 a = 0 ∧ P 1 b - P 1 a = 0))))), hK (hq h f) jt mb hi wi rk co ro R s) := by
  obtain ⟨a1, a2⟩ := p1 a (Or.inl rfl)
  obtain ⟨b1, b2⟩ := p1 b (Or.inr rfl)
  have i0 : iI (P 0 a) = iI (P 0 b) ↔ P 0 a = P 0 b := by
    have := pb 0 a; have := pb 0 b
    exact iI_eq (by unfold iok; omega) (by unfold iok; omega)
  have i1 : iI (P 1 a) = iI (P 1 b) ↔ P 1 a = P 1 b := by
    have := pb 1 a; have := pb 1 b
    exact iI_eq (by unfold iok; omega) (by unfold iok; omega)
  rw [E54 239 _ _ hK_o]
  simp only [S54, gFs, pFs, okq, bls, bo_true, eUp_at, eUp_eUp, eKls, cl_some, Option.toList_some, Option.toList_none, List.cons_append, List.nil_append, hK_o, hK_hs, hq_at, nI_mul, nI_add, aI_nI (tg := 0) (n := 60) (j := 1 + 3 * a) (by omega) (by decide), aI_nI (tg := 0) (n := 60) (j := 1 + 3 * b) (by omega) (by decide), aI_nI (tg := 0) (n := 60) (j := 2 + 3 * a) (by omega) (by decide), aI_nI (tg := 0) (n := 60) (j := 2 + 3 * b) (by omega) (by decide), a1, a2, b1, b2]
  by_cases q : a = b
  · subst q
    rw [if_pos rfl, decide_eq_false (by omega)]
    rfl
  · rw [if_neg (fun e => q ((nI_inj (by omega) (by omega)).mp e))]
    by_cases q0 : P 0 a = P 0 b
    · rw [if_pos (i0.mpr q0)]
      by_cases q1 : P 1 a = P 1 b
      · rw [if_pos (i1.mpr q1), decide_eq_false (by omega)]
        rfl
      · rw [if_neg (fun e => q1 (i1.mp e)), decide_eq_true (by omega)]
        rfl
    · rw [if_neg (fun e => q0 (i0.mp e)), decide_eq_true (by omega)]
      rfl
theorem n66_a6 {A : Nat} {P : Nat → Nat → Int} (hz : lok z) (ha : at' < 60) (ha0 : 0 < at') (hJ : J ≤ 8) (hA : A < J) (fA : f (at' - 1) = nI A) (p1 : ∀ j, j < J → f (1 + 3 * j) = iI (P 0 j) ∧ f (2 + 3 * j) = iI (P 1 j)) (pb : ∀ x j, -20 ≤ P x j ∧ P x j ≤ 20) : ru 66 159 (LL sl k at' J M x6 x7 (some (.long (lI z))) none (some (.int (nI 6))) x11) [] (hK (hq h f) jt mb hi wi rk co ro R s) = if (0 ≤ z ∧ z ≤ (J : Int) - 1) ∧ ¬ (P 0 z.toNat - P 0 A = 0 ∧ P 1 z.toNat - P 1 A = 0) then ru 66 39 (LL sl k (at' + 1) J M x6 x7 (some (.long (lI z))) none (some (.int (nI 6))) (some (.int (nI 1)))) [] (hK (hq h (upd f at' (iI z))) jt mb hi wi rk co ro R s) else some (some (.int (-4)), hK (hq h f) jt mb hi wi rk co ro R s) := by
  unfold LL
  have es : eSw 161 (nI 6) 217 0 6 #[43, 69, 69, 97, 121, 147, 173] = some 334 := by decide
  have k1 : (lN 0 : Int64) = lI 0 := rfl
  have k2 : (nI J).toInt64 = lI (J : Int) := iI_l (iok_nI (by omega))
  have n0 : nI 0 = 0 := rfl
  have n1 : ¬ nI 1 = 0 := by decide
  have n3 : ¬ nI 6 = 0 := by decide
  have n4 : ¬ nI 6 = nI 4 := by decide
  by_cases q1 : z < 0
  · have c1 := (cLt hz (lokS (by decide))).mpr q1
    rw [if_neg (show ¬ ((0 ≤ z ∧ z ≤ (J : Int) - 1) ∧ _) from fun e => by omega)]
    simp only [S66, gFs, pFs, okq, bls, bo_true, eUp_at, eUp_eUp, eKls, cl_some, Option.toList_some, Option.toList_none, List.cons_append, List.nil_append, es, swF_at (z := 334) (k := 334) rfl, k1, k2, if_pos c1, if_pos n0]
  · have c1 := fun e => q1 ((cLt hz (lokS (by decide))).mp e)
    by_cases q2 : (J : Int) ≤ z
    · have c2 := (cGe hz (lokS (by omega))).mpr q2
      rw [if_neg (show ¬ ((0 ≤ z ∧ z ≤ (J : Int) - 1) ∧ _) from fun e => by omega)]
      simp only [S66, gFs, pFs, okq, bls, bo_true, eUp_at, eUp_eUp, eKls, cl_some, Option.toList_some, Option.toList_none, List.cons_append, List.nil_append, es, swF_at (z := 334) (k := 334) rfl, k1, k2, if_neg c1, if_pos c2, if_pos n0]
    · have c2 := fun e => q2 ((cGe hz (lokS (by omega))).mp e)
      obtain ⟨b, hb⟩ : ∃ b : Nat, z = b := ⟨z.toNat, by omega⟩
      subst hb
      rw [Int.toNat_natCast]
      have e1 := m54 (h := h) (jt := jt) (mb := mb) (hi := hi) (wi := wi) (rk := rk) (co := co) (ro := ro) (s := s) (R := R) (f := f) (a := A) (b := b) (P := P) (by omega) (by omega) (fun j hj => p1 j (by omega)) pb
      have g : nI at' - nI 1 = nI (at' - 1) := nI_sub (by omega)
      by_cases q3 : P 0 b - P 0 A = 0 ∧ P 1 b - P 1 A = 0
      · rw [if_neg (fun e => e.2 q3)]
        rw [decide_eq_false (fun e => e q3)] at e1
        simp only [S66, gFs, pFs, okq, bls, bo_true, eUp_at, eUp_eUp, eKls, cl_some, Option.toList_some, Option.toList_none, List.cons_append, List.nil_append, es, swF_at (z := 334) (k := 334) rfl, k1, k2, if_neg c1, if_neg c2, hK_o, hK_hs, hq_at, g, aI_nI (tg := 0) (n := 60) (j := at' - 1) (by omega) (by decide), fA, lI_i, show iI (b : Int) = nI b from rfl, e1, if_pos (show ldI false = 0 by decide), if_pos n0]
      · rw [if_pos ⟨by omega, q3⟩]
        rw [decide_eq_true q3] at e1
        simp only [S66, gFs, pFs, okq, bls, bo_true, eUp_at, eUp_eUp, eKls, cl_some, Option.toList_some, Option.toList_none, List.cons_append, List.nil_append, es, swF_at (z := 334) (k := 334) rfl, k1, k2, if_neg c1, if_neg c2, hK_o, hK_hs, hq_at, g, aI_nI (tg := 0) (n := 60) (j := at' - 1) (by omega) (by decide), fA, lI_i, show iI (b : Int) = nI b from rfl, e1, if_neg (show ¬ ldI true = 0 by decide), if_neg n1, wI_nI (n := 60) (j := at') ha (by decide), hK_us, hq_up, if_neg n3, if_neg n4, nI_1]
end NE2
