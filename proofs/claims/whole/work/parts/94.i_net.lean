/-! THE REFERENCE: net: one number is read -/
def hq (h : eH) (f : Nat → Int32) : eH := eUp h 256 (.inl (0, 60, .inl f))
theorem hq_at (h : eH) (f : Nat → Int32) : (hq h f).1 256 = .inl (0, 60, .inl f) := eUp_at _ _ _
theorem hq_ne {h : eH} {f : Nat → Int32} {i : Nat} (hi : i ≠ 256) : (hq h f).1 i = h.1 i := eUp_ne hi
theorem hq_up (h : eH) (f g : Nat → Int32) : eUp (hq h f) 256 (.inl (0, 60, .inl g)) = hq h g := eUp_eUp _ _ _ _
theorem nx0 (k : Nat) (num : Nat → Int64) (lo hi : Int) (at' : Nat) : nx k num lo hi (at', 0) = if k ≤ at' then (lo, at', -6) else if (num at').toInt < lo ∨ hi < (num at').toInt then (lo, at' + 1, -4) else ((num at').toInt, at' + 1, 0) := by
  unfold nx
  rw [if_neg (fun e => e rfl)]
theorem nI_lt' {a b : Nat} (ha : a < 2 ^ 31) (hb : b < 2 ^ 31) : nI a < nI b ↔ a < b := by
  rw [nI_I, nI_I, iI_lt (iok_nI ha) (iok_nI hb)]
  omega
theorem nI_le' {a b : Nat} (ha : a < 2 ^ 31) (hb : b < 2 ^ 31) : nI a ≤ nI b ↔ a ≤ b := by
  rw [nI_I, nI_I, iI_le (iok_nI ha) (iok_nI hb)]
  omega
theorem nI_le0 {a : Nat} (ha : a < 2 ^ 31) : nI a ≤ 0 ↔ a = 0 := by
  rw [show (0 : Int32) = nI 0 from rfl, nI_le' ha (by decide)]
  omega
theorem nI_rem3 {q a : Nat} (ha : a < 3) (hq : q < 1000) : nI (3 * q + a) - nI (3 * q + a) / nI 3 * nI 3 = nI a := by
  have h1 : iok ((3 * q + a : Nat) : Int) := iok_nI (by omega)
  have h2 := iI_rem h1 (show iok ((3 : Nat) : Int) from iok_nI (by decide))
  rw [show ((3 * q + a : Nat) : Int).tmod ((3 : Nat) : Int) = ((3 * q + a) % 3 : Nat) from rfl, show (3 * q + a) % 3 = a by omega] at h2
  exact h2
section NE1
variable {h : eH} {jt mb hi wi rk co : Int32} {ro : Nat → Int32} {s : SC} {R : Nat → Int} {f : Nat → Int32} {sl k at' J M : Nat} {x6 x7 x8 x9 x10 x11 : Option Value} {num : Nat → Int64}
def LL (sl k at' J M : Nat) (x6 x7 x8 x9 x10 x11 : Option Value) : eL := [some (.ref 239), some (.int (nI sl)), some (.int (nI k)), some (.int (nI at')), some (.int (nI J)), some (.int (nI M)), x6, x7, x8, x9, x10, x11]
/-- the numbers of the slot that is read -/
def NU (h : eH) (sl k : Nat) (num : Nat → Int64) : Prop := ∃ f3, h.1 243 = .inl (1, 480, .inr (.inl f3)) ∧ ∀ i, i < k → f3 (60 * sl + i) = num i
theorem NU.get (x : NU h sl k num) (hs : sl < 8) (hk : k ≤ 60) (ha : at' < k) {α : Type} : ∀ F : Int64 → Option α, aL (h.1 243) (nI (60 * sl + at')) F = F (lI (num at').toInt) := by
  intro F
  obtain ⟨f3, e1, e2⟩ := x
  rw [e1, aL_nI (by omega) (by decide), e2 at' ha, lI_of]
theorem n66_p0 (nu : NU h sl k num) (hs : sl < 8) (hk : k ≤ 60) : ∃ y7, ru 66 39 (LL sl k 0 0 0 x6 x7 x8 x9 x10 x11) [] (hK h jt mb hi wi rk co ro R s) = if 0 < k then ru 66 159 (LL sl k 0 0 0 (some (.int (nI 1))) y7 (some (.long (lI (num 0).toInt))) none (some (.int (nI 0))) x11) [] (hK h jt mb hi wi rk co ro R s) else some (some (.int (-6)), hK h jt mb hi wi rk co ro R s) := by
  unfold LL
  refine ⟨some (.int (nI 1)), ?_⟩
  have c1 : nI 0 = 0 := rfl
  have c3 : nI 0 ≤ 0 := by decide
  rw [H66_39]
  by_cases q : 0 < k
  · have g := nu.get (α := eR) hs hk q
    simp only [S66, gFs, pFs, okq, bls, bo_true, eUp_at, eUp_eUp, eKls, cl_some, Option.toList_some, Option.toList_none, List.cons_append, List.nil_append, hK_o, hK_hs, nI_mul, nI_add, if_pos c1, if_pos c3, if_pos ((nI_lt' (show 0 < 2 ^ 31 by decide) (show k < 2 ^ 31 by omega)).mpr q), g, if_pos q]
  · simp only [S66, gFs, pFs, okq, bls, bo_true, eUp_at, eUp_eUp, eKls, cl_some, Option.toList_some, Option.toList_none, List.cons_append, List.nil_append, hK_o, hK_hs, nI_mul, nI_add, if_pos c1, if_pos c3, if_neg (fun e => q ((nI_lt' (show 0 < 2 ^ 31 by decide) (show k < 2 ^ 31 by omega)).mp e)), if_neg q]
theorem n66_p1 {j a : Nat} (nu : NU h sl k num) (hs : sl < 8) (hk : k ≤ 60) (ha : at' = 1 + (3 * j + a)) (ha3 : a < 3) (hj : j < J) (hJ : J ≤ 8) : ∃ y7, ru 66 39 (LL sl k at' J M x6 x7 x8 x9 x10 x11) [] (hK h jt mb hi wi rk co ro R s) = if at' < k then ru 66 159 (LL sl k at' J M (some (.int (nI (1 + 3 * J)))) y7 (some (.long (lI (num at').toInt))) none (some (.int (nI (1 + a)))) x11) [] (hK h jt mb hi wi rk co ro R s) else some (some (.int (-6)), hK h jt mb hi wi rk co ro R s) := by
  unfold LL
  refine ⟨some (.int (nI (1 + 3 * J + 1))), ?_⟩
  have c1 : ¬ nI at' = 0 := nI_ne0 (by omega) (by omega)
  have c2 : ¬ nI (1 + 3 * J) < nI at' := fun e => by have := (nI_lt' (by omega) (by omega)).mp e; omega
  have c3 : ¬ nI at' ≤ 0 := fun e => by have := (nI_le0 (by omega)).mp e; omega
  have c4 : nI at' < nI (1 + 3 * J + 1) := (nI_lt' (by omega) (by omega)).mpr (by omega)
  have c6 : ¬ nI (1 + 3 * J) ≤ nI at' := fun e => by have := (nI_le' (by omega) (by omega)).mp e; omega
  have c7 : ¬ nI 3 = 0 := by decide
  have c8 : nI at' - nI 1 = nI (3 * j + a) := by rw [ha, nI_sub (by omega)]; congr 1; omega
  rw [H66_39]
  by_cases q : at' < k
  · have g := nu.get (α := eR) hs hk q
    simp only [S66, gFs, pFs, okq, bls, bo_true, eUp_at, eUp_eUp, eKls, cl_some, Option.toList_some, Option.toList_none, List.cons_append, List.nil_append, hK_o, hK_hs, nI_mul, nI_add, if_neg c1, if_neg c2, if_neg c3, if_pos c4, if_neg c6, if_neg c7, c8, nI_rem3 ha3 (show j < 1000 by omega), if_pos ((nI_lt' (show at' < 2 ^ 31 by omega) (show k < 2 ^ 31 by omega)).mpr q), g, if_pos q]
  · simp only [S66, gFs, pFs, okq, bls, bo_true, eUp_at, eUp_eUp, eKls, cl_some, Option.toList_some, Option.toList_none, List.cons_append, List.nil_append, hK_o, hK_hs, nI_mul, nI_add, if_neg c1, if_neg c2, if_neg c3, if_pos c4, if_neg (fun e => q ((nI_lt' (show at' < 2 ^ 31 by omega) (show k < 2 ^ 31 by omega)).mp e)), if_neg q]
theorem n66_p2 (nu : NU h sl k num) (hs : sl < 8) (hk : k ≤ 60) (ha : at' = 1 + 3 * J) (hJ : J ≤ 8) : ∃ y7, ru 66 39 (LL sl k at' J M x6 x7 x8 x9 x10 x11) [] (hK h jt mb hi wi rk co ro R s) = if at' < k then ru 66 159 (LL sl k at' J M (some (.int (nI (1 + 3 * J)))) y7 (some (.long (lI (num at').toInt))) none (some (.int (nI 4))) x11) [] (hK h jt mb hi wi rk co ro R s) else some (some (.int (-6)), hK h jt mb hi wi rk co ro R s) := by
  unfold LL
  refine ⟨some (.int (nI (1 + 3 * J + 1))), ?_⟩
  have c1 : ¬ nI at' = 0 := nI_ne0 (by omega) (by omega)
  have c2 : ¬ nI (1 + 3 * J) < nI at' := fun e => by have := (nI_lt' (by omega) (by omega)).mp e; omega
  have c3 : ¬ nI at' ≤ 0 := fun e => by have := (nI_le0 (by omega)).mp e; omega
  have c4 : nI at' < nI (1 + 3 * J + 1) := (nI_lt' (by omega) (by omega)).mpr (by omega)
  have c6 : nI (1 + 3 * J) ≤ nI at' := (nI_le' (by omega) (by omega)).mpr (by omega)
  have c7 : nI at' = nI (1 + 3 * J) := by rw [ha]
  rw [H66_39]
  by_cases q : at' < k
  · have g := nu.get (α := eR) hs hk q
    simp only [S66, gFs, pFs, okq, bls, bo_true, eUp_at, eUp_eUp, eKls, cl_some, Option.toList_some, Option.toList_none, List.cons_append, List.nil_append, hK_o, hK_hs, nI_mul, nI_add, if_neg c1, if_neg c2, if_neg c3, if_pos c4, if_pos c6, if_pos c7, if_pos ((nI_lt' (show at' < 2 ^ 31 by omega) (show k < 2 ^ 31 by omega)).mpr q), g, if_pos q]
  · simp only [S66, gFs, pFs, okq, bls, bo_true, eUp_at, eUp_eUp, eKls, cl_some, Option.toList_some, Option.toList_none, List.cons_append, List.nil_append, hK_o, hK_hs, nI_mul, nI_add, if_neg c1, if_neg c2, if_neg c3, if_pos c4, if_neg (fun e => q ((nI_lt' (show at' < 2 ^ 31 by omega) (show k < 2 ^ 31 by omega)).mp e)), if_neg q]
theorem n66_p3 {m a : Nat} (nu : NU h sl k num) (hs : sl < 8) (hk : k ≤ 60) (ha : at' = 2 + 3 * J + (3 * m + a)) (ha3 : a < 3) (hm : m < M) (hJ : J ≤ 8) (hM : M ≤ 14) : ∃ y7, ru 66 39 (LL sl k at' J M x6 x7 x8 x9 x10 x11) [] (hK h jt mb hi wi rk co ro R s) = if at' < k then ru 66 159 (LL sl k at' J M (some (.int (nI (1 + 3 * J)))) y7 (some (.long (lI (num at').toInt))) none (some (.int (nI (5 + a)))) x11) [] (hK h jt mb hi wi rk co ro R s) else some (some (.int (-6)), hK h jt mb hi wi rk co ro R s) := by
  unfold LL
  refine ⟨some (.int (nI (1 + 3 * J + 1 + 3 * M))), ?_⟩
  have c1 : ¬ nI at' = 0 := nI_ne0 (by omega) (by omega)
  have c2 : nI (1 + 3 * J) < nI at' := (nI_lt' (by omega) (by omega)).mpr (by omega)
  have c3 : ¬ nI at' ≤ 0 := fun e => by have := (nI_le0 (by omega)).mp e; omega
  have c4 : nI at' < nI (1 + 3 * J + 1 + 3 * M) := (nI_lt' (by omega) (by omega)).mpr (by omega)
  have c6 : nI (1 + 3 * J) ≤ nI at' := (nI_le' (by omega) (by omega)).mpr (by omega)
  have c7 : ¬ nI 3 = 0 := by decide
  have c9 : ¬ nI at' = nI (1 + 3 * J) := fun e => by have := (nI_inj (by omega) (by omega)).mp e; omega
  have c8 : nI at' - nI (1 + 3 * J) - nI 1 = nI (3 * m + a) := by rw [ha, nI_sub (by omega), nI_sub (by omega)]; congr 1; omega
  rw [H66_39]
  by_cases q : at' < k
  · have g := nu.get (α := eR) hs hk q
    simp only [S66, gFs, pFs, okq, bls, bo_true, eUp_at, eUp_eUp, eKls, cl_some, Option.toList_some, Option.toList_none, List.cons_append, List.nil_append, hK_o, hK_hs, nI_mul, nI_add, if_neg c1, if_pos c2, if_neg c3, if_pos c4, if_pos c6, if_neg c7, if_neg c9, c8, nI_rem3 ha3 (show m < 1000 by omega), if_pos ((nI_lt' (show at' < 2 ^ 31 by omega) (show k < 2 ^ 31 by omega)).mpr q), g, if_pos q]
  · simp only [S66, gFs, pFs, okq, bls, bo_true, eUp_at, eUp_eUp, eKls, cl_some, Option.toList_some, Option.toList_none, List.cons_append, List.nil_append, hK_o, hK_hs, nI_mul, nI_add, if_neg c1, if_pos c2, if_neg c3, if_pos c4, if_neg (fun e => q ((nI_lt' (show at' < 2 ^ 31 by omega) (show k < 2 ^ 31 by omega)).mp e)), if_neg q]
theorem n66_end (hJ : J ≤ 8) (hM : M ≤ 14) : ∃ y6 y7, ru 66 39 (LL sl k (2 + 3 * J + 3 * M) J M x6 x7 x8 x9 x10 x11) [] (hK h jt mb hi wi rk co ro R s) = ru 66 445 (LL sl k (2 + 3 * J + 3 * M) J M y6 y7 x8 x9 x10 x11) [] (hK h jt mb hi wi rk co ro R s) := by
  unfold LL
  refine ⟨some (.int (nI (1 + 3 * J))), some (.int (nI (1 + 3 * J + 1 + 3 * M))), ?_⟩
  have c1 : ¬ nI (2 + 3 * J + 3 * M) = 0 := nI_ne0 (by omega) (by omega)
  have c2 : nI (1 + 3 * J) < nI (2 + 3 * J + 3 * M) := (nI_lt' (by omega) (by omega)).mpr (by omega)
  have c3 : ¬ nI (2 + 3 * J + 3 * M) ≤ 0 := fun e => by have := (nI_le0 (by omega)).mp e; omega
  have c4 : ¬ nI (2 + 3 * J + 3 * M) < nI (1 + 3 * J + 1 + 3 * M) := fun e => by have := (nI_lt' (by omega) (by omega)).mp e; omega
  rw [H66_39]
  simp only [S66, gFs, pFs, okq, bls, bo_true, eUp_at, eUp_eUp, eKls, cl_some, Option.toList_some, Option.toList_none, List.cons_append, List.nil_append, hK_o, hK_hs, nI_mul, nI_add, if_neg c1, if_pos c2, if_neg c3, if_neg c4]
end NE1
