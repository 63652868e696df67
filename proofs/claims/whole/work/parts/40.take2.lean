/-! DIVIDER: takeDigit, the guess mended -/
theorem kr_top {U : Int} {D n : Nat} (hD : D < BB ^ n) (h1 : -(2 * (D : Int)) ≤ U) (h2 : U < D) : -2 ≤ U / ((BB ^ n : Nat) : Int) ∧ U / ((BB ^ n : Nat) : Int) ≤ 0 ∧ (U / ((BB ^ n : Nat) : Int) < 0 ↔ U < 0) := by
  have hp := BPp n
  have hd : (D : Int) < ((BB ^ n : Nat) : Int) := by omega
  generalize ((BB ^ n : Nat) : Int) = P at *
  refine ⟨?_, ?_, ?_⟩
  · exact (Int.le_ediv_iff_mul_le hp).mpr (by omega)
  · have := (Int.ediv_lt_iff_lt_mul (a := U) (b := 1) hp).mpr (by omega)
    omega
  · constructor
    · intro e
      have := (Int.ediv_lt_iff_lt_mul (a := U) (b := 0) hp).mp e
      omega
    · intro e
      exact (Int.ediv_lt_iff_lt_mul hp).mpr (by omega)
theorem kr_give {F F' : Nat → Int32} {a n D : Nat} {U : Int} (k : KR F a n U) (h1 : ∀ i, i < n → F' (a + i) = nI (dgt (((U % ((BB ^ n : Nat) : Int)).toNat + D) % BB ^ n) i)) (h2 : F' (a + n) = iI (U / ((BB ^ n : Nat) : Int) + ((((U % ((BB ^ n : Nat) : Int)).toNat + D) / BB ^ n : Nat) : Int))) : KR F' a n (U + D) := by
  have hp := BPp n
  have hm := mod_nat U n
  have hU := Int.emod_add_mul_ediv U ((BB ^ n : Nat) : Int)
  have e : U + D = (((U % ((BB ^ n : Nat) : Int)).toNat + D : Nat) : Int) + ((BB ^ n : Nat) : Int) * (U / ((BB ^ n : Nat) : Int)) := by
    rw [Int.natCast_add]
    omega
  generalize hW : (U % ((BB ^ n : Nat) : Int)).toNat + D = W at *
  constructor
  · intro i hi
    rw [h1 i hi]
    congr 2
    rw [e, Int.add_mul_emod_self_left, ← Int.natCast_emod, Int.toNat_natCast]
  · rw [h2]
    congr 1
    rw [e, Int.add_mul_ediv_left _ _ (BPi n), ← Int.natCast_ediv]
    omega
section TD
variable {h : eH} {p N n at0 D T : Nat} {bs : Int32} {fs : Nat → Int32} {x3 x5 x9 x12 : Option Value}
theorem d119_ok (hN : N < 2 ^ 30) (hat : at0 + n < N) {F : Nat → Int32} {U : Int} {g tr : Nat} (hg : g < BB) (htr : tr ≤ 2) (k : KR F at0 n U) (hD : D < BB ^ n) (hU0 : 0 ≤ U) (hU : U < D) : ru 119 181 [some (.ref 21), some (.ref p), some (.int (nI at0)), x3, some (.int (nI (at0 + n))), x5, none, some (.long (lN g)), none, x9, none, some (.int (nI tr)), x12, none] [] (eUp h p (.inl (0, N, .inl F))) = some (some (.int (nI g)), eUp h p (.inl (0, N, .inl F))) := by
  have hz : U / ((BB ^ n : Nat) : Int) = 0 := Int.ediv_eq_zero_of_lt hU0 (by omega)
  rw [H119_181]
  simp only [S119, gFs, pFs, okq, bls, bo_true, eUp_at, eUp_eUp, eKls, cl_some, Option.toList_some, Option.toList_none, List.cons_append, List.nil_append]
  by_cases h2 : 2 ≤ tr
  · rw [if_pos (nI_le h2 (by omega)), H119_212]
    simp only [S119, gFs, pFs, okq, bls, bo_true, eUp_at, eUp_eUp, eKls, cl_some, Option.toList_some, Option.toList_none, List.cons_append, List.nil_append, lN_i]
  · rw [if_neg (nI_ge (by omega) (by decide)), aI_nI hat (by omega), k.2, hz, if_pos (by decide), H119_212]
    simp only [S119, gFs, pFs, okq, bls, bo_true, eUp_at, eUp_eUp, eKls, cl_some, Option.toList_some, Option.toList_none, List.cons_append, List.nil_append, lN_i]
theorem d119_try (hd : DV h) (ws : WR h 24 36 (nI n) bs fs) (hn : n ≤ 36) (hfs : ∀ i, i < n → fs i = nI (dgt D i)) (hp1 : p ≠ 21) (hp2 : p ≠ 24) (hp3 : p ≠ 25) (hN : N < 2 ^ 30) (hat : at0 + n < N) {F : Nat → Int32} {U : Int} {g tr : Nat} (hg0 : 0 < g) (htr : tr < 2) (k : KR F at0 n U) (hD : D < BB ^ n) (hU0 : U < 0) (hU : -(2 * (D : Int)) ≤ U) : ∃ F', ru 119 181 [some (.ref 21), some (.ref p), some (.int (nI at0)), x3, some (.int (nI (at0 + n))), x5, none, some (.long (lN g)), none, x9, none, some (.int (nI tr)), x12, none] [] (eUp h p (.inl (0, N, .inl F))) = ru 119 181 [some (.ref 21), some (.ref p), some (.int (nI at0)), x3, some (.int (nI (at0 + n))), x5, none, some (.long (lN (g - 1))), none, x9, none, some (.int (nI (tr + 1))), x12, none] [] (eUp h p (.inl (0, N, .inl F'))) ∧ KR F' at0 n (U + D) ∧ ∀ j, (j < at0 ∨ at0 + n < j) → F' j = F j := by
  obtain ⟨t1, t2, t3⟩ := kr_top hD hU (by omega)
  obtain ⟨F', hgb, r1, r2, r3⟩ := d118 (h := eUp h p (.inl (0, N, .inl F))) (p := p) (N := N) (n := n) (at0 := at0) (D := D) (U := (U % ((BB ^ n : Nat) : Int)).toNat) (t := U / ((BB ^ n : Nat) : Int)) ((eUp_ne (Ne.symm hp1)).trans hd) ⟨(eUp_ne (Ne.symm hp2)).trans ws.1, (eUp_ne (Ne.symm hp3)).trans ws.2⟩ hn hfs hD hp1 hp2 hp3 hN hat (eUp_at ..) k.1 (by
    have := Int.emod_lt_of_pos U (BPp n)
    have := mod_nat U n
    omega) k.2
  refine ⟨F', ?_, kr_give k r1 r2, r3⟩
  rw [eUp_eUp] at hgb
  rw [H119_181]
  simp only [S119, gFs, pFs, okq, bls, bo_true, eUp_at, eUp_eUp, eKls, cl_some, Option.toList_some, Option.toList_none, List.cons_append, List.nil_append]
  rw [if_neg (nI_ge htr (by decide)), aI_nI hat (by omega), k.2, if_neg (by
    rw [show (0 : Int32) = iI 0 from rfl, iI_le ⟨by decide, by decide⟩ ⟨by omega, by omega⟩]
    have := t3.mpr hU0
    omega)]
  simp only [S119, gFs, pFs, okq, bls, bo_true, eUp_at, eUp_eUp, eKls, cl_some, Option.toList_some, Option.toList_none, List.cons_append, List.nil_append, hgb]
  rw [lN_sub (show 1 ≤ g by omega), nI_1]
/-- one digit of a quotient -/
theorem d119 (hd : DV h) (ws : WR h 24 36 (nI n) bs fs) (hn : n ≤ 36) (hn0 : 0 < n) (hfs : ∀ i, i < n → fs i = nI (dgt D i)) (hp1 : p ≠ 21) (hp2 : p ≠ 24) (hp3 : p ≠ 25) (hN : N < 2 ^ 30) (hat : at0 + n < N) {F : Nat → Int32} (hp : h.1 p = .inl (0, N, .inl F)) (hF : ∀ i, i ≤ n → F (at0 + i) = nI (dgt T i)) (hD : D < BB ^ n) (hD2 : BB ^ n ≤ 2 * D) (hT : T < BB ^ (n + 1)) (hTD : T < D * BB) :
    ∃ F', den 119 [.ref 21, .ref p, .int (nI at0)] h = some (some (.int (nI (T / D))), eUp h p (.inl (0, N, .inl F'))) ∧ (∀ i, i ≤ n → F' (at0 + i) = nI (dgt (T % D) i)) ∧ ∀ j, (j < at0 ∨ at0 + n < j) → F' j = F j := by
  have hB : BB = 1000000000 := rfl
  have hD0 : 0 < D := by have := BP_pos n; omega
  have hdv : 0 < dgt D (n - 1) := by
    have h1 : nd D = n := by
      have a1 := nd_le.mpr hD
      by_cases hc : nd D ≤ n - 1
      · have a2 := nd_le.mp hc
        have a3 : BB ^ n = BB ^ (n - 1) * BB := by rw [← Nat.pow_succ]; congr 1; omega
        have a4 : 2 * BB ^ (n - 1) ≤ BB ^ (n - 1) * BB := by rw [Nat.mul_comm]; exact Nat.mul_le_mul_left _ (by decide)
        omega
      · omega
    have := dgt_top (m := D) (by omega)
    rw [h1] at this
    omega
  have hdl := dgt_lt D (n - 1)
  have l1 := dgt_lt T n
  have l2 := dgt_lt T (n - 1)
  obtain ⟨k1, k2, k3⟩ := knuth hn0 hD hD2 hT hTD rfl
  generalize hgd : (if BB - 1 < (dgt T n * BB + dgt T (n - 1)) / dgt D (n - 1) then BB - 1 else (dgt T n * BB + dgt T (n - 1)) / dgt D (n - 1)) = g at *
  have hguess : (if lN 999999999 < lN ((dgt T n * 1000000000 + dgt T (n - 1)) / dgt D (n - 1)) then lN 999999999 else lN ((dgt T n * 1000000000 + dgt T (n - 1)) / dgt D (n - 1))) = lN g := by
    have hgd2 : (if 999999999 < (dgt T n * 1000000000 + dgt T (n - 1)) / dgt D (n - 1) then 999999999 else (dgt T n * 1000000000 + dgt T (n - 1)) / dgt D (n - 1)) = g := hgd
    rw [← hgd2]
    have hq : (dgt T n * 1000000000 + dgt T (n - 1)) / dgt D (n - 1) ≤ dgt T n * 1000000000 + dgt T (n - 1) := Nat.div_le_self _ _
    have hiff := pk_lLT (a := 999999999) (b := (dgt T n * 1000000000 + dgt T (n - 1)) / dgt D (n - 1)) (by decide) (by omega)
    by_cases hc : 999999999 < (dgt T n * 1000000000 + dgt T (n - 1)) / dgt D (n - 1)
    · rw [if_pos (hiff.mpr hc), if_pos hc]
    · rw [if_neg (fun e => hc (hiff.mp e)), if_neg hc]
  have hTn : (T : Int) / ((BB ^ n : Nat) : Int) = (dgt T n : Int) := by
    rw [← Int.natCast_ediv]
    unfold dgt
    rw [Nat.mod_eq_of_lt]
    rw [Nat.div_lt_iff_lt_mul (BP_pos n), Nat.mul_comm, ← Nat.pow_succ]
    exact hT
  have hmt : (T : Int) + -(g : Int) * D = ((T % BB ^ n : Nat) : Int) + -(g : Int) * ((D % BB ^ n : Nat) : Int) + ((BB ^ n : Nat) : Int) * (dgt T n : Int) := by
    rw [Nat.mod_eq_of_lt hD, ← hTn]
    have := Int.emod_add_mul_ediv (T : Int) ((BB ^ n : Nat) : Int)
    push_cast at this ⊢
    omega
  have htop : ((T : Int) + -(g : Int) * D) / ((BB ^ n : Nat) : Int) = (dgt T n : Int) + cJ T D (-(g : Int)) n := by
    rw [hmt, Int.add_mul_ediv_left _ _ (BPi n)]
    unfold cJ
    omega
  have hV0 := mod_nat ((T : Int) + -(g : Int) * D) n
  obtain ⟨x12', hs⟩ := d119_sub (T := T) (g := g) (x4 := some (.int (nI (at0 + n)))) (x5 := some (.long (lN (dgt T n * 1000000000 + dgt T (n - 1))))) (V := (((T : Int) + -(g : Int) * D) % ((BB ^ n : Nat) : Int)).toNat) (kk := -(((T : Int) + -(g : Int) * D) / ((BB ^ n : Nat) : Int))) hd ws hn hfs hp1 hp2 hp3 hN hat (fun i hi => hF i (by omega)) k3 (by
    rw [hV0]
    have := Int.emod_add_mul_ediv ((T : Int) + -(g : Int) * D) ((BB ^ n : Nat) : Int)
    rw [Int.mul_neg]
    omega) n 0 (Nat.zero_add _) none
  rw [ovs_0, eUp_id hp, cJ_0] at hs
  obtain ⟨cn1, cn2⟩ := cJ_negw (L := T) (S := D) (g := g) n
  -- the first remainder
  have hkr : KR (upd (ovs F (((T : Int) + -(g : Int) * D) % ((BB ^ n : Nat) : Int)).toNat at0 n) (at0 + n) (iI ((dgt T n : Int) + cJ T D (-(g : Int)) n))) at0 n ((T : Int) + -(g : Int) * D) := by
    constructor
    · intro i hi
      rw [pk_un (by omega), ovs_in hi]
    · rw [pk_us, htop]
  have hout : ∀ j, (j < at0 ∨ at0 + n < j) → upd (ovs F (((T : Int) + -(g : Int) * D) % ((BB ^ n : Nat) : Int)).toNat at0 n) (at0 + n) (iI ((dgt T n : Int) + cJ T D (-(g : Int)) n)) j = F j := by
    intro j hj
    rw [pk_un (by omega), ovs_out (by omega)]
  generalize hF1 : upd (ovs F (((T : Int) + -(g : Int) * D) % ((BB ^ n : Nat) : Int)).toNat at0 n) (at0 + n) (iI ((dgt T n : Int) + cJ T D (-(g : Int)) n)) = F1 at hkr hout
  have hstart : den 119 [.ref 21, .ref p, .int (nI at0)] h = ru 119 181 [some (.ref 21), some (.ref p), some (.int (nI at0)), some (.int (nI n)), some (.int (nI (at0 + n))), some (.long (lN (dgt T n * 1000000000 + dgt T (n - 1)))), none, some (.long (lN g)), none, some (.long (lI (-(cJ T D (-(g : Int)) n)))), none, some (.int (nI 0)), x12', none] [] (eUp h p (.inl (0, N, .inl F1))) := by
    rw [E119 21 _ _ hd]
    have hds : DV h := hd
    unfold DV at hds
    simp only [S119, gFs, pFs, okq, bls, bo_true, eUp_at, eUp_eUp, eKls, cl_some, Option.toList_some, Option.toList_none, List.cons_append, List.nil_append, hds, ws.1, ws.2, hp, nI_add]
    rw [if_neg (nI_nlt (show 1 ≤ n by omega) (by omega)), pk_sub (show 1 ≤ n by omega), aI_nI (by omega) (by decide), hfs (n - 1) (by omega), if_neg (nI_nlt (show 1 ≤ dgt D (n - 1) by omega) (by omega)), aN_sf (by decide), if_pos (show nI (at0 + n) < nI N from nI_lt hat (by omega)), pk_sub (show 1 ≤ at0 + n by omega), aI_nI hat (by omega), aI_nI (show at0 + n - 1 < N by omega) (by omega), show at0 + n - 1 = at0 + (n - 1) by omega, hF n (Nat.le_refl _), hF (n - 1) (by omega), nI_l (by omega), nI_l (by omega), lN_mul, lN_add]
    rw [aI_nI (by omega) (by decide), hfs (n - 1) (by omega), nI_l (by omega)]
    have hne : ¬ lN (dgt D (n - 1)) = 0 := fun e => by
      have := (pk_lEQ (a := dgt D (n - 1)) (b := 0) (by omega) (by decide)).mp e
      omega
    simp only [hne, if_false]
    rw [pk_lDiv (by omega) hdv (by omega)]
    simp only [S119, gFs, pFs, okq, bls, bo_true, eUp_at, eUp_eUp, eKls, cl_some, Option.toList_some, Option.toList_none, List.cons_append, List.nil_append, d10, hguess]
    rw [show lN 0 = lI (-0) from rfl, hs, H119_168]
    simp only [S119, gFs, pFs, okq, bls, bo_true, eUp_at, eUp_eUp, eKls, cl_some, Option.toList_some, Option.toList_none, List.cons_append, List.nil_append]
    rw [aI_nI hat (by omega), ovs_out (by omega), hF n (Nat.le_refl _), lI_i, nI_I (dgt T n), iI_sub, wI_nI hat (by omega)]
    rw [Int.sub_neg, hF1]
  have fin : ∀ (F' : Nat → Int32) (g' : Nat) (U : Int), U = T + -(g' : Int) * D → 0 ≤ U → U < D → KR F' at0 n U → g' = T / D ∧ ∀ i, i ≤ n → F' (at0 + i) = nI (dgt (T % D) i) := by
    intro F' g' U hU hU0 hUD hk
    obtain ⟨u, rfl⟩ := Int.eq_ofNat_of_zero_le hU0
    have e : T = u + g' * D := by
      have : (T : Int) = ((u + g' * D : Nat) : Int) := by push_cast; rw [Int.neg_mul] at hU; omega
      exact Int.ofNat_inj.mp this
    have hu : u < D := by omega
    have e1 : T / D = g' := by rw [e, Nat.add_mul_div_right _ _ hD0, Nat.div_eq_of_lt hu, Nat.zero_add]
    have e2 : T % D = u := by rw [e, Nat.add_mul_mod_self_right, Nat.mod_eq_of_lt hu]
    refine ⟨e1.symm, ?_⟩
    intro i hi
    rw [e2]
    have hlt : (u : Int) < ((BB ^ n : Nat) : Int) := by omega
    by_cases hin : i < n
    · rw [hk.1 i hin, Int.emod_eq_of_lt hU0 hlt, Int.toNat_natCast]
    · have : i = n := by omega
      subst this
      rw [hk.2, Int.ediv_eq_zero_of_lt hU0 hlt, dgt_big (nd_le.mpr (by omega))]
      rfl
  have hTm := Nat.mod_add_div T D
  have hTl := Nat.mod_lt T hD0
  have gD : ∀ j : Nat, j ≤ 2 → g = T / D + j → (T : Int) + -(g : Int) * D = ((T % D : Nat) : Int) - j * D := by
    intro j hj hgj
    have e : (T : Int) = ((T % D : Nat) : Int) + (D : Int) * ((T / D : Nat) : Int) := by
      rw [← Int.natCast_mul, ← Int.natCast_add, hTm]
    have e2 : (g : Int) = ((T / D : Nat) : Int) + j := by rw [hgj]; push_cast; rfl
    generalize ((T % D : Nat) : Int) = m at *
    generalize ((T / D : Nat) : Int) = q at *
    rw [e, e2]
    grind
  have hcase : g = T / D + 0 ∨ g = T / D + 1 ∨ g = T / D + 2 := by omega
  rcases hcase with hj | hj | hj
  · have eU := gD 0 (by decide) hj
    have hU : (0 : Int) ≤ T + -(g : Int) * D ∧ (T : Int) + -(g : Int) * D < D := by rw [eU]; constructor <;> omega
    obtain ⟨f1, f2⟩ := fin F1 g _ rfl hU.1 hU.2 hkr
    refine ⟨F1, ?_, f2, hout⟩
    rw [hstart, d119_ok hN hat k3 (by decide) hkr hD hU.1 hU.2, f1]
  · have eU := gD 1 (by decide) hj
    have hg1 : 1 ≤ g := by rw [hj]; exact Nat.le_add_left 1 _
    have hU : (T : Int) + -(g : Int) * D < 0 ∧ -(2 * (D : Int)) ≤ (T : Int) + -(g : Int) * D := by rw [eU]; constructor <;> omega
    obtain ⟨F2', r1, r2, r3⟩ := d119_try (x3 := some (.int (nI n))) (x5 := some (.long (lN (dgt T n * 1000000000 + dgt T (n - 1))))) (x9 := some (.long (lI (-(cJ T D (-(g : Int)) n))))) (x12 := x12') hd ws hn hfs hp1 hp2 hp3 hN hat (g := g) (tr := 0) hg1 (by decide) hkr hD hU.1 hU.2
    have hU2 : (0 : Int) ≤ T + -(g : Int) * D + D ∧ (T : Int) + -(g : Int) * D + D < D := by rw [eU]; constructor <;> omega
    obtain ⟨f1, f2⟩ := fin F2' (g - 1) _ (by
      have : ((g - 1 : Nat) : Int) = (g : Int) - 1 := Int.natCast_sub hg1
      rw [this]; grind) hU2.1 hU2.2 r2
    refine ⟨F2', ?_, f2, fun j hj => (r3 j hj).trans (hout j hj)⟩
    rw [hstart, r1, d119_ok hN hat (Nat.lt_of_le_of_lt (Nat.sub_le _ _) k3) (by decide) r2 hD hU2.1 hU2.2, f1]
  · have eU := gD 2 (by decide) hj
    have hg2 : 2 ≤ g := by rw [hj]; exact Nat.le_add_left 2 _
    have hU : (T : Int) + -(g : Int) * D < 0 ∧ -(2 * (D : Int)) ≤ (T : Int) + -(g : Int) * D := by rw [eU]; constructor <;> omega
    obtain ⟨F2', r1, r2, r3⟩ := d119_try (x3 := some (.int (nI n))) (x5 := some (.long (lN (dgt T n * 1000000000 + dgt T (n - 1))))) (x9 := some (.long (lI (-(cJ T D (-(g : Int)) n))))) (x12 := x12') hd ws hn hfs hp1 hp2 hp3 hN hat (g := g) (tr := 0) (by omega) (by decide) hkr hD hU.1 hU.2
    have hU1 : (T : Int) + -(g : Int) * D + D < 0 ∧ -(2 * (D : Int)) ≤ (T : Int) + -(g : Int) * D + D := by rw [eU]; constructor <;> omega
    obtain ⟨F3', s1, s2, s3⟩ := d119_try (x3 := some (.int (nI n))) (x5 := some (.long (lN (dgt T n * 1000000000 + dgt T (n - 1))))) (x9 := some (.long (lI (-(cJ T D (-(g : Int)) n))))) (x12 := x12') hd ws hn hfs hp1 hp2 hp3 hN hat (g := g - 1) (tr := 1) (by omega) (by decide) r2 hD hU1.1 hU1.2
    have hU2 : (0 : Int) ≤ T + -(g : Int) * D + D + D ∧ (T : Int) + -(g : Int) * D + D + D < D := by rw [eU]; constructor <;> omega
    obtain ⟨f1, f2⟩ := fin F3' (g - 1 - 1) _ (by
      have : ((g - 1 - 1 : Nat) : Int) = (g : Int) - 2 := by rw [Nat.sub_sub]; exact Int.natCast_sub hg2
      rw [this]; grind) hU2.1 hU2.2 s2
    refine ⟨F3', ?_, f2, fun j hj => ((s3 j hj).trans (r3 j hj)).trans (hout j hj)⟩
    rw [hstart, r1, s1, d119_ok hN hat (Nat.lt_of_le_of_lt (Nat.le_trans (Nat.sub_le _ _) (Nat.sub_le _ _)) k3) (by decide) s2 hD hU2.1 hU2.2, f1]
end TD
