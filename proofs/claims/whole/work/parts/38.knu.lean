/-! DIVIDER: giving back, one digit -/
def DV (h : eH) : Prop := h.1 21 = .inr (2, [.ref 22, .ref 24, .ref 26, .ref 28])
theorem dgt_linM {X L S n : Nat} {w k : Int} (h : (X : Int) = L + w * S + ((BB ^ n : Nat) : Int) * k) {i : Nat} (hi : i < n) : (dgt X i : Int) = ((dgt L i : Int) + w * (dgt S i : Int) + cJ L S w i) % (BB : Int) := by
  rw [← cJ_mid]
  have hL := Nat.mod_add_div L (BB ^ (i + 1))
  have hS := Nat.mod_add_div S (BB ^ (i + 1))
  have e : ((BB ^ (i + 1) : Nat) : Int) = (BB : Int) * ((BB ^ i : Nat) : Int) := by rw [Nat.pow_succ, Nat.mul_comm]; push_cast; rfl
  have en : ((BB ^ n : Nat) : Int) = (BB : Int) * ((BB ^ i : Nat) : Int) * ((BB ^ (n - i - 1) : Nat) : Int) := by
    rw [← e, ← Int.natCast_mul, ← Nat.pow_add]
    congr 2
    omega
  have hX : (X : Int) = (((L % BB ^ (i + 1) : Nat) : Int) + w * ((S % BB ^ (i + 1) : Nat) : Int)) + ((BB : Int) * (((L / BB ^ (i + 1) : Nat) : Int) + w * ((S / BB ^ (i + 1) : Nat) : Int) + ((BB ^ (n - i - 1) : Nat) : Int) * k)) * ((BB ^ i : Nat) : Int) := by
    rw [h, en]
    have h1 : (L : Int) = ((L % BB ^ (i + 1) : Nat) : Int) + ((BB ^ (i + 1) : Nat) : Int) * ((L / BB ^ (i + 1) : Nat) : Int) := by
      rw [← Int.natCast_mul, ← Int.natCast_add, hL]
    have h2 : (S : Int) = ((S % BB ^ (i + 1) : Nat) : Int) + ((BB ^ (i + 1) : Nat) : Int) * ((S / BB ^ (i + 1) : Nat) : Int) := by
      rw [← Int.natCast_mul, ← Int.natCast_add, hS]
    rw [e] at h1 h2
    generalize ((L % BB ^ (i + 1) : Nat) : Int) = a at *
    generalize ((S % BB ^ (i + 1) : Nat) : Int) = b at *
    generalize ((L / BB ^ (i + 1) : Nat) : Int) = p at *
    generalize ((S / BB ^ (i + 1) : Nat) : Int) = q at *
    generalize ((BB ^ (n - i - 1) : Nat) : Int) = c at *
    rw [h1, h2]
    grind
  unfold dgt
  rw [Int.natCast_emod, Int.natCast_ediv, hX, Int.add_mul_ediv_right _ _ (BPi i), Int.add_mul_emod_self_left]
theorem cJ_negw {L S g : Nat} (i : Nat) : -(g : Int) ≤ cJ L S (-(g : Int)) i ∧ cJ L S (-(g : Int)) i ≤ 0 := by
  unfold cJ
  have h1 : ((L % BB ^ i : Nat) : Int) < ((BB ^ i : Nat) : Int) := by have := mod_lt' L i; omega
  have h2 : ((S % BB ^ i : Nat) : Int) ≤ ((BB ^ i : Nat) : Int) := by have := mod_lt' S i; omega
  have h3 : (0 : Int) ≤ ((L % BB ^ i : Nat) : Int) := Int.natCast_nonneg _
  have h5 : (0 : Int) ≤ ((S % BB ^ i : Nat) : Int) := Int.natCast_nonneg _
  have h6 : (0 : Int) ≤ (g : Int) := Int.natCast_nonneg _
  have h7 := Int.mul_le_mul_of_nonneg_left h2 h6
  have h8 := Int.mul_nonneg h6 h5
  have e : -(g : Int) * ((S % BB ^ i : Nat) : Int) = -((g : Int) * ((S % BB ^ i : Nat) : Int)) := Int.neg_mul ..
  have e2 : -(g : Int) * ((BB ^ i : Nat) : Int) = -((g : Int) * ((BB ^ i : Nat) : Int)) := Int.neg_mul ..
  constructor
  · refine (Int.le_ediv_iff_mul_le (BPp i)).mpr ?_
    rw [e, e2]
    omega
  · have : (((L % BB ^ i : Nat) : Int) + -(g : Int) * ((S % BB ^ i : Nat) : Int)) < 1 * ((BB ^ i : Nat) : Int) := by rw [e]; omega
    have := (Int.ediv_lt_iff_lt_mul (BPp i)).mpr this
    omega
def ovs (f : Nat → Int32) (V a i : Nat) : Nat → Int32 := fun j => if a ≤ j ∧ j < a + i then nI (dgt V (j - a)) else f j
theorem ovs_upd (f : Nat → Int32) (V a i : Nat) : upd (ovs f V a i) (a + i) (nI (dgt V i)) = ovs f V a (i + 1) := by
  funext j
  unfold upd ovs
  by_cases h1 : j = a + i
  · subst h1; rw [if_pos rfl, if_pos (by omega), show a + i - a = i by omega]
  · rw [if_neg h1]
    by_cases h2 : a ≤ j ∧ j < a + i
    · rw [if_pos h2, if_pos (by omega)]
    · rw [if_neg h2, if_neg (by omega)]
theorem ovs_0 (f : Nat → Int32) (V a : Nat) : ovs f V a 0 = f := by
  funext j
  unfold ovs
  rw [if_neg (by omega)]
theorem ovs_out {f : Nat → Int32} {V a i j : Nat} (h : j < a ∨ a + i ≤ j) : ovs f V a i j = f j := by
  unfold ovs
  rw [if_neg (by omega)]
theorem ovs_in {f : Nat → Int32} {V a i t : Nat} (h : t < i) : ovs f V a i (a + t) = nI (dgt V t) := by
  unfold ovs
  rw [if_pos (by omega), show a + t - a = t by omega]
theorem d118_loop {h : eH} {p N n at0 D U : Nat} {bs : Int32} {F fs : Nat → Int32} (hd : DV h) (ws : WR h 24 36 (nI n) bs fs) (hn : n ≤ 36) (hfs : ∀ i, i < n → fs i = nI (dgt D i)) (hp1 : p ≠ 21) (hp2 : p ≠ 24) (hp3 : p ≠ 25) (hN : N < 2 ^ 30) (hat : at0 + n < N) (hF : ∀ i, i < n → F (at0 + i) = nI (dgt U i)) :
    ∀ k i, i + k = n → ∀ x5 : Option Value, ∃ x5', ru 118 5 [some (.ref 21), some (.ref p), some (.int (nI at0)), some (.int (nI (cN U D 1 i))), some (.int (nI i)), x5] [] (eUp h p (.inl (0, N, .inl (ovs F (U + 1 * D) at0 i)))) =
      ru 118 70 [some (.ref 21), some (.ref p), some (.int (nI at0)), some (.int (nI (cN U D 1 n))), some (.int (nI n)), x5'] [] (eUp h p (.inl (0, N, .inl (ovs F (U + 1 * D) at0 n)))) := by
  have e21 : ∀ e, (eUp h p e).1 21 = .inr (2, [.ref 22, .ref 24, .ref 26, .ref 28]) := fun e => (eUp_ne (Ne.symm hp1)).trans hd
  have e24 : ∀ e, (eUp h p e).1 24 = .inr (9, [.ref 25, .int (nI n), .int bs]) := fun e => (eUp_ne (Ne.symm hp2)).trans ws.1
  have e25 : ∀ e, (eUp h p e).1 25 = .inl (0, 36, .inl fs) := fun e => (eUp_ne (Ne.symm hp3)).trans ws.2
  intro k
  induction k with
  | zero =>
    intro i hi x5
    have : i = n := by omega
    subst this
    refine ⟨x5, ?_⟩
    rw [H118_5]
    simp only [S118, gFs, pFs, okq, bls, bo_true, eUp_at, eUp_eUp, eKls, cl_some, Option.toList_some, Option.toList_none, List.cons_append, List.nil_append, e21, e24]
    rw [if_pos (nI_le (Nat.le_refl _) (by omega))]
  | succ k ih =>
    intro i hi x5
    have l1 := dgt_lt U i
    have l2 := dgt_lt D i
    have l3 := cN_le U D 1 i
    have hB : BB = 1000000000 := rfl
    have hdg : dgt (U + 1 * D) i = (dgt U i + dgt D i + cN U D 1 i) % 1000000000 := by
      have := dgt_linN (X := U + 1 * D) (L := U) (S := D) (m := 1) rfl i
      rw [Nat.one_mul] at this ⊢
      rw [this, Nat.one_mul]
      rfl
    have hcs : cN U D 1 (i + 1) = (dgt U i + dgt D i + cN U D 1 i) / 1000000000 := by
      have := cN_succ U D 1 i
      rw [Nat.one_mul] at this
      exact this
    have hrd : ovs F (U + 1 * D) at0 i (at0 + i) = nI (dgt U i) := by rw [ovs_out (by omega), hF i (by omega)]
    obtain ⟨x5', hih⟩ := ih (i + 1) (by omega) (some (.int (nI (dgt U i + dgt D i + cN U D 1 i))))
    refine ⟨x5', ?_⟩
    rw [← hih, H118_5]
    simp only [S118, gFs, pFs, okq, bls, bo_true, eUp_at, eUp_eUp, eKls, cl_some, Option.toList_some, Option.toList_none, List.cons_append, List.nil_append, e21, e24, e25, nI_add]
    rw [if_neg (nI_ge (by omega) (by omega)), aI_nI (by omega) (by omega), aI_nI (by omega) (by decide), hrd, hfs i (by omega)]
    simp only [S118, gFs, pFs, okq, bls, bo_true, eUp_at, eUp_eUp, eKls, cl_some, Option.toList_some, Option.toList_none, List.cons_append, List.nil_append, e21, e24, e25, nI_add]
    by_cases hc : dgt U i + dgt D i + cN U D 1 i < 1000000000
    · rw [if_pos (nI_lt hc (by decide)), pk_mul, Nat.zero_mul, pk_sub (Nat.zero_le _), Nat.sub_zero, wI_nI (by omega) (by omega)]
      have e1 : cN U D 1 (i + 1) = 0 := by rw [hcs]; omega
      have e2 : dgt U i + dgt D i + cN U D 1 i = dgt (U + 1 * D) i := by rw [hdg]; omega
      rw [e1, ← ovs_upd, ← e2, nI_1]
    · rw [if_neg (nI_nlt (by omega) (by omega)), pk_mul, pk_sub (by omega), wI_nI (by omega) (by omega)]
      have e1 : cN U D 1 (i + 1) = 1 := by rw [hcs]; omega
      have e2 : dgt U i + dgt D i + cN U D 1 i - 1 * 1000000000 = dgt (U + 1 * D) i := by rw [hdg]; omega
      rw [e1, e2, ovs_upd, nI_1]
theorem d118 {h : eH} {p N n at0 D U : Nat} {bs : Int32} {F fs : Nat → Int32} {t : Int} (hd : DV h) (ws : WR h 24 36 (nI n) bs fs) (hn : n ≤ 36) (hfs : ∀ i, i < n → fs i = nI (dgt D i)) (hD : D < BB ^ n) (hp1 : p ≠ 21) (hp2 : p ≠ 24) (hp3 : p ≠ 25) (hN : N < 2 ^ 30) (hat : at0 + n < N) (hp : h.1 p = .inl (0, N, .inl F)) (hF : ∀ i, i < n → F (at0 + i) = nI (dgt U i)) (hU : U < BB ^ n) (ht : F (at0 + n) = iI t) :
    ∃ F', den 118 [.ref 21, .ref p, .int (nI at0)] h = some (none, eUp h p (.inl (0, N, .inl F'))) ∧ (∀ i, i < n → F' (at0 + i) = nI (dgt ((U + D) % BB ^ n) i)) ∧ F' (at0 + n) = iI (t + ((U + D) / BB ^ n : Nat)) ∧ ∀ j, (j < at0 ∨ at0 + n < j) → F' j = F j := by
  obtain ⟨x5', hl⟩ := d118_loop hd ws hn hfs hp1 hp2 hp3 hN hat hF n 0 (Nat.zero_add _) none
  rw [ovs_0, eUp_id hp, cN_0] at hl
  have hcn : cN U D 1 n = (U + D) / BB ^ n := by
    unfold cN
    rw [Nat.mod_eq_of_lt hU, Nat.mod_eq_of_lt hD, Nat.one_mul]
  have e21 : ∀ e, (eUp h p e).1 21 = .inr (2, [.ref 22, .ref 24, .ref 26, .ref 28]) := fun e => (eUp_ne (Ne.symm hp1)).trans hd
  have e24 : ∀ e, (eUp h p e).1 24 = .inr (9, [.ref 25, .int (nI n), .int bs]) := fun e => (eUp_ne (Ne.symm hp2)).trans ws.1
  rw [E118 21 _ _ hd]
  simp only [S118, gFs, pFs, okq, bls, bo_true, eUp_at, eUp_eUp, eKls, cl_some, Option.toList_some, Option.toList_none, List.cons_append, List.nil_append]
  rw [hl, H118_70]
  simp only [S118, gFs, pFs, okq, bls, bo_true, eUp_at, eUp_eUp, eKls, cl_some, Option.toList_some, Option.toList_none, List.cons_append, List.nil_append, e21, e24, nI_add]
  rw [aI_nI hat (by omega), wI_nI hat (by omega)]
  refine ⟨_, rfl, ?_, ?_, ?_⟩
  · intro i hi
    rw [pk_un (by omega), ovs_in hi, dgt_mod hi, Nat.one_mul]
  · rw [pk_us, ovs_out (by omega), ht, hcn, nI_I, iI_add]
  · intro j hj
    rw [pk_un (by omega), ovs_out (by omega)]
