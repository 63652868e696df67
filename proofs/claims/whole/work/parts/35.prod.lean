/-! WHOLE: becomeProduct -/
def gG (T W i j t : Nat) : Nat := if i ≤ t ∧ t < i + j then dgt W (t - i) else dgt T t
theorem d96_inner {h : eH} {a p q N Np Nq len i X Y T : Nat} {sz bl sp bp bq : Int32} {f fp fq : Nat → Int32} (wa : WR h a N sz bl f) (wp : WR h p Np sp bp fp) (wq : WR h q Nq (nI (nd Y)) bq fq) (hap : p ≠ a) (haq : q ≠ a) (hN : N < 2 ^ 30) (hNp : Np < 2 ^ 30) (hNq : Nq < 2 ^ 30) (hlen : len ≤ N) (hY : nd Y ≤ Nq) (hi : i < Np) (hfp : fp i = nI (dgt X i)) (hfq : ∀ j, j < nd Y → fq j = nI (dgt Y j)) :
    ∀ k j, j + k = nd Y → ∀ (F : Nat → Int32) (x8 : Option Value), (∀ t, t < len → F t = nI (gG T (T / BB ^ i + dgt X i * Y) i j t)) →
    ∃ F' je j' x8', ru 96 42 [some (.ref a), some (.ref p), some (.ref q), some (.int (nI len)), some (.int (nI i)), some (.long (lN (cN (T / BB ^ i) Y (dgt X i) j))), none, some (.int (nI j)), x8, none] [] (eUp h (a + 1) (.inl (0, N, .inl F))) =
      ru 96 125 [some (.ref a), some (.ref p), some (.ref q), some (.int (nI len)), some (.int (nI i)), some (.long (lN (cN (T / BB ^ i) Y (dgt X i) je))), none, some (.int j'), x8', none] [] (eUp h (a + 1) (.inl (0, N, .inl F'))) ∧ je ≤ nd Y ∧ (je = nd Y ∨ len ≤ i + je) ∧ ∀ t, t < len → F' t = nI (gG T (T / BB ^ i + dgt X i * Y) i je t) := by
  obtain ⟨np1, np2⟩ := wa.apart wp
  obtain ⟨nq1, nq2⟩ := wa.apart wq
  have eA : ∀ e, (eUp h (a + 1) e).1 a = .inr (9, [.ref (a + 1), .int sz, .int bl]) := fun e => (eUp_ne (ne1 a).symm).trans wa.1
  have eP : ∀ e, (eUp h (a + 1) e).1 p = .inr (9, [.ref (p + 1), .int sp, .int bp]) := fun e => (eUp_ne np1).trans wp.1
  have eP1 : ∀ e, (eUp h (a + 1) e).1 (p + 1) = .inl (0, Np, .inl fp) := fun e => (eUp_ne (by omega)).trans wp.2
  have eQ9 : ∀ e, (eUp h (a + 1) e).1 q = .inr (9, [.ref (q + 1), .int (nI (nd Y)), .int bq]) := fun e => (eUp_ne nq1).trans wq.1
  have eQ1 : ∀ e, (eUp h (a + 1) e).1 (q + 1) = .inl (0, Nq, .inl fq) := fun e => (eUp_ne (by omega)).trans wq.2
  intro k
  induction k with
  | zero =>
    intro j hj F x8 hF
    have : j = nd Y := by omega
    refine ⟨F, j, nI j, x8, ?_, by omega, Or.inl this, hF⟩
    rw [H96_42]
    simp only [S96, eQ9, gFs]
    rw [if_pos (nI_le (by omega) (by omega))]
  | succ k ih =>
    intro j hj F x8 hF
    by_cases hlt : i + j < len
    · have hB : BB = 1000000000 := rfl
      have hdX := dgt_lt X i
      have hdY := dgt_lt Y j
      have hdU := dgt_lt (T / BB ^ i) j
      have hcN := cN_le (T / BB ^ i) Y (dgt X i) j
      have hmul : dgt X i * dgt Y j ≤ 1000000000 * 1000000000 := Nat.mul_le_mul (by omega) (by omega)
      have hFj : F (i + j) = nI (dgt (T / BB ^ i) j) := by
        rw [hF (i + j) hlt]
        unfold gG
        rw [if_neg (by omega), dgt_div]
      have hne : ¬ lN 1000000000 = 0 := by decide
      have hdg : dgt (T / BB ^ i + dgt X i * Y) j = (dgt (T / BB ^ i) j + dgt X i * dgt Y j + cN (T / BB ^ i) Y (dgt X i) j) % 1000000000 := dgt_linN (X := T / BB ^ i + dgt X i * Y) rfl j
      have hcs : cN (T / BB ^ i) Y (dgt X i) (j + 1) = (dgt (T / BB ^ i) j + dgt X i * dgt Y j + cN (T / BB ^ i) Y (dgt X i) j) / 1000000000 := cN_succ (T / BB ^ i) Y (dgt X i) j
      have ord : dgt (T / BB ^ i) j + cN (T / BB ^ i) Y (dgt X i) j + dgt X i * dgt Y j = dgt (T / BB ^ i) j + dgt X i * dgt Y j + cN (T / BB ^ i) Y (dgt X i) j := by omega
      obtain ⟨F', je, j', x8', hih, r⟩ := ih (j + 1) (by omega) (upd F (i + j) (nI (dgt (T / BB ^ i + dgt X i * Y) j))) (some (.long (lN (dgt (T / BB ^ i) j + cN (T / BB ^ i) Y (dgt X i) j + dgt X i * dgt Y j)))) (by
        intro t ht
        unfold upd
        by_cases h1 : t = i + j
        · subst h1
          rw [if_pos rfl]
          unfold gG
          rw [if_pos ⟨by omega, by omega⟩, show i + j - i = j by omega]
        · rw [if_neg h1, hF t ht]
          unfold gG
          by_cases h2 : i ≤ t ∧ t < i + j
          · rw [if_pos h2, if_pos ⟨h2.1, by omega⟩]
          · rw [if_neg h2, if_neg (by omega)])
      refine ⟨F', je, j', x8', ?_, r⟩
      rw [← hih, H96_42]
      simp only [S96, eQ9, eA, eP, eP1, eQ1, gFs, eUp_at, eKls, nI_add]
      rw [if_neg (nI_ge (by omega) (by omega)), if_neg (nI_ge hlt (by omega)), aI_nI (by omega) (by omega), aI_nI hi (by omega), aI_nI (by omega) (by omega), hFj, hfp, hfq j (by omega)]
      rw [nI_l (n := dgt (T / BB ^ i) j) (by omega), nI_l (n := dgt X i) (by omega), nI_l (n := dgt Y j) (by omega), lN_mul, lN_add, lN_add]
      simp only [hne, if_false]
      rw [pk_lRem (by omega) (by decide) (by decide), pk_lDiv (by omega) (by decide) (by decide), lN_i, wI_nI (by omega) (by omega), eUp_eUp, nI_1, ord, ← hdg, ← hcs]
    · refine ⟨F, j, nI j, x8, ?_, by omega, Or.inr (by omega), hF⟩
      rw [H96_42]
      simp only [S96, eQ9, gFs, nI_add]
      rw [if_neg (nI_ge (by omega) (by omega)), if_pos (nI_le (by omega) (by omega))]
/-- a row more of the product -/
theorem prod_row (X Y i t : Nat) : dgt (X % BB ^ (i + 1) * Y) t = if t < i then dgt (X % BB ^ i * Y) t else dgt (X % BB ^ i * Y / BB ^ i + dgt X i * Y) (t - i) := by
  have e : X % BB ^ (i + 1) * Y = X % BB ^ i * Y % BB ^ i + BB ^ i * (X % BB ^ i * Y / BB ^ i + dgt X i * Y) := by
    rw [mod_succ, Nat.add_mul]
    have := Nat.mod_add_div (X % BB ^ i * Y) (BB ^ i)
    rw [Nat.mul_add]
    have h2 : dgt X i * BB ^ i * Y = BB ^ i * (dgt X i * Y) := by rw [Nat.mul_comm (dgt X i), Nat.mul_assoc]
    omega
  by_cases h : t < i
  · rw [if_pos h, ← dgt_mod (n := i) h, e, Nat.add_mul_mod_self_left, Nat.mod_mod, dgt_mod h]
  · rw [if_neg h]
    have e2 : (X % BB ^ (i + 1) * Y) / BB ^ i = X % BB ^ i * Y / BB ^ i + dgt X i * Y := by
      rw [e, Nat.add_mul_div_left _ _ (BP_pos i), Nat.div_eq_of_lt (mod_lt' _ _), Nat.zero_add]
    rw [← e2, dgt_div, show i + (t - i) = t by omega]
theorem row_small (X Y i : Nat) : X % BB ^ i * Y / BB ^ i < BB ^ nd Y := by
  rw [Nat.div_lt_iff_lt_mul (BP_pos i), Nat.mul_comm]
  by_cases hY : Y = 0
  · rw [hY, Nat.zero_mul]
    exact Nat.mul_pos (BP_pos _) (BP_pos _)
  · exact Nat.mul_lt_mul_of_lt_of_lt (lt_nd Y) (mod_lt' X i)
theorem gG_end {X Y i je len t : Nat} (hje : je ≤ nd Y) (hor : je = nd Y ∨ len ≤ i + je) (ht : t < len) (hne : t ≠ i + nd Y) : gG (X % BB ^ i * Y) (X % BB ^ i * Y / BB ^ i + dgt X i * Y) i je t = dgt (X % BB ^ (i + 1) * Y) t := by
  rw [prod_row]
  unfold gG
  by_cases h1 : t < i
  · rw [if_pos h1, if_neg (by omega)]
  · rw [if_neg h1]
    by_cases h2 : t < i + je
    · rw [if_pos ⟨by omega, h2⟩]
    · rw [if_neg (by omega)]
      have hb : nd Y + 1 ≤ t - i := by rcases hor with e | e <;> omega
      have hs := row_small X Y i
      have e1 : dgt (X % BB ^ i * Y) t = 0 := by
        have : dgt (X % BB ^ i * Y / BB ^ i) (t - i) = 0 := dgt_big (Nat.le_trans (nd_le.mpr hs) (by omega))
        rw [dgt_div, show i + (t - i) = t by omega] at this
        exact this
      have e2 : dgt (X % BB ^ i * Y / BB ^ i + dgt X i * Y) (t - i) = 0 := by
        refine dgt_big (Nat.le_trans ((nd_le (n := nd Y + 1)).mpr ?_) hb)
        have h3 : dgt X i * Y ≤ (BB - 1) * Y := Nat.mul_le_mul_right _ (by have := dgt_lt X i; omega)
        have h4 : (BB - 1) * Y ≤ (BB - 1) * BB ^ nd Y := Nat.mul_le_mul_left _ (Nat.le_of_lt (lt_nd Y))
        rw [Nat.pow_succ]
        have h5 : BB ^ nd Y * BB = BB ^ nd Y + (BB - 1) * BB ^ nd Y := by
          rw [Nat.mul_comm, Nat.sub_mul, Nat.one_mul]
          have : BB ^ nd Y ≤ BB * BB ^ nd Y := Nat.le_mul_of_pos_left _ BB_pos
          omega
        omega
      rw [e1, e2]
theorem dgt_top_row {X Y i : Nat} : dgt (X % BB ^ (i + 1) * Y) (i + nd Y) = cN (X % BB ^ i * Y / BB ^ i) Y (dgt X i) (nd Y) := by
  rw [prod_row, if_neg (by omega), show i + nd Y - i = nd Y by omega, dgt_linN rfl, dgt_big (nd_le.mpr (row_small X Y i)), dgt_big (m := Y) (Nat.le_refl _), Nat.mul_zero, Nat.zero_add]
  have := cN_le (X % BB ^ i * Y / BB ^ i) Y (dgt X i) (nd Y)
  have := dgt_lt X i
  rw [Nat.mod_eq_of_lt (by omega)]
theorem d96_outer {h : eH} {a p q N Np Nq len X Y : Nat} {sz bl bp bq : Int32} {f fp fq : Nat → Int32} (wa : WR h a N sz bl f) (wp : WR h p Np (nI (nd X)) bp fp) (wq : WR h q Nq (nI (nd Y)) bq fq) (hap : p ≠ a) (haq : q ≠ a) (hN : N < 2 ^ 30) (hNp : Np < 2 ^ 30) (hNq : Nq < 2 ^ 30) (hlen : len ≤ N) (hX : nd X ≤ Np) (hY : nd Y ≤ Nq) (hfp : ∀ j, j < nd X → fp j = nI (dgt X j)) (hfq : ∀ j, j < nd Y → fq j = nI (dgt Y j)) :
    ∀ k i, i + k = nd X → ∀ (F : Nat → Int32) (x5 x7 x8 : Option Value), (∀ t, t < len → F t = nI (dgt (X % BB ^ i * Y) t)) → eKl x7 = x7 →
    ∃ F' x5' x7' x8', ru 96 27 [some (.ref a), some (.ref p), some (.ref q), some (.int (nI len)), some (.int (nI i)), x5, none, x7, x8, none] [] (eUp h (a + 1) (.inl (0, N, .inl F))) =
      ru 96 157 [some (.ref a), some (.ref p), some (.ref q), some (.int (nI len)), some (.int (nI (nd X))), x5', none, x7', x8', none] [] (eUp h (a + 1) (.inl (0, N, .inl F'))) ∧ ∀ t, t < len → F' t = nI (dgt (X * Y) t) := by
  obtain ⟨np1, np2⟩ := wa.apart wp
  obtain ⟨nq1, nq2⟩ := wa.apart wq
  have eA : ∀ e, (eUp h (a + 1) e).1 a = .inr (9, [.ref (a + 1), .int sz, .int bl]) := fun e => (eUp_ne (ne1 a).symm).trans wa.1
  have eP : ∀ e, (eUp h (a + 1) e).1 p = .inr (9, [.ref (p + 1), .int (nI (nd X)), .int bp]) := fun e => (eUp_ne np1).trans wp.1
  have eQ9 : ∀ e, (eUp h (a + 1) e).1 q = .inr (9, [.ref (q + 1), .int (nI (nd Y)), .int bq]) := fun e => (eUp_ne nq1).trans wq.1
  intro k
  induction k with
  | zero =>
    intro i hi F x5 x7 x8 hF _
    have : i = nd X := by omega
    subst this
    refine ⟨F, x5, x7, x8, ?_, ?_⟩
    · rw [H96_27]
      simp only [S96, eP, gFs]
      rw [if_pos (nI_le (Nat.le_refl _) (by omega))]
    · rw [Nat.mod_eq_of_lt (lt_nd X)] at hF
      exact hF
  | succ k ih =>
    intro i hi F x5 x7 x8 hF hk7
    obtain ⟨F1, je, j', x8', hin, hje, hor, hF1⟩ := d96_inner (X := X) (i := i) (T := X % BB ^ i * Y) wa wp wq hap haq hN hNp hNq hlen hY (by omega) (hfp i (by omega)) hfq (nd Y) 0 (Nat.zero_add _) F x8 (by
      intro t ht
      rw [hF t ht]
      unfold gG
      rw [if_neg (by omega)])
    rw [cN_0] at hin
    have hstep : ru 96 27 [some (.ref a), some (.ref p), some (.ref q), some (.int (nI len)), some (.int (nI i)), x5, none, x7, x8, none] [] (eUp h (a + 1) (.inl (0, N, .inl F))) = ru 96 42 [some (.ref a), some (.ref p), some (.ref q), some (.int (nI len)), some (.int (nI i)), some (.long (lN 0)), none, some (.int (nI 0)), x8, none] [] (eUp h (a + 1) (.inl (0, N, .inl F))) := by
      rw [H96_27]
      simp only [S96, eP, gFs, eKls]
      rw [if_neg (nI_ge (by omega) (by omega))]
    have hcle := cN_le (X % BB ^ i * Y / BB ^ i) Y (dgt X i) (nd Y)
    have hdX := dgt_lt X i
    have hb := bb31
    rw [hstep, hin, H96_125]
    simp only [S96, eQ9, eA, gFs, eUp_at, eKls, nI_add]
    by_cases hc : i + nd Y < len
    · have hjeq : je = nd Y := by rcases hor with e | e <;> omega
      subst hjeq
      rw [if_neg (nI_ge hc (by omega)), wI_nI (by omega) (by omega), lN_i, eUp_eUp, nI_1]
      exact ih (i + 1) (by omega) _ _ _ _ (by
        intro t ht
        unfold upd
        by_cases h1 : t = i + nd Y
        · subst h1
          rw [if_pos rfl, dgt_top_row]
        · rw [if_neg h1, hF1 t ht, gG_end hje hor ht h1]) rfl
    · rw [if_pos (nI_le (by omega) (by omega)), nI_1]
      exact ih (i + 1) (by omega) _ _ _ _ (by
        intro t ht
        rw [hF1 t ht, gG_end hje hor ht (by omega)]) rfl
