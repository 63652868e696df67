/-! THE REFERENCE: times -/
def hB5 (h : eH) (g : Nat → Int64) : eH := eUp h 255 (.inl (1, 24, .inr (.inl g)))
theorem hB5_up (h : eH) (g g' : Nat → Int64) : eUp (hB5 h g) 255 (.inl (1, 24, .inr (.inl g'))) = hB5 h g' := eUp_eUp ..
theorem row_end {X Y i j t : Nat} (hj : nd Y ≤ j) (hc : cN (X % BB ^ i * Y / BB ^ i) Y (dgt X i) j = 0) (ht : i + j ≤ t) : dgt (X % BB ^ i * Y) t = dgt (X % BB ^ i * Y / BB ^ i + dgt X i * Y) (t - i) := by
  obtain ⟨s, hs⟩ : ∃ s, t = i + (j + s) := ⟨t - i - j, by omega⟩
  subst hs
  rw [show i + (j + s) - i = j + s by omega, ← dgt_div (X % BB ^ i * Y) i (j + s)]
  generalize X % BB ^ i * Y / BB ^ i = L at *
  generalize dgt X i = m at *
  rw [← dgt_div L j s, ← dgt_div (L + m * Y) j s]
  have hY : Y % BB ^ j = Y := Nat.mod_eq_of_lt (nd_le.mp hj)
  unfold cN at hc
  rw [hY] at hc
  have hB := BP_pos j
  have h1 : (L + m * Y) / BB ^ j = L / BB ^ j := by
    have h2 : L + m * Y = (L % BB ^ j + m * Y) + BB ^ j * (L / BB ^ j) := by
      have := Nat.mod_add_div L (BB ^ j)
      omega
    rw [h2, Nat.add_mul_div_left _ _ hB, hc, Nat.zero_add]
  rw [h1]
section RM2
variable {h : eH} {jt mb hi wi rk co : Int32} {f : Nat → Int64} {t a b X Y : Nat} {bl : Int32}
theorem d27_inner {i : Nat} (o : MOo h jt mb hi wi rk co) (lX : LN h 253 X) (lY : LN h 254 Y) (hY : nd Y ≤ 24) (hi' : i < 24) : ∀ r j g x11, i + j + r = 24 → (∀ k, k < 24 → g k = lN (gG (X % BB ^ i * Y) (X % BB ^ i * Y / BB ^ i + dgt X i * Y) i j k)) → ∃ g' y8 y10 y11 y12, ru 27 96 [some (.ref 239), some (.int (nI t)), some (.int (nI a)), some (.int (nI b)), some (.int bl), some (.int (nI (nd X))), some (.int (nI (nd Y))), some (.int (nI i)), some (.long (lN (cN (X % BB ^ i * Y / BB ^ i) Y (dgt X i) j))), none, some (.int (nI j)), x11, none] [] (hB5 h g) = ru 27 83 [some (.ref 239), some (.int (nI t)), some (.int (nI a)), some (.int (nI b)), some (.int bl), some (.int (nI (nd X))), some (.int (nI (nd Y))), some (.int (nI (i + 1))), y8, none, y10, y11, y12] [] (hB5 h g') ∧ (∀ k, k < 24 → g' k = lN (dgt (X % BB ^ (i + 1) * Y) k)) ∧ y12 = none := by
  have o5 : ∀ g, (hB5 h g).1 239 = _ := fun g => (eUp_ne (by decide)).trans o
  have c5 : ∀ g, (hB5 h g).1 255 = .inl (1, 24, .inr (.inl g)) := fun g => eUp_at ..
  have l3 : ∀ g, LN (hB5 h g) 253 X := fun g => lX.keep (eUp_ne (by decide))
  have l4 : ∀ g, LN (hB5 h g) 254 Y := fun g => lY.keep (eUp_ne (by decide))
  have hB : BB = 1000000000 := rfl
  intro r
  induction r with
  | zero =>
    intro j g x11 hr hg
    refine ⟨g, some (.long (lN (cN (X % BB ^ i * Y / BB ^ i) Y (dgt X i) j))), some (.int (nI j)), x11, none, ?_, fun k hk => ?_, rfl⟩
    · rw [H27_96]
      simp only [S27, gFs, pFs, okq, bls, bo_true, eUp_at, eUp_eUp, eKls, cl_some, Option.toList_some, Option.toList_none, List.cons_append, List.nil_append, nI_add]
      rw [if_pos (nI_le (by omega) (by omega)), H27_181]
      simp only [S27, gFs, pFs, okq, bls, bo_true, eUp_at, eUp_eUp, eKls, cl_some, Option.toList_some, Option.toList_none, List.cons_append, List.nil_append]
      rw [nI_1]
    · rw [hg k hk, prod_row]
      unfold gG
      by_cases q : k < i
      · rw [if_neg (by omega), if_pos q]
      · rw [if_pos (by omega), if_neg q]
  | succ r ih =>
    intro j g x11 hr hg
    have dx := dgt_lt X i
    have dy := dgt_lt Y j
    have dl := dgt_lt (X % BB ^ i * Y / BB ^ i) j
    have cl' := cN_le (X % BB ^ i * Y / BB ^ i) Y (dgt X i) j
    have c1 : lg_cmp (lN (cN (X % BB ^ i * Y / BB ^ i) Y (dgt X i) j)) (lN 0) ≤ 0 ↔ cN (X % BB ^ i * Y / BB ^ i) Y (dgt X i) j = 0 := by
      rw [lg_le0, lN_le (by omega) (by decide)]
      omega
    by_cases hstop : nd Y ≤ j ∧ cN (X % BB ^ i * Y / BB ^ i) Y (dgt X i) j = 0
    · refine ⟨g, some (.long (lN (cN (X % BB ^ i * Y / BB ^ i) Y (dgt X i) j))), some (.int (nI j)), x11, none, ?_, fun k hk => ?_, rfl⟩
      · rw [H27_96]
        simp only [S27, gFs, pFs, okq, bls, bo_true, eUp_at, eUp_eUp, eKls, cl_some, Option.toList_some, Option.toList_none, List.cons_append, List.nil_append, nI_add]
        rw [if_neg (nI_ge (by omega) (by omega)), if_neg (nI_nlt hstop.1 (by omega)), if_pos (c1.mpr hstop.2), H27_181]
        simp only [S27, gFs, pFs, okq, bls, bo_true, eUp_at, eUp_eUp, eKls, cl_some, Option.toList_some, Option.toList_none, List.cons_append, List.nil_append]
        rw [nI_1]
      · rw [hg k hk, prod_row]
        unfold gG
        by_cases q : k < i
        · rw [if_neg (by omega), if_pos q]
        · rw [if_neg q]
          by_cases q2 : k < i + j
          · rw [if_pos (by omega)]
          · rw [if_neg (by omega), row_end hstop.1 hstop.2 (by omega)]
    · have hv : dgt (X % BB ^ i * Y) (i + j) + dgt X i * dgt Y j + cN (X % BB ^ i * Y / BB ^ i) Y (dgt X i) j < 9223372036854775808 := by
        have h1 := dgt_lt (X % BB ^ i * Y) (i + j)
        have h2 : dgt X i * dgt Y j ≤ 999999999 * 999999999 := Nat.mul_le_mul (by omega) (by omega)
        omega
      have hdig : (dgt (X % BB ^ i * Y) (i + j) + dgt X i * dgt Y j + cN (X % BB ^ i * Y / BB ^ i) Y (dgt X i) j) % BB = dgt (X % BB ^ i * Y / BB ^ i + dgt X i * Y) j := by
        rw [dgt_linN (X := X % BB ^ i * Y / BB ^ i + dgt X i * Y) rfl j, dgt_div]
      have hcar : (dgt (X % BB ^ i * Y) (i + j) + dgt X i * dgt Y j + cN (X % BB ^ i * Y / BB ^ i) Y (dgt X i) j) / BB = cN (X % BB ^ i * Y / BB ^ i) Y (dgt X i) (j + 1) := by
        rw [cN_succ, dgt_div]
      have gij : g (i + j) = lN (dgt (X % BB ^ i * Y) (i + j)) := by
        rw [hg (i + j) (by omega)]
        unfold gG
        rw [if_neg (by omega)]
      obtain ⟨g', y8, y10, y11, y12, e', r'⟩ := ih (j + 1) (vp_updL g (i + j) (lN (dgt (X % BB ^ i * Y / BB ^ i + dgt X i * Y) j))) (some (.long (lN (dgt (X % BB ^ i * Y) (i + j) + dgt X i * dgt Y j + cN (X % BB ^ i * Y / BB ^ i) Y (dgt X i) j)))) (by omega) (fun k hk => by
        unfold vp_updL gG
        by_cases q : k = i + j
        · rw [if_pos q, if_pos (by omega)]
          congr 2
          omega
        · rw [if_neg q, hg k hk]
          unfold gG
          by_cases q2 : i ≤ k ∧ k < i + j
          · rw [if_pos q2, if_pos (by omega)]
          · rw [if_neg q2, if_neg (by omega)])
      refine ⟨g', y8, y10, y11, y12, ?_, r'⟩
      rw [← e', H27_96]
      simp only [S27, gFs, pFs, okq, bls, bo_true, eUp_at, eUp_eUp, eKls, cl_some, Option.toList_some, Option.toList_none, List.cons_append, List.nil_append, nI_add]
      rw [if_neg (nI_ge (by omega) (by omega))]
      have body : ru 27 120 [some (.ref 239), some (.int (nI t)), some (.int (nI a)), some (.int (nI b)), some (.int bl), some (.int (nI (nd X))), some (.int (nI (nd Y))), some (.int (nI i)), some (.long (lN (cN (X % BB ^ i * Y / BB ^ i) Y (dgt X i) j))), none, some (.int (nI j)), x11, none] [] (hB5 h g) = ru 27 96 [some (.ref 239), some (.int (nI t)), some (.int (nI a)), some (.int (nI b)), some (.int bl), some (.int (nI (nd X))), some (.int (nI (nd Y))), some (.int (nI i)), some (.long (lN (cN (X % BB ^ i * Y / BB ^ i) Y (dgt X i) (j + 1)))), none, some (.int (nI (j + 1))), some (.long (lN (dgt (X % BB ^ i * Y) (i + j) + dgt X i * dgt Y j + cN (X % BB ^ i * Y / BB ^ i) Y (dgt X i) j))), none] [] (hB5 h (vp_updL g (i + j) (lN (dgt (X % BB ^ i * Y / BB ^ i + dgt X i * Y) j)))) := by
        simp only [S27, gFs, pFs, okq, bls, bo_true, eUp_at, eUp_eUp, eKls, cl_some, Option.toList_some, Option.toList_none, List.cons_append, List.nil_append, o5, c5, nI_add]
        rw [aL_nI (by omega) (by decide), gij]
        simp only [S27, gFs, pFs, okq, bls, bo_true, eUp_at, eUp_eUp, eKls, cl_some, Option.toList_some, Option.toList_none, List.cons_append, List.nil_append, o5, (l3 g).get hi', (l4 g).get (show j < 24 by omega), lN_mul, lN_add]
        rw [if_neg (show ¬ lN 1000000000 = 0 by decide), pk_lRem (by omega) (by decide) (by decide), pk_lDiv (by omega) (by decide) (by decide), ← hB, hdig, hcar, wL_nI (by omega) (by decide), hB5_up, nI_1, if_neg (show ¬ lN BB = 0 by decide)]
      by_cases q1 : j < nd Y
      · rw [if_pos (nI_lt q1 (by omega))]
        rw [← body]
        simp only [S27, gFs, pFs, okq, bls, bo_true, eUp_at, eUp_eUp, eKls, cl_some, Option.toList_some, Option.toList_none, List.cons_append, List.nil_append, o5, c5, nI_add]
      · rw [if_neg (nI_nlt (by omega) (by omega)), if_neg (fun e => hstop ⟨by omega, c1.mp e⟩), ← body]
        simp only [S27, gFs, pFs, okq, bls, bo_true, eUp_at, eUp_eUp, eKls, cl_some, Option.toList_some, Option.toList_none, List.cons_append, List.nil_append, o5, c5, nI_add]
theorem d27_outer (o : MOo h jt mb hi wi rk co) (lX : LN h 253 X) (lY : LN h 254 Y) (hX : nd X ≤ 24) (hY : nd Y ≤ 24) : ∀ r i g x8 x10 x11, i + r = nd X → (∀ k, k < 24 → g k = lN (dgt (X % BB ^ i * Y) k)) → ∃ g' y8 y10 y11, ru 27 83 [some (.ref 239), some (.int (nI t)), some (.int (nI a)), some (.int (nI b)), some (.int bl), some (.int (nI (nd X))), some (.int (nI (nd Y))), some (.int (nI i)), x8, none, x10, x11, none] [] (hB5 h g) = ru 27 187 [some (.ref 239), some (.int (nI t)), some (.int (nI a)), some (.int (nI b)), some (.int bl), some (.int (nI (nd X))), some (.int (nI (nd Y))), some (.int (nI (nd X))), y8, none, y10, y11, none] [] (hB5 h g') ∧ ∀ k, k < 24 → g' k = lN (dgt (X * Y) k) := by
  intro r
  induction r with
  | zero =>
    intro i g x8 x10 x11 hr hg
    have : i = nd X := by omega
    subst this
    refine ⟨g, x8, x10, x11, ?_, fun k hk => ?_⟩
    · rw [H27_83]
      simp only [S27, gFs, pFs, okq, bls, bo_true, eUp_at, eUp_eUp, eKls, cl_some, Option.toList_some, Option.toList_none, List.cons_append, List.nil_append]
      rw [if_pos (nI_le (Nat.le_refl _) (by omega))]
    · rw [hg k hk, Nat.mod_eq_of_lt (lt_nd X)]
  | succ r ih =>
    intro i g x8 x10 x11 hr hg
    obtain ⟨g1, y8, y10, y11, y12, e1, g1e, y12e⟩ := d27_inner (t := t) (a := a) (b := b) (bl := bl) (i := i) o lX lY hY (by omega) (24 - i) 0 g x11 (by omega) (fun k hk => by
      rw [hg k hk]
      unfold gG
      rw [if_neg (by omega)])
    subst y12e
    rw [cN_0] at e1
    obtain ⟨g2, z8, z10, z11, e2, r2⟩ := ih (i + 1) g1 y8 y10 y11 (by omega) g1e
    refine ⟨g2, z8, z10, z11, ?_, r2⟩
    rw [← e2, ← e1, H27_83]
    simp only [S27, gFs, pFs, okq, bls, bo_true, eUp_at, eUp_eUp, eKls, cl_some, Option.toList_some, Option.toList_none, List.cons_append, List.nil_append]
    rw [if_neg (nI_ge (by omega) (by omega))]
def FM (h h' : eH) : Prop := h'.2 = h.2 ∧ ∀ i, i ≠ 240 → i ≠ 253 → i ≠ 254 → i ≠ 255 → h'.1 i = h.1 i
theorem FM.refl (h : eH) : FM h h := ⟨rfl, fun _ _ _ _ _ => rfl⟩
theorem FM.trans {h h' h'' : eH} (x : FM h h') (y : FM h' h'') : FM h h'' := ⟨y.1.trans x.1, fun i i1 i2 i3 i4 => (y.2 i i1 i2 i3 i4).trans (x.2 i i1 i2 i3 i4)⟩
theorem FM.w (h : eH) (f : Nat → Int64) : FM h (hW h f) := ⟨rfl, fun i i1 _ _ _ => eUp_ne i1⟩
theorem FM.mo {h' : eH} (x : FM h h') (o : MOo h jt mb hi wi rk co) : MOo h' jt mb hi wi rk co := (x.2 239 (by decide) (by decide) (by decide) (by decide)).trans o
theorem LX.w (x : LX h) (f : Nat → Int64) : LX (hW h f) := ⟨x.1.keep (eUp_ne (by decide)), x.2.1.keep (eUp_ne (by decide)), x.2.2.keep (eUp_ne (by decide))⟩
theorem d27_zero {g0 : Nat → Int64} {x6 x7 x8 x9 x10 x11 x12 : Option Value} (o : MOo h jt mb hi wi rk co) : ∀ r k, k + r = 24 → ru 27 41 [some (.ref 239), some (.int (nI t)), some (.int (nI a)), some (.int (nI b)), some (.int bl), some (.int (nI k)), x6, x7, x8, x9, x10, x11, x12] [] (hB5 h (fun j => if j < k then lN 0 else g0 j)) = ru 27 62 [some (.ref 239), some (.int (nI t)), some (.int (nI a)), some (.int (nI b)), some (.int bl), some (.int (nI 24)), x6, x7, x8, x9, x10, x11, x12] [] (hB5 h (fun j => if j < 24 then lN 0 else g0 j)) := by
  have o5 : ∀ g, (hB5 h g).1 239 = _ := fun g => (eUp_ne (by decide)).trans o
  have c5 : ∀ g, (hB5 h g).1 255 = .inl (1, 24, .inr (.inl g)) := fun g => eUp_at ..
  intro r
  induction r with
  | zero =>
    intro k hk
    have : k = 24 := by omega
    subst this
    rw [H27_41]
    simp only [S27, gFs, pFs, okq, bls, bo_true, eUp_at, eUp_eUp, eKls, cl_some, Option.toList_some, Option.toList_none, List.cons_append, List.nil_append]
    rw [if_pos (by decide)]
  | succ r ih =>
    intro k hk
    rw [H27_41]
    simp only [S27, gFs, pFs, okq, bls, bo_true, eUp_at, eUp_eUp, eKls, cl_some, Option.toList_some, Option.toList_none, List.cons_append, List.nil_append, o5, c5]
    rw [if_neg (nI_ge (by omega) (by decide)), wL_nI (by omega) (by decide), hB5_up, nI_1, show vp_updL (fun j => if j < k then lN 0 else g0 j) k (lN 0) = (fun j => if j < k + 1 then lN 0 else g0 j) from by
      funext j
      unfold vp_updL
      by_cases q : j = k
      · rw [if_pos q, if_pos (by omega)]
      · rw [if_neg q]
        show (if j < k then lN 0 else g0 j) = _
        by_cases q2 : j < k
        · rw [if_pos q2, if_pos (by omega)]
        · rw [if_neg q2, if_neg (by omega)]]
    exact ih (k + 1) (by omega)
theorem d27_back {m : Nat} {p : Nat → Int} {x5 x6 x8 x9 x10 x11 x12 : Option Value} (k6 : eKl x6 = x6) (o : MOo h jt mb hi wi rk co) (lm : LN h 255 m) (ht : t < 412) : ∀ r k, k + r = 24 → ru 27 190 [some (.ref 239), some (.int (nI t)), some (.int (nI a)), some (.int (nI b)), some (.int bl), x5, x6, some (.int (nI k)), x8, x9, x10, x11, x12] [] (hW h (upR f t (mx k (fun j => (dgt m j : Int)) p))) = ru 27 222 [some (.ref 239), some (.int (nI t)), some (.int (nI a)), some (.int (nI b)), some (.int bl), x5, x6, some (.int (nI 24)), x8, x9, x10, x11, x12] [] (hW h (upR f t (fun j => (dgt m j : Int)))) := by
  intro r
  induction r with
  | zero =>
    intro k hk
    have : k = 24 := by omega
    subst this
    rw [H27_190]
    simp only [S27, gFs, pFs, okq, bls, bo_true, eUp_at, eUp_eUp, eKls, cl_some, Option.toList_some, Option.toList_none, List.cons_append, List.nil_append]
    rw [if_pos (by decide), upR_mx24]
  | succ r ih =>
    intro k hk
    have o' := hW_mo o (upR f t (mx k (fun j => (dgt m j : Int)) p))
    have n' := hW_mn h (upR f t (mx k (fun j => (dgt m j : Int)) p))
    have l' := lm.keep (h' := hW h (upR f t (mx k (fun j => (dgt m j : Int)) p))) (eUp_ne (by decide))
    unfold MOo at o'
    unfold MN at n'
    have i1 : nI 24 * nI t + nI k = nI (24 * t + k) := by rw [nI_mul, nI_add]
    rw [H27_190]
    simp only [S27, gFs, pFs, okq, bls, bo_true, eUp_at, eUp_eUp, eKls, cl_some, Option.toList_some, Option.toList_none, List.cons_append, List.nil_append, o', n', i1, l'.get (show k < 24 by omega), k6]
    rw [if_neg (nI_ge (by omega) (by decide)), lN_I, wL_nI (by omega) (by decide), upR_mx f t k (fun j => (dgt m j : Int)) p (by omega), hW_up, nI_1]
    exact ih (k + 1) (by omega)
end RM2
