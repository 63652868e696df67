/-! carries in natural numbers; WHOLE: scale -/
def cN (L S m i : Nat) : Nat := (L % BB ^ i + m * (S % BB ^ i)) / BB ^ i
theorem cN_J (L S m i : Nat) : (cN L S m i : Int) = cJ L S m i := by
  unfold cN cJ
  rw [Int.natCast_ediv]
  push_cast
  rfl
theorem cN_0 (L S m : Nat) : cN L S m 0 = 0 := by
  have := cN_J L S m 0
  rw [cJ_0] at this
  omega
theorem cN_succ (L S m i : Nat) : cN L S m (i + 1) = (dgt L i + m * dgt S i + cN L S m i) / BB := by
  have h := cJ_succ L S m i
  rw [← cN_J, ← cN_J] at h
  have : ((cN L S m (i + 1) : Nat) : Int) = (((dgt L i + m * dgt S i + cN L S m i) / BB : Nat) : Int) := by
    rw [h, Int.natCast_ediv]
    push_cast
    rfl
  exact Int.ofNat_inj.mp this
theorem dgt_linN {X L S m : Nat} (hX : X = L + m * S) (i : Nat) : dgt X i = (dgt L i + m * dgt S i + cN L S m i) % BB := by
  have h := dgt_lin (X := X) (L := L) (S := S) (w := m) (by rw [hX]; push_cast; rfl) i
  rw [← cN_J] at h
  have : ((dgt X i : Nat) : Int) = (((dgt L i + m * dgt S i + cN L S m i) % BB : Nat) : Int) := by
    rw [h, Int.natCast_emod]
    push_cast
    rfl
  exact Int.ofNat_inj.mp this
theorem cN_le (L S m i : Nat) : cN L S m i ≤ m := by
  have h := cJ_le (L := L) (S := S) (w := m) (by omega) i
  rw [← cN_J] at h
  omega
theorem d117_loop {h : eH} {a N len S m V s : Nat} {bl : Int32} {f : Nat → Int32} (hm : m < 2 ^ 31) (hV : V = 0 + m * S) (wa : WR h a N (nI s) bl f) (hs : s ≤ N) (hN : N < 2 ^ 31) (hlen : len ≤ N) (hrd : ∀ i, i < len → (if i < s then f i else nI 0) = nI (dgt S i)) :
    ∀ k i, i + k = len → ∀ x6 x7 : Option Value, ∃ c9 x6' x7', ru 117 16 [some (.ref a), some (.int (nI m)), some (.int (nI len)), some (.long (lN (cN 0 S m i))), none, some (.int (nI i)), x6, x7] [] (eUp h (a + 1) (.inl (0, N, .inl (ovr f V i)))) =
      ru 117 63 [some (.ref a), some (.int (nI m)), some (.int (nI len)), some (.long c9), none, some (.int (nI len)), x6', x7'] [] (eUp h (a + 1) (.inl (0, N, .inl (ovr f V len)))) := by
  intro k
  induction k with
  | zero =>
    intro i hi x6 x7
    have : i = len := by omega
    subst this
    refine ⟨lN (cN 0 S m i), x6, x7, ?_⟩
    rw [H117_16]
    simp only [S117]
    rw [if_pos (nI_le (Nat.le_refl _) (by omega))]
  | succ k ih =>
    intro i hi x6 x7
    have hd := dgt_lt S i
    have hc := cN_le 0 S m i
    have hB : BB = 1000000000 := rfl
    have hmul : dgt S i * m ≤ 1000000000 * m := Nat.mul_le_mul_right _ (by omega)
    have wa2 : ∀ e, (eUp h (a + 1) e).1 a = .inr (9, [.ref (a + 1), .int (nI s), .int bl]) := fun e => (eUp_ne (ne1 a).symm).trans wa.1
    have rd := d98r (h := eUp h (a + 1) (.inl (0, N, .inl (ovr f V i)))) (a := a) (N := N) (s := s) (bl := bl) (f := ovr f V i) ⟨wa2 _, eUp_at ..⟩ hs hN i (by omega)
    have rd2 : (if i < s then ovr f V i i else nI 0) = nI (dgt S i) := by
      rw [← hrd i (by omega)]
      unfold ovr
      rw [if_neg (show ¬ i < i by omega)]
    rw [rd2] at rd
    rw [H117_16]
    simp only [S117, rd, cl_some, Option.toList_some, List.cons_append, List.nil_append, eKls, wa2, gFs, eUp_at]
    rw [if_neg (nI_ge (by omega) (by omega)), nI_l (by omega), nI_l hm, lN_mul, lN_add]
    have hne : ¬ lN 1000000000 = 0 := by decide
    simp only [hne, if_false]
    rw [pk_lRem (by omega) (by decide) (by decide), pk_lDiv (by omega) (by decide) (by decide), lN_i]
    have hdg := dgt_linN hV i
    have hcs := cN_succ 0 S m i
    rw [dgt_0, Nat.zero_add, hB, Nat.mul_comm m] at hdg hcs
    obtain ⟨c9, x6', x7', hih⟩ := ih (i + 1) (by omega) (some (.long (lN (dgt S i * m + cN 0 S m i)))) none
    refine ⟨c9, x6', x7', ?_⟩
    rw [← hih, wI_nI (by omega) hN, eUp_eUp, ← hdg, ← hcs, nI_1, ovr_upd]
theorem d117 {h : eH} {a N m : Nat} {z : Int} (wa : WV h a N z) (hN : N < 2 ^ 30) (hm : m ≤ BB) : ∃ h', den 117 [.ref a, .int (nI m)] h = some (none, h') ∧ F2 a h h' ∧ ∃ V : Nat, V = z.natAbs * m % BB ^ N ∧ WV h' a N (if z < 0 then -(V : Int) else V) := by
  obtain ⟨f, w1, w3, w4⟩ := wa
  have hB : BB = 1000000000 := rfl
  have hlenN : (if nd z.natAbs + 1 < N then nd z.natAbs + 1 else N) ≤ N := by split <;> omega
  obtain ⟨c9, x6', x7', hl⟩ := d117_loop (len := if nd z.natAbs + 1 < N then nd z.natAbs + 1 else N) (S := z.natAbs) (m := m) (V := 0 + m * z.natAbs) (by omega) rfl w1 w3 (by omega) hlenN (fun i hi => by
    by_cases h1 : i < nd z.natAbs
    · rw [if_pos h1, w4 i h1]
    · rw [if_neg h1, dgt_big (by omega)]) _ 0 (Nat.zero_add _) none none
  have hfit : den 94 [.ref a, .int (nI (nd z.natAbs) + nI 1)] h = some (some (.int (nI (if nd z.natAbs + 1 < N then nd z.natAbs + 1 else N))), h) := by
    rw [nI_add]
    exact d94 w1 (by omega) _ (by omega)
  rw [ovr_0, eUp_id w1.2, cN_0] at hl
  have hlt0 : z.natAbs * m < BB ^ (nd z.natAbs + 1) := by
    rw [Nat.pow_succ]
    exact Nat.lt_of_le_of_lt (Nat.mul_le_mul_left _ hm) (Nat.mul_lt_mul_of_pos_right (lt_nd _) BB_pos)
  generalize hlen : (if nd z.natAbs + 1 < N then nd z.natAbs + 1 else N) = len at *
  have hmod : z.natAbs * m % BB ^ N = z.natAbs * m % BB ^ len := by
    by_cases hc : nd z.natAbs + 1 < N
    · rw [if_pos hc] at hlen
      rw [← hlen, Nat.mod_eq_of_lt hlt0, Nat.mod_eq_of_lt]
      exact Nat.lt_of_lt_of_le hlt0 (Nat.pow_le_pow_right BB_pos (by omega))
    · rw [if_neg hc] at hlen
      rw [hlen]
  generalize hVd : z.natAbs * m % BB ^ len = V at hmod
  have hVl : V < BB ^ len := by rw [← hVd]; exact mod_lt' _ _
  generalize hH : eUp h (a + 1) (.inl (0, N, .inl (ovr f (0 + m * z.natAbs) len))) = H at hl
  have w2 : WR H a N (nI (nd z.natAbs)) (sb z) (ovr f (0 + m * z.natAbs) len) := by
    rw [← hH]
    exact ⟨(eUp_ne (ne1 a).symm).trans w1.1, eUp_at ..⟩
  have hmin : (if len < N then len else N) = len := by split <;> omega
  have hdg : ∀ i, i < len → ovr f (0 + m * z.natAbs) len i = nI (dgt V i) := by
    intro i hi
    unfold ovr
    rw [if_pos hi, ← hVd, dgt_mod hi, Nat.zero_add, Nat.mul_comm]
  have htr := d95 (l := len) (v := V) w2 (sb01 z) (by omega) (by omega) (by rw [hmin]; exact hdg) (by rw [hmin]; exact hVl)
  refine ⟨eUp H a (.inr (9, [.ref (a + 1), .int (nI (nd V)), .int (if V = 0 then 0 else sb z)])), ?_, ?_, V, hmod.symm, ovr f (0 + m * z.natAbs) len, ⟨?_, ?_⟩, ?_, ?_⟩
  · rw [E117 a _ w1.1]
    simp only [S117, w1.1, gFs, hfit, cl_some, Option.toList_some, List.cons_append, List.nil_append, eKls]
    rw [hl, H117_63]
    simp only [S117, htr, cl_some, Option.toList_none, List.nil_append]
  · rw [← hH]
    exact (F2.up1 a h _).trans (F2.up a _ _)
  · have e1 : (if z < 0 then -(V : Int) else V).natAbs = V := by split <;> omega
    have e2 : (if V = 0 then 0 else sb z) = sb (if z < 0 then -(V : Int) else V) := by
      unfold sb
      by_cases h0 : V = 0
      · rw [if_pos h0, h0]
        split <;> simp
      · rw [if_neg h0]
        by_cases hz : z < 0
        · rw [if_pos hz, if_pos hz, if_pos (by omega)]
        · rw [if_neg hz, if_neg hz, if_neg (by omega)]
    rw [eUp_at, e1, e2]
  · rw [eUp_ne (ne1 a)]
    exact w2.2
  · have e1 : (if z < 0 then -(V : Int) else V).natAbs = V := by split <;> omega
    rw [e1]
    have := nd_le.mpr hVl
    omega
  · have e1 : (if z < 0 then -(V : Int) else V).natAbs = V := by split <;> omega
    rw [e1]
    intro i hi
    have := nd_le.mpr hVl
    exact hdg i (by omega)
