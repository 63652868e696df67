/-! WHOLE: join -/
theorem d99_tail {h : eH} {a b p q N len L S V : Nat} {sz sx s2 s3 ld : Int32} {f : Nat → Int32} {w : Int} (hw : w = 1 ∨ w = -1) (hV : (V : Int) = L + w * S) (wa : WR h a N sz sx f) (hN : N < 2 ^ 31) (hlen : len ≤ N) (hlen2 : len < N ∨ len = N) (hVl : V < BB ^ len) (hsx : sx = 0 ∨ sx = 1) (hs3 : s3 = 0 ∨ s3 = 1)
    (hp : ∀ i, i < len → den 98 [.ref p, .int (nI i)] (eUp h (a + 1) (.inl (0, N, .inl (ovr f V i)))) = some (some (.int (nI (dgt L i))), eUp h (a + 1) (.inl (0, N, .inl (ovr f V i)))))
    (hq : ∀ i, i < len → den 98 [.ref q, .int (nI i)] (eUp h (a + 1) (.inl (0, N, .inl (ovr f V i)))) = some (some (.int (nI (dgt S i))), eUp h (a + 1) (.inl (0, N, .inl (ovr f V i))))) :
    ru 99 87 [some (.ref a), some (.ref b), some (.int s2), some (.int s3), some (.int (Int32.ofInt w)), some (.int ld), some (.ref p), some (.ref q), some (.int (nI len)), some (.int (nI 0)), some (.int (nI 0)), none] [] h =
      some (none, eUp (eUp h (a + 1) (.inl (0, N, .inl (ovr f V len)))) a (.inr (9, [.ref (a + 1), .int (nI (nd V)), .int (if V = 0 then 0 else if ld = 0 then sx else s3)]))) := by
  obtain ⟨c9, xo', hl⟩ := d99_loop (b := b) (s2 := s2) (s3 := s3) (ld := ld) hw hV wa hN hlen hp hq len 0 (by omega) none
  rw [ovr_0, eUp_id wa.2, cJ_0, show Int32.ofInt 0 = nI 0 from rfl] at hl
  rw [hl]
  generalize hH : eUp h (a + 1) (.inl (0, N, .inl (ovr f V len))) = H
  have w2 : WR H a N sz sx (ovr f V len) := by
    rw [← hH]
    exact ⟨(eUp_ne (ne1 a).symm).trans wa.1, eUp_at ..⟩
  have hbx : (sx == 0 || sx == 1) = true := by rcases hsx with e | e <;> rw [e] <;> decide
  have hb3 : (s3 == 0 || s3 == 1) = true := by rcases hs3 with e | e <;> rw [e] <;> decide
  have hmin : (if len < N then len else N) = len := by split <;> omega
  have trim : ∀ bl : Int32, bl = 0 ∨ bl = 1 → den 95 [.ref a, .int (nI len)] (eUp H a (.inr (9, [.ref (a + 1), .int sz, .int bl]))) = some (none, eUp H a (.inr (9, [.ref (a + 1), .int (nI (nd V)), .int (if V = 0 then 0 else bl)]))) := by
    intro bl hbl
    have := d95 (h := eUp H a (.inr (9, [.ref (a + 1), .int sz, .int bl]))) (a := a) (N := N) (l := len) (v := V) (s0 := sz) (b0 := bl) (f := ovr f V len) ⟨eUp_at .., (eUp_ne (ne1 a)).trans w2.2⟩ hbl hN (by omega) (by rw [hmin]; intro i hi; unfold ovr; rw [if_pos hi]) (by rw [hmin]; exact hVl)
    rw [eUp_eUp] at this
    exact this
  rw [H99_154]
  simp only [S99, w2.1, gFs, pFs, okq, hbx, hb3, bo_true, trim sx hsx, trim s3 hs3, cl_some, Option.toList_none, List.nil_append]
  by_cases h0 : ld = 0
  · rw [if_pos h0, if_pos h0]
  · rw [if_neg h0, if_neg h0]
theorem d99_core {h : eH} {a b N M X Y : Nat} {sx sy s2 : Int32} {f g : Nat → Int32} (w1 : WR h a N (nI (nd X)) sx f) (v1 : WR h b M (nI (nd Y)) sy g) (hab : a ≠ b) (hN : N < 2 ^ 30) (hM : M < 2 ^ 30) (hX : nd X ≤ N) (hY : nd Y ≤ M) (hf : ∀ i, i < nd X → f i = nI (dgt X i)) (hg : ∀ i, i < nd Y → g i = nI (dgt Y i)) (hsx : sx = 0 ∨ sx = 1) (hsy : sy = 0 ∨ sy = 1) (hs2 : s2 = nI 0 ∨ s2 = nI 1)
    {c : Int32} (hc : den 97 [.ref a, .ref b] h = some (some (.int c), h)) (hc1 : c < 0 ↔ X < Y) {V : Nat} (hV : (V : Int) = if X < Y then (Y : Int) + (if sx = (if sy = s2 then 0 else 1) then 1 else -1) * X else (X : Int) + (if sx = (if sy = s2 then 0 else 1) then 1 else -1) * Y) (hfit : nd V ≤ N) :
    ∃ F, den 99 [.ref a, .ref b, .int s2] h = some (none, eUp (eUp h (a + 1) (.inl (0, N, .inl F))) a (.inr (9, [.ref (a + 1), .int (nI (nd V)), .int (if V = 0 then 0 else if X < Y then (if sy = s2 then 0 else 1) else sx)]))) ∧ ∀ i, i < nd V → F i = nI (dgt V i) := by
  obtain ⟨n1, n2⟩ := w1.apart v1
  have rdA : ∀ (W i : Nat), i < N → den 98 [.ref a, .int (nI i)] (eUp h (a + 1) (.inl (0, N, .inl (ovr f W i)))) = some (some (.int (nI (dgt X i))), eUp h (a + 1) (.inl (0, N, .inl (ovr f W i)))) := by
    intro W i hi
    rw [d98r (h := eUp h (a + 1) (.inl (0, N, .inl (ovr f W i)))) (N := N) (s := nd X) (bl := sx) (f := ovr f W i) ⟨(eUp_ne (ne1 a).symm).trans w1.1, eUp_at ..⟩ hX (by omega) i (by omega)]
    by_cases hi2 : i < nd X
    · rw [if_pos hi2]
      unfold ovr
      rw [if_neg (by omega), hf i hi2]
    · rw [if_neg hi2, dgt_big (by omega)]
  have rdB : ∀ (W i : Nat), i < N → den 98 [.ref b, .int (nI i)] (eUp h (a + 1) (.inl (0, N, .inl (ovr f W i)))) = some (some (.int (nI (dgt Y i))), eUp h (a + 1) (.inl (0, N, .inl (ovr f W i)))) := by
    intro W i hi
    rw [d98r (h := eUp h (a + 1) (.inl (0, N, .inl (ovr f W i)))) (N := M) (s := nd Y) (bl := sy) (f := g) ⟨(eUp_ne n1).trans v1.1, (eUp_ne (by omega)).trans v1.2⟩ hY (by omega) i (by omega)]
    by_cases hi2 : i < nd Y
    · rw [if_pos hi2, hg i hi2]
    · rw [if_neg hi2, dgt_big (by omega)]
  have lenOK : ∀ Z : Nat, nd V ≤ nd Z + 1 → V < BB ^ (if nd Z + 1 < N then nd Z + 1 else N) := by
    intro Z hZ
    split
    · exact nd_le.mp hZ
    · exact nd_le.mp hfit
  have sum_nd : ∀ (P Q : Nat) (w : Int), (w = 1 ∨ w = -1) → Q ≤ P → (V : Int) = P + w * Q → nd V ≤ nd P + 1 := by
    intro P Q w hw hPQ hv
    have h1 : V ≤ 2 * P := by
      rcases hw with e | e <;> subst e <;> omega
    refine nd_le.mpr ?_
    have h2 := lt_nd P
    rw [Nat.pow_succ]
    have h3 : BB ^ nd P * 2 ≤ BB ^ nd P * BB := Nat.mul_le_mul_left _ (by decide)
    omega
  have t1 : (nI 1 = (0 : Int32)) = False := by decide
  have t0 : (nI 0 = (0 : Int32)) = True := by decide
  have fitX : den 94 [.ref a, .int (nI (nd X) + nI 1)] h = some (some (.int (nI (if nd X + 1 < N then nd X + 1 else N))), h) := by
    rw [nI_add]
    exact d94 w1 (by omega) _ (by omega)
  have fitY : den 94 [.ref a, .int (nI (nd Y) + nI 1)] h = some (some (.int (nI (if nd Y + 1 < N then nd Y + 1 else N))), h) := by
    rw [nI_add]
    exact d94 w1 (by omega) _ (by omega)
  have lN9 : ∀ Z : Nat, (if nd Z + 1 < N then nd Z + 1 else N) ≤ N := by intro Z; split <;> omega
  have lN8 : ∀ Z : Nat, (if nd Z + 1 < N then nd Z + 1 else N) < N ∨ (if nd Z + 1 < N then nd Z + 1 else N) = N := by intro Z; have := lN9 Z; omega
  have ovf : ∀ Z i : Nat, nd V ≤ nd Z + 1 → i < nd V → ovr f V (if nd Z + 1 < N then nd Z + 1 else N) i = nI (dgt V i) := by
    intro Z i hZ hi
    unfold ovr
    rw [if_pos]
    split <;> omega
  by_cases e1 : sy = s2
  · by_cases e2 : sx = 0
    · by_cases e3 : X < Y
      · have hV2 : (V : Int) = (Y : Int) + 1 * X := by
          rw [hV, if_pos e3, if_pos e1, if_pos e2]
        have hnd := sum_nd Y X 1 (Or.inl rfl) (by omega) hV2
        have tl := d99_tail (b := b) (p := b) (q := a) (s2 := s2) (s3 := nI 0) (ld := nI 1) (w := 1) (Or.inl rfl) hV2 w1 (by omega) (lN9 Y) (lN8 Y) (lenOK Y hnd) hsx (Or.inl nI_0) (fun i hi => rdB V i (by have := lN9 Y; omega)) (fun i hi => rdA V i (by have := lN9 Y; omega))
        refine ⟨ovr f V (if nd Y + 1 < N then nd Y + 1 else N), ?_, fun i hi => ovf Y i hnd hi⟩
        rw [E99 a _ _ w1.1]
        have e1t : (sy = s2) = True := eq_true e1
        have e2t : (sx = nI 0) = True := eq_true (e2.trans (by decide))
        have e3t : ((0 : Int32) ≤ c) = False := eq_false (fun z => absurd (hc1.mpr e3) (Int32.not_lt.mpr z))
        simp only [S99, w1.1, v1.1, gFs, eKls, e1t, e2t, e3t, t1, t0, if_true, if_false, hc, cl_some, Option.toList_some, List.cons_append, List.nil_append, fitX, fitY]
        refine tl.trans ?_
        rw [if_neg (show ¬ (nI 1 = 0) by decide), if_pos e3]
        rfl
      · have hV2 : (V : Int) = (X : Int) + 1 * Y := by
          rw [hV, if_neg e3, if_pos e1, if_pos e2]
        have hnd := sum_nd X Y 1 (Or.inl rfl) (by omega) hV2
        have tl := d99_tail (b := b) (p := a) (q := b) (s2 := s2) (s3 := nI 0) (ld := nI 0) (w := 1) (Or.inl rfl) hV2 w1 (by omega) (lN9 X) (lN8 X) (lenOK X hnd) hsx (Or.inl nI_0) (fun i hi => rdA V i (by have := lN9 X; omega)) (fun i hi => rdB V i (by have := lN9 X; omega))
        refine ⟨ovr f V (if nd X + 1 < N then nd X + 1 else N), ?_, fun i hi => ovf X i hnd hi⟩
        rw [E99 a _ _ w1.1]
        have e1t : (sy = s2) = True := eq_true e1
        have e2t : (sx = nI 0) = True := eq_true (e2.trans (by decide))
        have e3t : ((0 : Int32) ≤ c) = True := eq_true (Int32.not_lt.mp (fun z => e3 (hc1.mp z)))
        simp only [S99, w1.1, v1.1, gFs, eKls, e1t, e2t, e3t, t1, t0, if_true, if_false, hc, cl_some, Option.toList_some, List.cons_append, List.nil_append, fitX, fitY]
        refine tl.trans ?_
        rw [if_pos (show nI 0 = 0 by decide), if_neg e3]
    · by_cases e3 : X < Y
      · have hV2 : (V : Int) = (Y : Int) + (-1) * X := by
          rw [hV, if_pos e3, if_pos e1, if_neg e2]
        have hnd := sum_nd Y X (-1) (Or.inr rfl) (by omega) hV2
        have tl := d99_tail (b := b) (p := b) (q := a) (s2 := s2) (s3 := nI 0) (ld := nI 1) (w := (-1)) (Or.inr rfl) hV2 w1 (by omega) (lN9 Y) (lN8 Y) (lenOK Y hnd) hsx (Or.inl nI_0) (fun i hi => rdB V i (by have := lN9 Y; omega)) (fun i hi => rdA V i (by have := lN9 Y; omega))
        refine ⟨ovr f V (if nd Y + 1 < N then nd Y + 1 else N), ?_, fun i hi => ovf Y i hnd hi⟩
        rw [E99 a _ _ w1.1]
        have e1t : (sy = s2) = True := eq_true e1
        have e2t : (sx = nI 0) = False := eq_false (fun z => e2 (z.trans (by decide)))
        have e3t : ((0 : Int32) ≤ c) = False := eq_false (fun z => absurd (hc1.mpr e3) (Int32.not_lt.mpr z))
        simp only [S99, w1.1, v1.1, gFs, eKls, e1t, e2t, e3t, t1, t0, if_true, if_false, hc, cl_some, Option.toList_some, List.cons_append, List.nil_append, fitX, fitY]
        rw [show ((-1) : Int32) = Int32.ofInt (-1) from rfl]
        refine tl.trans ?_
        rw [if_neg (show ¬ (nI 1 = 0) by decide), if_pos e3]
        rfl
      · have hV2 : (V : Int) = (X : Int) + (-1) * Y := by
          rw [hV, if_neg e3, if_pos e1, if_neg e2]
        have hnd := sum_nd X Y (-1) (Or.inr rfl) (by omega) hV2
        have tl := d99_tail (b := b) (p := a) (q := b) (s2 := s2) (s3 := nI 0) (ld := nI 0) (w := (-1)) (Or.inr rfl) hV2 w1 (by omega) (lN9 X) (lN8 X) (lenOK X hnd) hsx (Or.inl nI_0) (fun i hi => rdA V i (by have := lN9 X; omega)) (fun i hi => rdB V i (by have := lN9 X; omega))
        refine ⟨ovr f V (if nd X + 1 < N then nd X + 1 else N), ?_, fun i hi => ovf X i hnd hi⟩
        rw [E99 a _ _ w1.1]
        have e1t : (sy = s2) = True := eq_true e1
        have e2t : (sx = nI 0) = False := eq_false (fun z => e2 (z.trans (by decide)))
        have e3t : ((0 : Int32) ≤ c) = True := eq_true (Int32.not_lt.mp (fun z => e3 (hc1.mp z)))
        simp only [S99, w1.1, v1.1, gFs, eKls, e1t, e2t, e3t, t1, t0, if_true, if_false, hc, cl_some, Option.toList_some, List.cons_append, List.nil_append, fitX, fitY]
        rw [show ((-1) : Int32) = Int32.ofInt (-1) from rfl]
        refine tl.trans ?_
        rw [if_pos (show nI 0 = 0 by decide), if_neg e3]
  · by_cases e2 : sx = 1
    · by_cases e3 : X < Y
      · have hV2 : (V : Int) = (Y : Int) + 1 * X := by
          rw [hV, if_pos e3, if_neg e1, if_pos e2]
        have hnd := sum_nd Y X 1 (Or.inl rfl) (by omega) hV2
        have tl := d99_tail (b := b) (p := b) (q := a) (s2 := s2) (s3 := nI 1) (ld := nI 1) (w := 1) (Or.inl rfl) hV2 w1 (by omega) (lN9 Y) (lN8 Y) (lenOK Y hnd) hsx (Or.inr (by decide)) (fun i hi => rdB V i (by have := lN9 Y; omega)) (fun i hi => rdA V i (by have := lN9 Y; omega))
        refine ⟨ovr f V (if nd Y + 1 < N then nd Y + 1 else N), ?_, fun i hi => ovf Y i hnd hi⟩
        rw [E99 a _ _ w1.1]
        have e1t : (sy = s2) = False := eq_false e1
        have e2t : (sx = nI 1) = True := eq_true (e2.trans (by decide))
        have e3t : ((0 : Int32) ≤ c) = False := eq_false (fun z => absurd (hc1.mpr e3) (Int32.not_lt.mpr z))
        simp only [S99, w1.1, v1.1, gFs, eKls, e1t, e2t, e3t, t1, t0, if_true, if_false, hc, cl_some, Option.toList_some, List.cons_append, List.nil_append, fitX, fitY]
        refine tl.trans ?_
        rw [if_neg (show ¬ (nI 1 = 0) by decide), if_pos e3]
        rfl
      · have hV2 : (V : Int) = (X : Int) + 1 * Y := by
          rw [hV, if_neg e3, if_neg e1, if_pos e2]
        have hnd := sum_nd X Y 1 (Or.inl rfl) (by omega) hV2
        have tl := d99_tail (b := b) (p := a) (q := b) (s2 := s2) (s3 := nI 1) (ld := nI 0) (w := 1) (Or.inl rfl) hV2 w1 (by omega) (lN9 X) (lN8 X) (lenOK X hnd) hsx (Or.inr (by decide)) (fun i hi => rdA V i (by have := lN9 X; omega)) (fun i hi => rdB V i (by have := lN9 X; omega))
        refine ⟨ovr f V (if nd X + 1 < N then nd X + 1 else N), ?_, fun i hi => ovf X i hnd hi⟩
        rw [E99 a _ _ w1.1]
        have e1t : (sy = s2) = False := eq_false e1
        have e2t : (sx = nI 1) = True := eq_true (e2.trans (by decide))
        have e3t : ((0 : Int32) ≤ c) = True := eq_true (Int32.not_lt.mp (fun z => e3 (hc1.mp z)))
        simp only [S99, w1.1, v1.1, gFs, eKls, e1t, e2t, e3t, t1, t0, if_true, if_false, hc, cl_some, Option.toList_some, List.cons_append, List.nil_append, fitX, fitY]
        refine tl.trans ?_
        rw [if_pos (show nI 0 = 0 by decide), if_neg e3]
    · by_cases e3 : X < Y
      · have hV2 : (V : Int) = (Y : Int) + (-1) * X := by
          rw [hV, if_pos e3, if_neg e1, if_neg e2]
        have hnd := sum_nd Y X (-1) (Or.inr rfl) (by omega) hV2
        have tl := d99_tail (b := b) (p := b) (q := a) (s2 := s2) (s3 := nI 1) (ld := nI 1) (w := (-1)) (Or.inr rfl) hV2 w1 (by omega) (lN9 Y) (lN8 Y) (lenOK Y hnd) hsx (Or.inr (by decide)) (fun i hi => rdB V i (by have := lN9 Y; omega)) (fun i hi => rdA V i (by have := lN9 Y; omega))
        refine ⟨ovr f V (if nd Y + 1 < N then nd Y + 1 else N), ?_, fun i hi => ovf Y i hnd hi⟩
        rw [E99 a _ _ w1.1]
        have e1t : (sy = s2) = False := eq_false e1
        have e2t : (sx = nI 1) = False := eq_false (fun z => e2 (z.trans (by decide)))
        have e3t : ((0 : Int32) ≤ c) = False := eq_false (fun z => absurd (hc1.mpr e3) (Int32.not_lt.mpr z))
        simp only [S99, w1.1, v1.1, gFs, eKls, e1t, e2t, e3t, t1, t0, if_true, if_false, hc, cl_some, Option.toList_some, List.cons_append, List.nil_append, fitX, fitY]
        rw [show ((-1) : Int32) = Int32.ofInt (-1) from rfl]
        refine tl.trans ?_
        rw [if_neg (show ¬ (nI 1 = 0) by decide), if_pos e3]
        rfl
      · have hV2 : (V : Int) = (X : Int) + (-1) * Y := by
          rw [hV, if_neg e3, if_neg e1, if_neg e2]
        have hnd := sum_nd X Y (-1) (Or.inr rfl) (by omega) hV2
        have tl := d99_tail (b := b) (p := a) (q := b) (s2 := s2) (s3 := nI 1) (ld := nI 0) (w := (-1)) (Or.inr rfl) hV2 w1 (by omega) (lN9 X) (lN8 X) (lenOK X hnd) hsx (Or.inr (by decide)) (fun i hi => rdA V i (by have := lN9 X; omega)) (fun i hi => rdB V i (by have := lN9 X; omega))
        refine ⟨ovr f V (if nd X + 1 < N then nd X + 1 else N), ?_, fun i hi => ovf X i hnd hi⟩
        rw [E99 a _ _ w1.1]
        have e1t : (sy = s2) = False := eq_false e1
        have e2t : (sx = nI 1) = False := eq_false (fun z => e2 (z.trans (by decide)))
        have e3t : ((0 : Int32) ≤ c) = True := eq_true (Int32.not_lt.mp (fun z => e3 (hc1.mp z)))
        simp only [S99, w1.1, v1.1, gFs, eKls, e1t, e2t, e3t, t1, t0, if_true, if_false, hc, cl_some, Option.toList_some, List.cons_append, List.nil_append, fitX, fitY]
        rw [show ((-1) : Int32) = Int32.ofInt (-1) from rfl]
        refine tl.trans ?_
        rw [if_pos (show nI 0 = 0 by decide), if_neg e3]
