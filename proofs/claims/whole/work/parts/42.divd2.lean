/-! DIVIDER: divide in numbers -/
def WX (h : eH) (a N : Nat) : Prop := ∃ sz bl f, WR h a N sz bl f
theorem WV.x {h : eH} {a N : Nat} {z : Int} (w : WV h a N z) : WX h a N := by
  obtain ⟨f, w, _⟩ := w
  exact ⟨_, _, f, w⟩
theorem WX.kept {h h' : eH} {a b N : Nat} (w : WX h b N) (x : F2 a h h') (h1 : b ≠ a) (h2 : b ≠ a + 1) (h3 : b + 1 ≠ a) : WX h' b N := by
  obtain ⟨sz, bl, f, w⟩ := w
  exact ⟨sz, bl, f, w.kept x h1 h2 h3⟩
def F6 (r : Nat) (h h' : eH) : Prop := h'.2 = h.2 ∧ ∀ i, i ≠ 22 → i ≠ 23 → i ≠ 24 → i ≠ 25 → i ≠ r → i ≠ r + 1 → h'.1 i = h.1 i
theorem F2.six {r a : Nat} {h h' : eH} (x : F2 a h h') (ha : a = 22 ∨ a = 24 ∨ a = r) : F6 r h h' := ⟨x.1, fun i h1 h2 h3 h4 h5 h6 => x.2 i (by rcases ha with e | e | e <;> omega) (by rcases ha with e | e | e <;> omega)⟩
theorem F6.trans {r : Nat} {h h' h'' : eH} (x : F6 r h h') (y : F6 r h' h'') : F6 r h h'' := ⟨y.1.trans x.1, fun i h1 h2 h3 h4 h5 h6 => (y.2 i h1 h2 h3 h4 h5 h6).trans (x.2 i h1 h2 h3 h4 h5 h6)⟩
theorem F6.up {r a : Nat} (h : eH) (e : va_E) (ha : a = 22 ∨ a = 23 ∨ a = 24 ∨ a = 25 ∨ a = r ∨ a = r + 1) : F6 r h (eUp h a e) := ⟨rfl, fun i h1 h2 h3 h4 h5 h6 => eUp_ne (by omega)⟩
theorem WV.kept6 {h h' : eH} {r b N : Nat} {z : Int} (w : WV h b N z) (x : F6 r h h') (h1 : ¬ (21 ≤ b ∧ b ≤ 25)) (h2 : b ≠ r) (h3 : b ≠ r + 1) (h4 : b + 1 ≠ r) : WV h' b N z := by
  obtain ⟨f, w, q⟩ := w
  exact ⟨f, ⟨(x.2 b (by omega) (by omega) (by omega) (by omega) h2 h3).trans w.1, (x.2 (b + 1) (by omega) (by omega) (by omega) (by omega) h4 (by omega)).trans w.2⟩, q⟩
theorem nI_dig {a b : Nat} (h : b ≤ a + 1) : nI a - nI b + nI 1 = nI (a + 1 - b) := by
  rw [nI_I, nI_I, nI_I, nI_I, iI_sub, iI_add]
  congr 1
  omega
theorem sb_tdiv {x y : Int} (hy : y.natAbs ≠ 0) (hxy : y.natAbs ≤ x.natAbs) : sb (x.tdiv y) = if sb x = sb y then 0 else 1 := by
  have hq : 0 < x.natAbs / y.natAbs := Nat.div_pos hxy (by omega)
  have hqa : (x.tdiv y).natAbs = x.natAbs / y.natAbs := Int.natAbs_tdiv x y
  have hm : (x.natAbs : Int).tdiv (y.natAbs : Int) = ((x.natAbs / y.natAbs : Nat) : Int) := rfl
  unfold sb
  by_cases hx : x < 0 <;> by_cases hy : y < 0 <;> simp only [hx, hy, if_true, if_false]
  · have e1 : x = -(x.natAbs : Int) := by omega
    have e2 : y = -(y.natAbs : Int) := by omega
    rw [e1, e2, Int.neg_tdiv, Int.tdiv_neg, hm, if_neg (by omega)]
  · have e1 : x = -(x.natAbs : Int) := by omega
    have e2 : y = (y.natAbs : Int) := by omega
    rw [e1, e2, Int.neg_tdiv, hm, if_pos (by omega)]
    rfl
  · have e1 : x = (x.natAbs : Int) := by omega
    have e2 : y = -(y.natAbs : Int) := by omega
    rw [e1, e2, Int.tdiv_neg, hm, if_pos (by omega)]
    rfl
  · have e1 : x = (x.natAbs : Int) := by omega
    have e2 : y = (y.natAbs : Int) := by omega
    rw [e1, e2, hm, if_neg (by omega)]
/-- what divide leaves -/
def DVP (h h' : eH) (r : Nat) (x y : Int) : Prop := F6 r h h' ∧ WX h' 24 36 ∧ ∃ Q b f z, WR h' 22 36 (nI (nd Q)) b f ∧ nd Q ≤ 36 ∧ (∀ i, i < nd Q → f i = nI (dgt Q i)) ∧ (b = 0 ∨ b = 1) ∧ WV h' r 36 z ∧ (x.natAbs < BB ^ 34 → Q = x.natAbs / y.natAbs ∧ z.natAbs = x.natAbs % y.natAbs ∧ b = sb (x.tdiv y))
theorem dvp_small {h h' : eH} {r : Nat} {x y : Int} (hf : F6 r h h') (hs : WX h' 24 36) (wq : WV h' 22 36 0) (wr : WV h' r 36 x) (hxy : y = 0 ∨ x.natAbs < y.natAbs) : DVP h h' r x y := by
  obtain ⟨f, w, w1, w2⟩ := wq
  refine ⟨hf, hs, 0, _, f, x, w, w1, w2, Or.inl rfl, wr, ?_⟩
  intro _
  rcases hxy with e | e
  · subst e
    refine ⟨by simp, by simp, by simp⟩
  · have hq : x.natAbs / y.natAbs = 0 := Nat.div_eq_of_lt e
    have : (x.tdiv y).natAbs = 0 := by rw [Int.natAbs_tdiv]; exact hq
    have : x.tdiv y = 0 := by omega
    rw [hq, this, Nat.mod_eq_of_lt e]
    exact ⟨rfl, rfl, rfl⟩
/-- the middle of divide: two parts or more -/
theorem d120_long {h : eH} {r b0 Nb : Nat} {x y : Int} {bl : Int32} (hd : DV h) (wq : WV h 22 36 0) (ws : WX h 24 36) (wr : WV h r 36 x) (wb : WV h b0 Nb y) (hr : 29 < r ∨ r = 26 ∨ r = 28 ∨ r < 20) (hb : 25 < b0) (hrb : r ≠ b0) (hNb : Nb ≤ 36) (hx : x.natAbs < BB ^ 35) (hyx : y.natAbs ≤ x.natAbs) (hn2 : 2 ≤ nd y.natAbs) (hbl : bl = 0 ∨ bl = 1) (hbl2 : bl = sb (x.tdiv y)) :
    ∃ h', ru 120 82 [some (.ref 21), some (.ref r), some (.ref b0), some (.int bl), none, none, none, none] [] h = some (none, h') ∧ DVP h h' r x y := by
  obtain ⟨fq0, wq, -, -⟩ := wq
  generalize hsq : nI (nd (0 : Int).natAbs) = sq at wq
  obtain ⟨ss, bs0, fs0, ws⟩ := ws
  have hB : BB = 1000000000 := rfl
  have hd' := hd
  unfold DV at hd'
  have wb0 := wb
  obtain ⟨fb, wb1, wb3, wb4⟩ := wb
  obtain ⟨fr, wr1, wr3, wr4⟩ := wr
  obtain ⟨ap1, ap2⟩ := wr1.apart wb1
  have htop := dgt_top (m := y.natAbs) (by omega)
  have htl := dgt_lt y.natAbs (nd y.natAbs - 1)
  obtain ⟨s1, s2, s3, s4⟩ := stretch_half (t := dgt y.natAbs (nd y.natAbs - 1)) (by omega) htl
  generalize hn : nd y.natAbs = n at *
  generalize htd : dgt y.natAbs (n - 1) = t at *
  have hsd : (nI 1000000000 / nI (t + 1)) = nI (BB / (t + 1)) := pk_div (by decide) (by omega) (by omega)
  generalize hs : BB / (t + 1) = s at *
  -- the divisor
  have hy1 : y.natAbs < BB ^ n := by rw [← hn]; exact lt_nd _
  have hyd : y.natAbs / BB ^ (n - 1) = t := by
    rw [← htd]
    unfold dgt
    rw [Nat.mod_eq_of_lt]
    rw [Nat.div_lt_iff_lt_mul (BP_pos _), Nat.mul_comm, ← Nat.pow_succ, show (n - 1).succ = n by omega]
    exact hy1
  have hpw : BB ^ n = BB ^ (n - 1) * BB := by rw [← Nat.pow_succ]; congr 1; omega
  have hylo : t * BB ^ (n - 1) ≤ y.natAbs := by rw [← hyd]; exact Nat.div_mul_le_self _ _
  have hyhi : y.natAbs < (t + 1) * BB ^ (n - 1) := by
    have := Nat.mod_add_div y.natAbs (BB ^ (n - 1))
    have := Nat.mod_lt y.natAbs (BP_pos (n - 1))
    rw [Nat.add_mul, ← hyd, Nat.mul_comm (y.natAbs / BB ^ (n - 1))]
    omega
  have hDlt : y.natAbs * s < BB ^ n := by
    calc y.natAbs * s < (t + 1) * BB ^ (n - 1) * s := Nat.mul_lt_mul_of_pos_right hyhi s3
      _ = (t + 1) * s * BB ^ (n - 1) := Nat.mul_right_comm ..
      _ ≤ BB * BB ^ (n - 1) := Nat.mul_le_mul_right _ s2
      _ = BB ^ n := by rw [hpw, Nat.mul_comm]
  have hDge : BB ^ n ≤ 2 * (y.natAbs * s) := by
    calc BB ^ n = BB * BB ^ (n - 1) := by rw [hpw, Nat.mul_comm]
      _ ≤ 2 * (t * s) * BB ^ (n - 1) := Nat.mul_le_mul_right _ s1
      _ = 2 * (t * BB ^ (n - 1) * s) := by rw [Nat.mul_assoc, Nat.mul_right_comm]
      _ ≤ 2 * (y.natAbs * s) := Nat.mul_le_mul_left _ (Nat.mul_le_mul_right _ hylo)
  have hn36 : n ≤ 36 := by omega
  have hBn36 : BB ^ n ≤ BB ^ 36 := Nat.pow_le_pow_right BB_pos hn36
  -- scaled
  obtain ⟨h2, e2, f2, v2⟩ := d84 (a := 24) (b := b0) (N := 36) (M := Nb) (z := y) ws wb0 (by omega) (by decide) (by omega) (by omega)
  obtain ⟨h3, e3, f3, V3, hV3, v3⟩ := d117 (m := s) v2 (by decide) (by omega)
  rw [Nat.mod_eq_of_lt (by omega)] at hV3
  subst hV3
  -- what is divided
  have wr0 : WV h r 36 x := ⟨fr, wr1, wr3, wr4⟩
  have wr2 : WV h3 r 36 x := (wr0.kept f2 (by omega) (by omega) (by omega)).kept f3 (by omega) (by omega) (by omega)
  obtain ⟨h4, e4, f4, V4, hV4, v4⟩ := d117 (m := s) wr2 (by decide) (by omega)
  have hxs : x.natAbs * s < BB ^ 36 := by
    calc x.natAbs * s < BB ^ 35 * BB := Nat.mul_lt_mul_of_lt_of_lt hx s4
      _ = BB ^ 36 := (Nat.pow_succ ..).symm
  rw [Nat.mod_eq_of_lt hxs] at hV4
  have hds : (y.natAbs * s) ≤ V4 := by rw [hV4]; exact Nat.mul_le_mul_right _ hyx
  have hnV : n ≤ nd V4 := by
    have hge : nd (y.natAbs * s) = n := by
      have a1 := nd_le.mpr hDlt
      by_cases hc : nd (y.natAbs * s) ≤ n - 1
      · have a2 := nd_le.mp hc
        have a4 : 2 * BB ^ (n - 1) ≤ BB ^ (n - 1) * BB := by rw [Nat.mul_comm]; exact Nat.mul_le_mul_left _ (by decide)
        omega
      · omega
    have := nd_mono hds
    omega
  obtain ⟨F4, w4, w43, w44⟩ := v4
  have hz4 : (if x < 0 then -(V4 : Int) else V4).natAbs = V4 := by split <;> omega
  rw [hz4] at w4 w43 w44
  generalize hsg : sb (if x < 0 then -(V4 : Int) else V4) = sg at w4
  have hsg01 : sg = 0 ∨ sg = 1 := by rw [← hsg]; exact sb01 _
  have hminq : (if nI 35 < nI (nd V4) then nI 35 else nI (nd V4)) = nI (if 35 < nd V4 then 35 else nd V4) := by
    by_cases hc : 35 < nd V4
    · rw [if_pos (nI_lt hc (by omega)), if_pos hc]
    · rw [if_neg (nI_nlt (by omega) (by decide)), if_neg hc]
  have hlenle : (if 35 < nd V4 then 35 else nd V4) ≤ 35 := by split <;> omega
  have hlenn : n ≤ (if 35 < nd V4 then 35 else nd V4) + 1 := by split <;> omega
  have hlenV : (if 35 < nd V4 then 35 else nd V4) ≤ nd V4 := by split <;> omega
  have hRlt : V4 % BB ^ 35 < BB ^ (if 35 < nd V4 then 35 else nd V4) := by
    by_cases hc : 35 < nd V4
    · rw [if_pos hc]; exact mod_lt' _ _
    · rw [if_neg hc, Nat.mod_eq_of_lt (nd_le.mp (by omega))]; exact lt_nd _
  generalize hlen : (if 35 < nd V4 then 35 else nd V4) = len at *
  -- the loop
  generalize hh5 : eUp h4 (r + 1) (.inl (0, 36, .inl (upd F4 len (nI 0)))) = h5
  have f5 : F2 r h4 h5 := by rw [← hh5]; exact F2.up1 r h4 _
  have d5' : h5.1 21 = .inr (2, [.ref 22, .ref 24, .ref 26, .ref 28]) := ((((f5.2 21 (by omega) (by omega)).trans (f4.2 21 (by omega) (by omega))).trans (f3.2 21 (by omega) (by omega))).trans (f2.2 21 (by omega) (by omega))).trans hd
  obtain ⟨fs, w3, w33, w34⟩ := v3
  have hz3 : (if y < 0 then -((y.natAbs * s : Nat) : Int) else ((y.natAbs * s : Nat) : Int)).natAbs = y.natAbs * s := by split <;> omega
  rw [hz3] at w3 w33 w34
  have hndD : nd (y.natAbs * s) = n := by
    have a1 := nd_le.mpr hDlt
    by_cases hc : nd (y.natAbs * s) ≤ n - 1
    · have a2 := nd_le.mp hc
      have a4 : 2 * BB ^ (n - 1) ≤ BB ^ (n - 1) * BB := by rw [Nat.mul_comm]; exact Nat.mul_le_mul_left _ (by decide)
      omega
    · omega
  rw [hndD] at w3 w33 w34
  generalize sb (if y < 0 then -((y.natAbs * s : Nat) : Int) else ((y.natAbs * s : Nat) : Int)) = bs at w3
  have ws5 : WR h5 24 36 (nI n) bs fs := (w3.kept f4 (by omega) (by omega) (by omega)).kept f5 (by omega) (by omega) (by omega)
  have wq5 : WR h5 22 36 sq (sb 0) fq0 := (((wq.kept f2 (by omega) (by omega) (by omega)).kept f3 (by omega) (by omega) (by omega)).kept f4 (by omega) (by omega) (by omega)).kept f5 (by omega) (by omega) (by omega)
  have er5 : h5.1 r = .inr (9, [.ref (r + 1), .int (nI (nd V4)), .int sg]) := by rw [← hh5]; exact (eUp_ne (by omega)).trans w4.1
  have er51 : h5.1 (r + 1) = .inl (0, 36, .inl (upd F4 len (nI 0))) := by rw [← hh5]; exact eUp_at ..
  have hD0 : 0 < y.natAbs * s := by have := BP_pos n; omega
  have hRD : V4 % BB ^ 35 < (y.natAbs * s) * BB ^ (len + 1 - n) := by
    refine Nat.lt_of_lt_of_le hRlt ?_
    have e : BB ^ len * BB = BB ^ n * BB ^ (len + 1 - n) := by rw [← Nat.pow_succ, ← Nat.pow_add]; congr 1; omega
    have a1 : BB ^ n * BB ^ (len + 1 - n) ≤ 2 * (y.natAbs * s) * BB ^ (len + 1 - n) := Nat.mul_le_mul_right _ hDge
    rw [Nat.mul_assoc 2] at a1
    have a2 : 2 * BB ^ len ≤ BB ^ len * BB := by rw [Nat.mul_comm]; exact Nat.mul_le_mul_left _ (by decide)
    omega
  obtain ⟨H', G', F', l1, l2, l3, l4, l5, l6, l7⟩ := d120_loop (h := h5) (r := r) (n := n) (D := y.natAbs * s) (R := V4 % BB ^ 35) (len := len) (dg := len + 1 - n) (by0 := b0) (x3 := some (.int bl)) (x4 := some (.int (nI s))) (x5 := some (.int (nI len))) (x6 := nI (len + 1 - n)) (bs := bs) (fs := fs) d5' ws5 hn36 (by omega) w34 hDlt hDge hr hlenle (by omega) hRlt (len + 1 - n) (Nat.le_refl _) h5 fq0 (upd F4 len (nI 0)) (fun i _ _ => rfl) wq5.2 er51 wq5.1 er5 (by
    intro i hi
    rw [Nat.mod_eq_of_lt hRD]
    unfold upd
    by_cases hil : i = len
    · rw [if_pos hil, hil, dgt_big (nd_le.mpr hRlt)]
    · rw [if_neg hil, w44 i (by omega), dgt_mod (by omega)]) (fun i h1 h2 => absurd h2 (by omega))
  generalize hDd : y.natAbs * s = D at *
  generalize hRd : V4 % BB ^ 35 = R at *
  generalize hdg : len + 1 - n = dg at *
  have hQlt : R / D < BB ^ dg := by rw [Nat.div_lt_iff_lt_mul hD0, Nat.mul_comm]; exact hRD
  -- the end
  have wqH : WR H' 22 36 sq (sb 0) G' := ⟨(l3 22 (by decide) (by omega)).trans wq5.1, l4⟩
  have hdg36 : (if dg < 36 then dg else 36) = dg := by split <;> omega
  have tr1 := d95 (l := dg) (v := R / D) wqH (sb01 0) (by decide) (by omega) (by rw [hdg36]; exact l7) (by rw [hdg36]; exact hQlt)
  have erH : H'.1 r = .inr (9, [.ref (r + 1), .int (nI (nd V4)), .int sg]) := (l3 r (by omega) (by omega)).trans er5
  have hRDl : R % D < BB ^ len := Nat.lt_of_le_of_lt (Nat.mod_le _ _) hRlt
  generalize hH3 : eUp H' 22 (.inr (9, [.ref 23, .int (nI (nd (R / D))), .int bl])) = H3
  have wr3' : WR H3 r 36 (nI (nd V4)) sg F' := by rw [← hH3]; exact ⟨(eUp_ne (by omega)).trans erH, (eUp_ne (by omega)).trans l5⟩
  have hlen36 : (if len < 36 then len else 36) = len := by split <;> omega
  have tr2 := d95 (l := len) (v := R % D) wr3' hsg01 (by decide) (by omega) (by rw [hlen36]; exact fun i hi => l6 i (by omega)) (by rw [hlen36]; exact hRDl)
  generalize hH4 : eUp H3 r (.inr (9, [.ref (r + 1), .int (nI (nd (R % D))), .int (if R % D = 0 then 0 else sg)])) = H4 at tr2
  have hnat : (if sg = 1 then -((R % D : Nat) : Int) else ((R % D : Nat) : Int)).natAbs = R % D := by split <;> omega
  have w4' : WV H4 r 36 (if sg = 1 then -((R % D : Nat) : Int) else ((R % D : Nat) : Int)) := by
    refine ⟨F', ⟨?_, ?_⟩, ?_, ?_⟩
    · rw [← hH4, eUp_at, hnat]
      congr 5
      unfold sb
      rcases hsg01 with e | e
      · rw [if_neg (show ¬ sg = 1 by rw [e]; decide), if_neg (show ¬ ((R % D : Nat) : Int) < 0 by omega), e]
        split <;> rfl
      · rw [if_pos e]
        by_cases h0 : R % D = 0
        · rw [if_pos h0, if_neg (by omega)]
        · rw [if_neg h0, if_pos (by omega), e]
    · rw [← hH4]; exact (eUp_ne (by omega)).trans wr3'.2
    · rw [hnat]; exact Nat.le_trans (nd_le.mpr hRDl) (by omega)
    · rw [hnat]; intro i hi
      have := nd_le.mpr hRDl
      exact l6 i (by omega)
  obtain ⟨H5, e5, f5', v5⟩ := d116 (m := s) w4' (by decide) s3 (by omega)
  rw [hnat] at v5
  have fH : F6 r h5 H' := ⟨l2, fun i h1 h2 h3 h4 h5 h6 => l3 i h2 h6⟩
  have F34 : F6 r H' H4 := by
    rw [← hH4, ← hH3]
    exact (F6.up H' _ (Or.inl rfl)).trans (F6.up _ _ (Or.inr (Or.inr (Or.inr (Or.inr (Or.inl rfl))))))
  refine ⟨H5, ?_, ?_, ?_, R / D, bl, G', _, ?_, ?_, ?_, hbl, v5, ?_⟩
  · have eb1 : ∀ i, i ≠ 24 → i ≠ 25 → h3.1 i = h.1 i := fun i h1 h2 => (f3.2 i h1 h2).trans (f2.2 i h1 h2)
    have q3 : h3.1 21 = .inr (2, [.ref 22, .ref 24, .ref 26, .ref 28]) := (eb1 21 (by decide) (by decide)).trans hd'
    have q2 : h2.1 21 = .inr (2, [.ref 22, .ref 24, .ref 26, .ref 28]) := (f2.2 21 (by decide) (by decide)).trans hd'
    have q4 : h4.1 21 = .inr (2, [.ref 22, .ref 24, .ref 26, .ref 28]) := (f4.2 21 (by omega) (by omega)).trans q3
    have q424 : h4.1 24 = .inr (9, [.ref 25, .int (nI n), .int bs]) := (f4.2 24 (by omega) (by omega)).trans w3.1
    have q524 : h5.1 24 = .inr (9, [.ref 25, .int (nI n), .int bs]) := ws5.1
    have qH : H'.1 21 = .inr (2, [.ref 22, .ref 24, .ref 26, .ref 28]) := (l3 21 (by decide) (by omega)).trans d5'
    have qH4 : ∀ e, (eUp H' 22 e).1 21 = .inr (2, [.ref 22, .ref 24, .ref 26, .ref 28]) := fun e => (eUp_ne (by decide)).trans qH
    have hne : ¬ nI (t + 1) = 0 := nI_ne0 (by omega) (by omega)
    simp only [S120, gFs, pFs, okq, bls, bo_true, eUp_at, eUp_eUp, eKls, cl_some, Option.toList_some, Option.toList_none, List.cons_append, List.nil_append, wb1.1, wb1.2, hd', e2, q2]
    rw [pk_sub (show 1 ≤ n by omega), aI_nI (by omega) (by omega), wb4 (n - 1) (by omega), htd, nI_add]
    simp only [hne, if_false, hsd]
    simp only [S120, gFs, pFs, okq, bls, bo_true, eUp_at, eUp_eUp, eKls, cl_some, Option.toList_some, Option.toList_none, List.cons_append, List.nil_append, hd', e2, q2, e3, q3, e4, w4.1, w4.2]
    rw [aN_sf (by decide)]
    simp only [S120, gFs, pFs, okq, bls, bo_true, eUp_at, eUp_eUp, eKls, cl_some, Option.toList_some, Option.toList_none, List.cons_append, List.nil_append, show nI 36 - nI 1 = nI 35 by decide, d9, hminq, w4.1, w4.2]
    rw [wI_nI (by omega) (by decide), hh5]
    simp only [S120, gFs, pFs, okq, bls, bo_true, eUp_at, eUp_eUp, eKls, cl_some, Option.toList_some, Option.toList_none, List.cons_append, List.nil_append, d5', q524, nI_dig hlenn, hdg]
    rw [l1, H120_198]
    have hbb : (bl == 0 || bl == 1) = true := by rcases hbl with e | e <;> rw [e] <;> decide
    simp only [S120, gFs, pFs, okq, bls, bo_true, eUp_at, eUp_eUp, eKls, cl_some, Option.toList_some, Option.toList_none, List.cons_append, List.nil_append, qH, tr1, qH4, hbb, hH3, tr2, e5]
  · exact ((((((F2.six f2 (Or.inr (Or.inl rfl))).trans (F2.six f3 (Or.inr (Or.inl rfl)))).trans (F2.six f4 (Or.inr (Or.inr rfl)))).trans (F2.six f5 (Or.inr (Or.inr rfl)))).trans fH).trans F34).trans (F2.six f5' (Or.inr (Or.inr rfl)))
  · refine ⟨nI n, bs, fs, ?_⟩
    have a1 : ∀ i, 24 ≤ i → i ≤ 25 → H5.1 i = h5.1 i := by
      intro i h1 h2
      rw [f5'.2 i (by omega) (by omega), ← hH4, eUp_ne (by omega), ← hH3, eUp_ne (by omega)]
      exact l3 i (by omega) (by omega)
    exact ⟨(a1 24 (by decide) (by decide)).trans ws5.1, (a1 25 (by decide) (by decide)).trans ws5.2⟩
  · constructor
    · rw [f5'.2 22 (by omega) (by omega), ← hH4, eUp_ne (by omega), ← hH3, eUp_at]
    · rw [f5'.2 23 (by omega) (by omega), ← hH4, eUp_ne (by omega), ← hH3, eUp_ne (by decide)]
      exact l4
  · exact Nat.le_trans (nd_le.mpr hQlt) (by omega)
  · intro i hi
    have := nd_le.mpr hQlt
    exact l7 i (by omega)
  · intro hx34
    have hV35 : V4 < BB ^ 35 := by
      rw [hV4]
      calc x.natAbs * s < BB ^ 34 * BB := Nat.mul_lt_mul_of_lt_of_lt hx34 s4
        _ = BB ^ 35 := (Nat.pow_succ ..).symm
    rw [Nat.mod_eq_of_lt hV35] at hRd
    refine ⟨?_, ?_, hbl2⟩
    · rw [← hRd, hV4, ← hDd, Nat.mul_div_mul_right _ _ s3]
    · have e : R % D / s = x.natAbs % y.natAbs := by
        rw [← hRd, hV4, ← hDd, Nat.mul_mod_mul_right, Nat.mul_div_cancel _ s3]
      split <;> omega
theorem d120 {h : eH} {r b0 Nb : Nat} {x y : Int} (hd : DV h) (wq : WX h 22 36) (ws : WX h 24 36) (wr : WV h r 36 x) (wb : WV h b0 Nb y) (hr : 29 < r ∨ r = 26 ∨ r = 28 ∨ r < 20) (hb : 25 < b0) (hrb : r ≠ b0) (hNb : Nb ≤ 36) (hx : x.natAbs < BB ^ 35) : ∃ h', den 120 [.ref 21, .ref r, .ref b0] h = some (none, h') ∧ DVP h h' r x y := by
  obtain ⟨sq, bq, fq, wq⟩ := wq
  obtain ⟨h1, e1, f1, v1⟩ := d82 wq
  obtain ⟨fr, wr1, -, -⟩ := id wr
  obtain ⟨fb, wb1, -, -⟩ := id wb
  obtain ⟨ap1, ap2⟩ := wr1.apart wb1
  have wr' := wr.kept f1 (by omega) (by omega) (by omega)
  have wb' := wb.kept f1 (by omega) (by omega) (by omega)
  have ws' := ws.kept f1 (by decide) (by decide) (by decide)
  have hd1 : h1.1 21 = .inr (2, [.ref 22, .ref 24, .ref 26, .ref 28]) := (f1.2 21 (by decide) (by decide)).trans hd
  have hd' := hd
  unfold DV at hd'
  obtain ⟨c, ec, c1, c2⟩ := d97 wr' wb' (by decide) (by omega)
  obtain ⟨fr, wr1, wr3, wr4⟩ := id wr'
  obtain ⟨fb, wb1, wb3, wb4⟩ := id wb'
  have hf1 : F6 r h h1 := F2.six f1 (Or.inl rfl)
  have hB : BB = 1000000000 := rfl
  rw [E120 21 _ _ hd]
  simp only [S120, gFs, pFs, okq, bls, bo_true, eUp_at, eUp_eUp, eKls, cl_some, Option.toList_some, Option.toList_none, List.cons_append, List.nil_append, hd', e1, wb1.1]
  by_cases hy0 : nd y.natAbs = 0
  · rw [if_pos (by rw [hy0]; exact nI_0)]
    exact ⟨h1, rfl, dvp_small hf1 ws' v1 wr' (Or.inl (natAbs0 hy0))⟩
  · rw [if_neg (nI_ne0 (by omega) (by omega))]
    simp only [S120, gFs, pFs, okq, bls, bo_true, eUp_at, eUp_eUp, eKls, cl_some, Option.toList_some, Option.toList_none, List.cons_append, List.nil_append, ec]
    by_cases hlt : x.natAbs < y.natAbs
    · rw [if_neg (by rw [Int32.not_le]; exact c1.mpr hlt)]
      exact ⟨h1, rfl, dvp_small hf1 ws' v1 wr' (Or.inr hlt)⟩
    · rw [if_pos (Int32.not_lt.mp (fun e => hlt (c1.mp e)))]
      have hyn : y.natAbs ≠ 0 := fun e => hy0 (nd_eq0.mpr e)
      have hst := sb_tdiv hyn (Nat.not_lt.mp hlt)
      have go : ∀ bl : Int32, bl = (if sb x = sb y then 0 else 1) → ∃ h', ru 120 40 [some (.ref 21), some (.ref r), some (.ref b0), some (.int bl), none, none, none, none] [] h1 = some (none, h') ∧ DVP h h' r x y := by
        intro bl hbl
        have hbl01 : bl = 0 ∨ bl = 1 := by
          rw [hbl]
          split
          · exact Or.inl rfl
          · exact Or.inr rfl
        have hbb : (bl == 0 || bl == 1) = true := by rcases hbl01 with e | e <;> rw [e] <;> decide
        simp only [S120, gFs, pFs, okq, bls, bo_true, eUp_at, eUp_eUp, eKls, cl_some, Option.toList_some, Option.toList_none, List.cons_append, List.nil_append, wb1.1]
        by_cases hn1 : nd y.natAbs = 1
        · rw [if_pos (by rw [hn1])]
          have hyl : y.natAbs < BB := by have := lt_nd y.natAbs; rw [hn1, Nat.pow_one] at this; exact this
          obtain ⟨f0, wq0, -, -⟩ := id v1
          obtain ⟨h2, e2, f2, v2⟩ := d84 (a := 22) (b := r) (N := 36) (M := 36) (z := x) wq0 wr' (by omega) (by decide) (by decide) wr3
          obtain ⟨h3, e3, f3, v3⟩ := d116 (m := y.natAbs) v2 (by decide) (by omega) (by omega)
          have wr3' := (wr'.kept f2 (by omega) (by omega) (by omega)).kept f3 (by omega) (by omega) (by omega)
          obtain ⟨fr3, wr31, -, -⟩ := id wr3'
          have hml := Nat.mod_lt x.natAbs (show 0 < y.natAbs by omega)
          have hti : (nI (x.natAbs % y.natAbs)).toInt = ((x.natAbs % y.natAbs : Nat) : Int) := nI_toInt (by omega)
          obtain ⟨h4, e4, f4, v4⟩ := d112 wr31 (by decide) (by decide) (nI (x.natAbs % y.natAbs)) (by rw [hti]; omega)
          rw [hti] at v4
          have v3' := v3.kept f4 (by omega) (by omega) (by omega)
          obtain ⟨f33, w33, w34, w35⟩ := v3'
          have hna : (if x < 0 then -((x.natAbs / y.natAbs : Nat) : Int) else ((x.natAbs / y.natAbs : Nat) : Int)).natAbs = x.natAbs / y.natAbs := by generalize x.natAbs / y.natAbs = q; split <;> omega
          rw [hna] at w33 w34 w35
          have q2 : h2.1 21 = .inr (2, [.ref 22, .ref 24, .ref 26, .ref 28]) := (f2.2 21 (by decide) (by decide)).trans hd1
          have q4 : h4.1 21 = .inr (2, [.ref 22, .ref 24, .ref 26, .ref 28]) := (f4.2 21 (by omega) (by omega)).trans ((f3.2 21 (by decide) (by decide)).trans q2)
          have qb : h2.1 b0 = .inr (9, [.ref (b0 + 1), .int (nI (nd y.natAbs)), .int (sb y)]) := (f2.2 b0 (by omega) (by omega)).trans wb1.1
          have qb1 : h2.1 (b0 + 1) = .inl (0, Nb, .inl fb) := (f2.2 (b0 + 1) (by omega) (by omega)).trans wb1.2
          have qy : fb 0 = nI y.natAbs := by rw [wb4 0 (by omega), dgt_small hyl]
          simp only [S120, gFs, pFs, okq, bls, bo_true, eUp_at, eUp_eUp, eKls, cl_some, Option.toList_some, Option.toList_none, List.cons_append, List.nil_append, hd1, e2, q2, qb, qb1]
          rw [aI_nI (by omega) (by omega), qy]
          simp only [S120, gFs, pFs, okq, bls, bo_true, eUp_at, eUp_eUp, eKls, cl_some, Option.toList_some, Option.toList_none, List.cons_append, List.nil_append, e3, e4, q4, w33.1, hbb]
          refine ⟨_, rfl, ?_, ?_, x.natAbs / y.natAbs, bl, f33, _, ⟨eUp_at .., (eUp_ne (by decide)).trans w33.2⟩, w34, w35, hbl01, v4.kept (F2.up 22 h4 _) (by omega) (by omega) (by omega), ?_⟩
          · exact (((hf1.trans (F2.six f2 (Or.inl rfl))).trans (F2.six f3 (Or.inl rfl))).trans (F2.six f4 (Or.inr (Or.inr rfl)))).trans (F6.up h4 _ (Or.inl rfl))
          · exact (((ws'.kept f2 (by decide) (by decide) (by decide)).kept f3 (by decide) (by decide) (by decide)).kept f4 (by omega) (by omega) (by omega)).kept (F2.up 22 h4 _) (by decide) (by decide) (by decide)
          · intro _
            exact ⟨rfl, by omega, hbl.trans hst.symm⟩
        · rw [if_neg (fun e => hn1 ((nI_eq (by omega) (by decide)).mp e))]
          obtain ⟨h', q1, q2, q3⟩ := d120_long (bl := bl) hd1 v1 ws' wr' wb' hr hb hrb hNb hx (Nat.not_lt.mp hlt) (by omega) hbl01 (hbl.trans hst.symm)
          refine ⟨h', ?_, hf1.trans q2, q3⟩
          rw [← q1]
          simp only [S120, gFs, pFs, okq, bls, bo_true, eUp_at, eUp_eUp, eKls, cl_some, Option.toList_some, Option.toList_none, List.cons_append, List.nil_append, wb1.1]
      simp only [S120, gFs, pFs, okq, bls, bo_true, eUp_at, eUp_eUp, eKls, cl_some, Option.toList_some, Option.toList_none, List.cons_append, List.nil_append, wr1.1, wb1.1]
      by_cases hs : sb x = sb y
      · rw [if_pos hs]
        obtain ⟨h', q1, q2⟩ := go (nI 0) (by rw [if_pos hs]; rfl)
        refine ⟨h', ?_, q2⟩
        rw [← q1]
        simp only [S120, gFs, pFs, okq, bls, bo_true, eUp_at, eUp_eUp, eKls, cl_some, Option.toList_some, Option.toList_none, List.cons_append, List.nil_append, wb1.1]
      · rw [if_neg hs]
        obtain ⟨h', q1, q2⟩ := go (nI 1) (by rw [if_neg hs]; rfl)
        refine ⟨h', ?_, q2⟩
        rw [← q1]
        simp only [S120, gFs, pFs, okq, bls, bo_true, eUp_at, eUp_eUp, eKls, cl_some, Option.toList_some, Option.toList_none, List.cons_append, List.nil_append, wb1.1]
/-- the quotient of numbers that are small enough -/
theorem d120w {h : eH} {r b0 Nb : Nat} {x y : Int} (hd : DV h) (wq : WX h 22 36) (ws : WX h 24 36) (wr : WV h r 36 x) (wb : WV h b0 Nb y) (hr : 29 < r ∨ r = 26 ∨ r = 28 ∨ r < 20) (hb : 25 < b0) (hrb : r ≠ b0) (hNb : Nb ≤ 36) (hx : x.natAbs < BB ^ 34) : ∃ h', den 120 [.ref 21, .ref r, .ref b0] h = some (none, h') ∧ F6 r h h' ∧ WX h' 24 36 ∧ WV h' 22 36 (x.tdiv y) ∧ ∃ z, WV h' r 36 z ∧ z.natAbs = x.natAbs % y.natAbs := by
  obtain ⟨h', e, q1, q2, Q, b, f, z, q3, q4, q5, q6, q7, q8⟩ := d120 hd wq ws wr wb hr hb hrb hNb (Nat.lt_of_lt_of_le hx (Nat.pow_le_pow_right BB_pos (by decide)))
  obtain ⟨r1, r2, r3⟩ := q8 hx
  have hna : (x.tdiv y).natAbs = Q := (Int.natAbs_tdiv x y).trans r1.symm
  refine ⟨h', e, q1, q2, ⟨f, ?_, ?_, ?_⟩, z, q7, r2⟩
  · rw [hna, ← r3]; exact q3
  · rw [hna]; exact q4
  · rw [hna]; exact q5
