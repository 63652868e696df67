/-! DIVIDER: commonOf; FRACTION -/
def DD (h : eH) : Prop := DV h ∧ WX h 22 36 ∧ WX h 24 36 ∧ WX h 26 36 ∧ WX h 28 36
def FD (h h' : eH) : Prop := h'.2 = h.2 ∧ ∀ i, (i < 22 ∨ 29 < i) → h'.1 i = h.1 i
theorem FD.trans {h h' h'' : eH} (x : FD h h') (y : FD h' h'') : FD h h'' := ⟨y.1.trans x.1, fun i hi => (y.2 i hi).trans (x.2 i hi)⟩
theorem F2.fd {a : Nat} {h h' : eH} (x : F2 a h h') (ha : 22 ≤ a ∧ a ≤ 28) : FD h h' := ⟨x.1, fun i hi => x.2 i (by omega) (by omega)⟩
theorem F6.fd {r : Nat} {h h' : eH} (x : F6 r h h') (ha : 22 ≤ r ∧ r ≤ 28) : FD h h' := ⟨x.1, fun i hi => x.2 i (by omega) (by omega) (by omega) (by omega) (by omega) (by omega)⟩
theorem WV.keptD {h h' : eH} {b N : Nat} {z : Int} (w : WV h b N z) (x : FD h h') (h1 : b < 21 ∨ 29 < b) : WV h' b N z := by
  obtain ⟨f, w, q⟩ := w
  exact ⟨f, ⟨(x.2 b (by omega)).trans w.1, (x.2 (b + 1) (by omega)).trans w.2⟩, q⟩
theorem WX.keptD {h h' : eH} {b N : Nat} (w : WX h b N) (x : FD h h') (h1 : b < 21 ∨ 29 < b) : WX h' b N := by
  obtain ⟨s, c, f, w⟩ := w
  exact ⟨s, c, f, ⟨(x.2 b (by omega)).trans w.1, (x.2 (b + 1) (by omega)).trans w.2⟩⟩
theorem WX.kept6 {h h' : eH} {r b N : Nat} (w : WX h b N) (x : F6 r h h') (h1 : ¬ (21 ≤ b ∧ b ≤ 25)) (h2 : b ≠ r) (h3 : b ≠ r + 1) (h4 : b + 1 ≠ r) : WX h' b N := by
  obtain ⟨s, c, f, w⟩ := w
  exact ⟨s, c, f, ⟨(x.2 b (by omega) (by omega) (by omega) (by omega) h2 h3).trans w.1, (x.2 (b + 1) (by omega) (by omega) (by omega) (by omega) h4 (by omega)).trans w.2⟩⟩
theorem mod_half {S R : Nat} (hR : 0 < R) (hRS : R < S) : 2 * (S % R) < S := by
  have h1 := Nat.mod_lt S hR
  have h2 := Nat.mod_add_div S R
  have h3 : 1 ≤ S / R := Nat.div_pos (Nat.le_of_lt hRS) hR
  have h4 : R * 1 ≤ R * (S / R) := Nat.mul_le_mul_left _ h3
  omega
theorem d127_step {h H : eH} {p q a1 a2 : Nat} {zl zs : Int} {st : Nat} {x6 : Option Value} (hpq : (p = 26 ∧ q = 28) ∨ (p = 28 ∧ q = 26)) (hf : FD h H) (hD : DD H) (wl : WV H p 36 zl) (wsm : WV H q 36 zs) (hl : zl.natAbs < BB ^ 34) (hz : zs ≠ 0) (hst : st < 2000) :
    ∃ H' z x6', ru 127 30 [some (.ref 21), some (.ref a1), some (.ref a2), some (.ref p), some (.ref q), some (.int (nI st)), x6] [] H = ru 127 30 [some (.ref 21), some (.ref a1), some (.ref a2), some (.ref q), some (.ref p), some (.int (nI (st + 1))), x6'] [] H' ∧ FD h H' ∧ DD H' ∧ WV H' q 36 zs ∧ WV H' p 36 z ∧ z.natAbs = zl.natAbs % zs.natAbs := by
  obtain ⟨d1, d2, d3, d4, d5⟩ := hD
  obtain ⟨H', e, f6, v24, vq, z, vz, hzz⟩ := d120w (r := p) (b0 := q) d1 d2 d3 wl wsm (by omega) (by omega) (by omega) (by decide) hl
  obtain ⟨fs, ws1, ws2, ws3⟩ := id wsm
  have hn : nd zs.natAbs ≠ 0 := fun e => hz (natAbs0 e)
  have wq' : WV H' q 36 zs := wsm.kept6 f6 (by omega) (by omega) (by omega) (by omega)
  refine ⟨H', z, some (.ref p), ?_, hf.trans (f6.fd (by omega)), ⟨(f6.2 21 (by decide) (by decide) (by decide) (by decide) (by omega) (by omega)).trans d1, vq.x, v24, ?_, ?_⟩, wq', vz, hzz⟩
  · rw [H127_30]
    simp only [S127, gFs, pFs, okq, bls, bo_true, eUp_at, eUp_eUp, eKls, cl_some, Option.toList_some, Option.toList_none, List.cons_append, List.nil_append, ws1.1, e]
    rw [if_neg (nI_ge hst (by decide)), if_neg (nI_nle (by omega) (by omega)), nI_1]
  · rcases hpq with ⟨e1, e2⟩ | ⟨e1, e2⟩
    · rw [← e1]; exact vz.x
    · rw [← e2]; exact wq'.x
  · rcases hpq with ⟨e1, e2⟩ | ⟨e1, e2⟩
    · rw [← e2]; exact wq'.x
    · rw [← e1]; exact vz.x
theorem d127_exit {h H : eH} {p q a1 a2 : Nat} {zl zs : Int} {st : Nat} {x6 : Option Value} (hpq : (p = 26 ∧ q = 28) ∨ (p = 28 ∧ q = 26)) (hf : FD h H) (hD : DD H) (wl : WV H p 36 zl) (wsm : WV H q 36 zs) (hz : zs = 0) (hst : st ≤ 2000) :
    ∃ H', ru 127 30 [some (.ref 21), some (.ref a1), some (.ref a2), some (.ref p), some (.ref q), some (.int (nI st)), x6] [] H = some (some (.ref p), H') ∧ FD h H' ∧ DD H' ∧ WV H' p 36 (zl.natAbs : Int) := by
  obtain ⟨fs, ws1, ws2, ws3⟩ := id wsm
  obtain ⟨fl, wl1, wl2, wl3⟩ := id wl
  obtain ⟨d1, d2, d3, d4, d5⟩ := hD
  have e69 : ru 127 69 [some (.ref 21), some (.ref a1), some (.ref a2), some (.ref p), some (.ref q), some (.int (nI st)), x6] [] H = some (some (.ref p), eUp H p (.inr (9, [.ref (p + 1), .int (nI (nd zl.natAbs)), .int 0]))) := by
    rw [H127_69]
    simp only [S127, gFs, pFs, okq, bls, bo_true, eUp_at, eUp_eUp, eKls, cl_some, Option.toList_some, Option.toList_none, List.cons_append, List.nil_append, wl1.1]
    rfl
  have f2 : F2 p H (eUp H p (.inr (9, [.ref (p + 1), .int (nI (nd zl.natAbs)), .int 0]))) := F2.up p H _
  have wv : WV (eUp H p (.inr (9, [.ref (p + 1), .int (nI (nd zl.natAbs)), .int 0]))) p 36 (zl.natAbs : Int) := by
    refine ⟨fl, ⟨?_, (eUp_ne (by omega)).trans wl1.2⟩, wl2, wl3⟩
    rw [eUp_at]
    unfold sb
    rw [if_neg (by omega), Int.natAbs_natCast]
  refine ⟨_, ?_, hf.trans (f2.fd (by omega)), ⟨(f2.2 21 (by omega) (by omega)).trans d1, d2.kept f2 (by omega) (by omega) (by omega), d3.kept f2 (by omega) (by omega) (by omega), ?_, ?_⟩, wv⟩
  · rw [H127_30]
    simp only [S127, gFs, pFs, okq, bls, bo_true, eUp_at, eUp_eUp, eKls, cl_some, Option.toList_some, Option.toList_none, List.cons_append, List.nil_append, ws1.1]
    by_cases h2 : 2000 ≤ st
    · rw [if_pos (nI_le h2 (by omega)), e69]
    · rw [if_neg (nI_ge (by omega) (by decide)), if_pos (by rw [hz]; decide), e69]
  · rcases hpq with ⟨e1, e2⟩ | ⟨e1, e2⟩
    · subst e1; exact wv.x
    · subst e1; exact d4.kept f2 (by omega) (by omega) (by omega)
  · rcases hpq with ⟨e1, e2⟩ | ⟨e1, e2⟩
    · subst e1; exact d5.kept f2 (by omega) (by omega) (by omega)
    · subst e1; exact wv.x
theorem d127_loop {h : eH} {a1 a2 : Nat} : ∀ (m p q st : Nat) (H : eH) (zl zs : Int) (x6 : Option Value), ((p = 26 ∧ q = 28) ∨ (p = 28 ∧ q = 26)) → FD h H → DD H → WV H p 36 zl → WV H q 36 zs → zl.natAbs < BB ^ 34 → zs.natAbs < BB ^ 34 → zs.natAbs < 2 ^ m → st + 2 * m ≤ 2000 →
    ∃ H' p', ru 127 30 [some (.ref 21), some (.ref a1), some (.ref a2), some (.ref p), some (.ref q), some (.int (nI st)), x6] [] H = some (some (.ref p'), H') ∧ (p' = 26 ∨ p' = 28) ∧ FD h H' ∧ DD H' ∧ WV H' p' 36 (Nat.gcd zl.natAbs zs.natAbs : Int) := by
  intro m
  induction m with
  | zero =>
    intro p q st H zl zs x6 hpq hf hD wl ws hl hs hm hst
    have hz : zs = 0 := by rw [Nat.pow_zero] at hm; omega
    have hp : p = 26 ∨ p = 28 := hpq.elim (fun e => Or.inl e.1) (fun e => Or.inr e.1)
    obtain ⟨H', e, r1, r2, r3⟩ := d127_exit (a1 := a1) (a2 := a2) (x6 := x6) (st := st) hpq hf hD wl ws hz (by omega)
    refine ⟨H', p, e, hp, r1, r2, ?_⟩
    rw [hz, Int.natAbs_zero, Nat.gcd_zero_right]
    exact r3
  | succ m ih =>
    intro p q st H zl zs x6 hpq hf hD wl ws hl hs hm hst
    have hp : p = 26 ∨ p = 28 := hpq.elim (fun e => Or.inl e.1) (fun e => Or.inr e.1)
    have hq : q = 26 ∨ q = 28 := hpq.elim (fun e => Or.inr e.2) (fun e => Or.inl e.2)
    have hqp : (q = 26 ∧ p = 28) ∨ (q = 28 ∧ p = 26) := hpq.elim (fun e => Or.inr ⟨e.2, e.1⟩) (fun e => Or.inl ⟨e.2, e.1⟩)
    by_cases hz : zs = 0
    · obtain ⟨H', e, r1, r2, r3⟩ := d127_exit (a1 := a1) (a2 := a2) (x6 := x6) (st := st) hpq hf hD wl ws hz (by omega)
      refine ⟨H', p, e, hp, r1, r2, ?_⟩
      rw [hz, Int.natAbs_zero, Nat.gcd_zero_right]
      exact r3
    · obtain ⟨H1, z1, x1, e1, f1, D1, wq1, wp1, hz1⟩ := d127_step (a1 := a1) (a2 := a2) (x6 := x6) (st := st) hpq hf hD wl ws hl hz (by omega)
      have hz1l : z1.natAbs < zs.natAbs := by rw [hz1]; exact Nat.mod_lt _ (by omega)
      have hg1 : Nat.gcd zl.natAbs zs.natAbs = Nat.gcd zs.natAbs z1.natAbs := by
        rw [hz1, Nat.gcd_comm, Nat.gcd_rec, Nat.gcd_comm]
      by_cases hz10 : z1 = 0
      · obtain ⟨H', e, r1, r2, r3⟩ := d127_exit (a1 := a1) (a2 := a2) (x6 := x1) (st := st + 1) hqp f1 D1 wq1 wp1 hz10 (by omega)
        refine ⟨H', q, e1.trans e, hq, r1, r2, ?_⟩
        rw [hg1, hz10, Int.natAbs_zero, Nat.gcd_zero_right]
        exact r3
      · obtain ⟨H2, z2, x2, e2, f2, D2, wp2, wq2, hz2⟩ := d127_step (a1 := a1) (a2 := a2) (x6 := x1) (st := st + 1) hqp f1 D1 wq1 wp1 hs hz10 (by omega)
        have hh := mod_half (S := zs.natAbs) (R := z1.natAbs) (by omega) hz1l
        rw [← hz2] at hh
        have hg2 : Nat.gcd zs.natAbs z1.natAbs = Nat.gcd z1.natAbs z2.natAbs := by
          rw [hz2, Nat.gcd_comm, Nat.gcd_rec, Nat.gcd_comm]
        obtain ⟨H', p', e3, r⟩ := ih p q (st + 1 + 1) H2 z1 z2 x2 hpq f2 D2 wp2 wq2 (by omega) (by omega) (by rw [Nat.pow_succ] at hm; omega) (by omega)
        refine ⟨H', p', (e1.trans e2).trans e3, ?_⟩
        rw [hg1, hg2]
        exact r
theorem d127 {h : eH} {a b Na Nb : Nat} {x y : Int} (hD : DD h) (wa : WV h a Na x) (wb : WV h b Nb y) (hNa : Na ≤ 36) (hNb : Nb ≤ 36) (ha : a < 21 ∨ 29 < a) (hb : b < 21 ∨ 29 < b) (hx : x.natAbs < BB ^ 30) (hy : y.natAbs < BB ^ 30) : ∃ h' p, den 127 [.ref 21, .ref a, .ref b] h = some (some (.ref p), h') ∧ (p = 26 ∨ p = 28) ∧ FD h h' ∧ DD h' ∧ WV h' p 36 (Nat.gcd x.natAbs y.natAbs : Int) := by
  obtain ⟨d1, d2, d3, ⟨s4, b4, f4, w4⟩, ⟨s5, b5, f5, w5⟩⟩ := hD
  obtain ⟨-, -, wa3, -⟩ := id wa
  obtain ⟨-, -, wb3, -⟩ := id wb
  obtain ⟨h1, e1, q1, v1⟩ := d84 (a := 26) (b := a) (N := 36) (M := Na) (z := x) w4 wa (by omega) (by decide) (by omega) (by omega)
  have w5' := w5.kept q1 (by decide) (by decide) (by decide)
  have wb' := wb.kept q1 (by omega) (by omega) (by omega)
  obtain ⟨h2, e2, q2, v2⟩ := d84 (a := 28) (b := b) (N := 36) (M := Nb) (z := y) w5' wb' (by omega) (by decide) (by omega) (by omega)
  have v1' := v1.kept q2 (by decide) (by decide) (by decide)
  have p34 : BB ^ 30 < BB ^ 34 := Nat.pow_lt_pow_right (by decide) (by decide)
  have p2 : BB ^ 30 < 2 ^ 900 := by
    have := Nat.pow_lt_pow_left (show BB < 2 ^ 30 by decide) (show (30 : Nat) ≠ 0 by decide)
    rw [← Nat.pow_mul] at this
    exact this
  have D2 : DD h2 := ⟨(q2.2 21 (by decide) (by decide)).trans ((q1.2 21 (by decide) (by decide)).trans d1), (d2.kept q1 (by decide) (by decide) (by decide)).kept q2 (by decide) (by decide) (by decide), (d3.kept q1 (by decide) (by decide) (by decide)).kept q2 (by decide) (by decide) (by decide), v1'.x, v2.x⟩
  obtain ⟨H', p', e3, r⟩ := d127_loop (h := h) (a1 := a) (a2 := b) 900 26 28 0 h2 x y none (Or.inl ⟨rfl, rfl⟩) ((q1.fd (by omega)).trans (q2.fd (by omega))) D2 v1' v2 (by omega) (by omega) (by omega) (by decide)
  refine ⟨H', p', ?_, r⟩
  have d1' := d1
  unfold DV at d1'
  have d11 : h1.1 21 = .inr (2, [.ref 22, .ref 24, .ref 26, .ref 28]) := (q1.2 21 (by decide) (by decide)).trans d1
  have d12 : h2.1 21 = .inr (2, [.ref 22, .ref 24, .ref 26, .ref 28]) := (q2.2 21 (by decide) (by decide)).trans d11
  rw [E127 21 _ _ d1, ← e3]
  simp only [S127, gFs, pFs, okq, bls, bo_true, eUp_at, eUp_eUp, eKls, cl_some, Option.toList_some, Option.toList_none, List.cons_append, List.nil_append, d1', e1, d11, e2, d12]
def FRo (h : eH) : Prop := h.1 13 = .inr (4, [.ref 14, .ref 16, .ref 18])
/-- fractions: top, bottom and work of the result; they and the divider's numbers change -/
def FF (h h' : eH) : Prop := h'.2 = h.2 ∧ ∀ i, (i < 14 ∨ (19 < i ∧ i < 22) ∨ 29 < i) → h'.1 i = h.1 i
theorem FF.trans {h h' h'' : eH} (x : FF h h') (y : FF h' h'') : FF h h'' := ⟨y.1.trans x.1, fun i hi => (y.2 i hi).trans (x.2 i hi)⟩
theorem FD.ff {h h' : eH} (x : FD h h') : FF h h' := ⟨x.1, fun i hi => x.2 i (by omega)⟩
theorem F2.ff {a : Nat} {h h' : eH} (x : F2 a h h') (ha : (14 ≤ a ∧ a ≤ 18) ∨ (22 ≤ a ∧ a ≤ 28)) : FF h h' := ⟨x.1, fun i hi => x.2 i (by omega) (by omega)⟩
theorem F6.ff {r : Nat} {h h' : eH} (x : F6 r h h') (ha : (14 ≤ r ∧ r ≤ 18) ∨ (22 ≤ r ∧ r ≤ 28)) : FF h h' := ⟨x.1, fun i hi => x.2 i (by omega) (by omega) (by omega) (by omega) (by omega) (by omega)⟩
theorem d129 {h : eH} {a c : Nat} {x g : Int} (hF : FRo h) (hD : DD h) (w18 : WX h 18 36) (wa : WV h a 36 x) (wc : WV h c 36 g) (ha : a = 14 ∨ a = 16) (hc : c = 26 ∨ c = 28) (hx : x.natAbs < BB ^ 34) : ∃ h', den 129 [.ref 13, .ref a, .ref c, .ref 21] h = some (none, h') ∧ h'.2 = h.2 ∧ (∀ i, ¬ (18 ≤ i ∧ i ≤ 19) → ¬ (22 ≤ i ∧ i ≤ 25) → i ≠ a → i ≠ a + 1 → h'.1 i = h.1 i) ∧ WX h' 18 36 ∧ WX h' 22 36 ∧ WX h' 24 36 ∧ WV h' a 36 (x.tdiv g) ∧ h'.1 21 = h.1 21 := by
  obtain ⟨d1, d2, d3, d4, d5⟩ := hD
  obtain ⟨s8, b8, f8, w8⟩ := w18
  obtain ⟨fa0, wa1, wa3, -⟩ := id wa
  obtain ⟨h1, e1, q1, v1⟩ := d84 (a := 18) (b := a) (N := 36) (M := 36) (z := x) w8 wa (by omega) (by decide) (by omega) (by omega)
  obtain ⟨h2, e2, q2, v24, vq, z, vz, -⟩ := d120w (r := 18) (b0 := c) ((q1.2 21 (by decide) (by decide)).trans d1) (d2.kept q1 (by decide) (by decide) (by decide)) (d3.kept q1 (by decide) (by decide) (by decide)) v1 (wc.kept q1 (by omega) (by omega) (by omega)) (by omega) (by omega) (by omega) (by decide) hx
  have wa2 : WR h2 a 36 (nI (nd x.natAbs)) (sb x) fa0 := by
    have := wa1.kept q1 (by omega) (by omega) (by omega)
    exact ⟨(q2.2 a (by omega) (by omega) (by omega) (by omega) (by omega) (by omega)).trans this.1, (q2.2 (a + 1) (by omega) (by omega) (by omega) (by omega) (by omega) (by omega)).trans this.2⟩
  obtain ⟨-, -, vq3, -⟩ := id vq
  obtain ⟨h3, e3, q3, v3⟩ := d84 (a := a) (b := 22) (N := 36) (M := 36) (z := x.tdiv g) wa2 vq (by omega) (by decide) (by omega) vq3
  have d21 : h2.1 21 = h.1 21 := (q2.2 21 (by decide) (by decide) (by decide) (by decide) (by decide) (by decide)).trans (q1.2 21 (by decide) (by decide))
  refine ⟨h3, ?_, ?_, ?_, vz.x.kept q3 (by omega) (by omega) (by omega), vq.x.kept q3 (by omega) (by omega) (by omega), v24.kept q3 (by omega) (by omega) (by omega), v3, ?_⟩
  · have hF' := hF
    unfold FRo at hF'
    have hF1 : h1.1 13 = .inr (4, [.ref 14, .ref 16, .ref 18]) := (q1.2 13 (by decide) (by decide)).trans hF
    have d21' : h2.1 21 = .inr (2, [.ref 22, .ref 24, .ref 26, .ref 28]) := d21.trans d1
    rw [E129 13 _ _ _ hF]
    simp only [S129, gFs, pFs, okq, bls, bo_true, eUp_at, eUp_eUp, eKls, cl_some, Option.toList_some, Option.toList_none, List.cons_append, List.nil_append, hF', e1, hF1, e2, d21', e3]
  · exact q3.1.trans (q2.1.trans q1.1)
  · intro i h0 h1 h2 h3
    exact (q3.2 i h2 h3).trans ((q2.2 i (by omega) (by omega) (by omega) (by omega) (by omega) (by omega)).trans (q1.2 i (by omega) (by omega)))
  · exact (q3.2 21 (by omega) (by omega)).trans d21
