/-! GRID: swapRows, clearCell -/
theorem GO.k {h h' : eH} {g H W C rows unk cols rank : Nat} {ld : Int32} (o : GO h g H W C rows unk cols rank ld) (e : h'.1 g = h.1 g) : GO h' g H W C rows unk cols rank ld := e.trans o
theorem GC.fit {h : eH} {g H W C rows cols : Nat} {X : Nat → Nat → Prop} {M : Nat → Nat → Int} (x : GC h g H W C rows cols X M) {r c : Nat} (hx : X r c) (hr : r < rows) (hc : c < cols) : nd (M r c).natAbs ≤ C := by
  obtain ⟨P, Z, ga, q⟩ := x
  exact (q r c hx hr hc).1
section GR4
variable {h : eH} {g H W C rows unk cols rank : Nat} {ld : Int32} {M : Nat → Nat → Int}
theorem d86c {X : Nat → Nat → Prop} {a N r c : Nat} (o : GO h g H W C rows unk cols rank ld) (b : GB H W C rows cols) (gc : GC h g H W C rows cols X M) (hx : X r c) (w : WX h a N) (hN : N ≤ 36) (hfit : nd (M r c).natAbs ≤ N) (hr : r < rows) (hc : c < cols) (hag : a + 1 < g ∨ g + 5 < a) : ∃ h', den 86 [.ref g, .ref a, .int (nI r), .int (nI c)] h = some (none, h') ∧ F2 a h h' ∧ WV h' a N (M r c) ∧ GO h' g H W C rows unk cols rank ld ∧ GC h' g H W C rows cols X M := by
  have gc0 := gc
  obtain ⟨P, Z, ga, q⟩ := gc
  obtain ⟨h', e, f2, w'⟩ := d86 o b ga (q r c hx hr hc) w hN hfit hr hc hag
  exact ⟨h', e, f2, w', o.k (f2.2 g (by omega) (by omega)), gc0.k (f2.2 _ (by omega) (by omega)) (f2.2 _ (by omega) (by omega))⟩
theorem d115_step {a bb c : Nat} (o : GO h g H W C rows unk cols rank ld) (b : GB H W C rows cols) (hg : 42 ≤ g) (dk : DK h) (gc : GC h g H W C rows cols (fun _ _ => True) (fun r' c' => if c' < c then sw M a bb r' c' else M r' c')) (ha : a < rows) (hb : bb < rows) (hab : a ≠ bb) (hc : c < cols) : ∃ h', ru 115 2 [some (.ref g), some (.int (nI a)), some (.int (nI bb)), some (.int (nI c))] [] h = ru 115 2 [some (.ref g), some (.int (nI a)), some (.int (nI bb)), some (.int (nI (c + 1)))] [] h' ∧ FC g h h' ∧ DK h' ∧ GO h' g H W C rows unk cols rank ld ∧ GC h' g H W C rows cols (fun _ _ => True) (fun r' c' => if c' < c + 1 then sw M a bb r' c' else M r' c') := by
  obtain ⟨b1, b2, b3, b4, b5, b6⟩ := id b
  obtain ⟨k0, k1, k2, k3, k4, k5, k6, k7, k8⟩ := id dk
  have t1 := gc.fit (r := a) (c := c) trivial ha hc
  have t2 := gc.fit (r := bb) (c := c) trivial hb hc
  obtain ⟨h1, e1, f1, w1, o1, g1⟩ := d86c (a := 34) (N := 36) (r := a) (c := c) o b gc trivial k5 (by decide) (by omega) ha hc (by omega)
  have dk1 := dk.k2 f1 (by decide) w1.x
  obtain ⟨-, -, -, -, -, -, k6', -, -⟩ := id dk1
  obtain ⟨h2, e2, f2, w2, o2, g2⟩ := d86c (a := 36) (N := 36) (r := bb) (c := c) o1 b g1 trivial k6' (by decide) (by omega) hb hc (by omega)
  have dk2 := dk1.k2 f2 (by decide) w2.x
  have w1' := w1.kept f2 (by decide) (by decide) (by decide)
  rw [if_neg (Nat.lt_irrefl c)] at w1' w2 t1 t2
  obtain ⟨h3, e3, f3, g3⟩ := d114 (r := a) (c := c) o2 b g2 w2 (by decide) t2 ha hc (by omega)
  have o3 := o2.k (f3.2 g (by omega) (by omega))
  have w1'' := w1'.keep (f3.2 34 (by omega) (by omega)) (f3.2 35 (by omega) (by omega))
  obtain ⟨h4, e4, f4, g4⟩ := d114 (r := bb) (c := c) o3 b g3 w1'' (by decide) t1 hb hc (by omega)
  have o4 := o3.k (f4.2 g (by omega) (by omega))
  have k01 : h1.1 20 = .inr (1, [.ref 21, .ref 30, .ref 32, .ref 34, .ref 36, .ref 38, .ref 40]) := dk1.1
  have k02 : h2.1 20 = .inr (1, [.ref 21, .ref 30, .ref 32, .ref 34, .ref 36, .ref 38, .ref 40]) := dk2.1
  have k03 : h3.1 20 = .inr (1, [.ref 21, .ref 30, .ref 32, .ref 34, .ref 36, .ref 38, .ref 40]) := (f3.2 20 (by omega) (by omega)).trans dk2.1
  refine ⟨h4, ?_, (f1.fc (by decide)).trans ((f2.fc (by decide)).trans (f3.fc.trans f4.fc)), dk2.keep (fun i hi => (f4.2 i (by omega) (by omega)).trans (f3.2 i (by omega) (by omega))), o4, g4.mono (fun r' c' _ x2 x3 => ⟨trivial, ?_⟩)⟩
  · rw [H115_2]
    have oo := o
    have oo1 := o1
    have oo2 := o2
    have oo3 := o3
    unfold GO at oo oo1 oo2 oo3
    simp only [S115, gFs, pFs, okq, bls, bo_true, eUp_at, eUp_eUp, eKls, cl_some, Option.toList_some, Option.toList_none, List.cons_append, List.nil_append, oo]
    rw [if_neg (nI_ge hc (by omega)), if_neg (fun e => hab ((nI_eq (by omega) (by omega)).mp e))]
    simp only [S115, gFs, pFs, okq, bls, bo_true, eUp_at, eUp_eUp, eKls, cl_some, Option.toList_some, Option.toList_none, List.cons_append, List.nil_append, oo, k0, e1, oo1, k01, e2, oo2, k02, e3, oo3, k03, e4]
    rw [nI_1]
  · unfold up2
    by_cases q1 : r' = bb ∧ c' = c
    · rw [if_pos q1, if_pos (by omega)]
      unfold sw
      rw [q1.1, q1.2, if_neg (Ne.symm hab), if_pos rfl]
    · rw [if_neg q1]
      by_cases q2 : r' = a ∧ c' = c
      · rw [if_pos q2, if_pos (by omega)]
        unfold sw
        rw [q2.1, q2.2, if_pos rfl]
      · rw [if_neg q2]
        show _ = (if c' < c then sw M a bb r' c' else M r' c')
        by_cases q3 : c' < c
        · rw [if_pos q3, if_pos (by omega)]
        · rw [if_neg q3]
          by_cases q4 : c' = c
          · rw [if_pos (by omega)]
            unfold sw
            rw [if_neg (by omega), if_neg (by omega)]
          · rw [if_neg (by omega)]
theorem d115_loop {a bb : Nat} (b : GB H W C rows cols) (hg : 42 ≤ g) (ha : a < rows) (hb : bb < rows) (hab : a ≠ bb) : ∀ n c h, c + n = cols → GO h g H W C rows unk cols rank ld → DK h → GC h g H W C rows cols (fun _ _ => True) (fun r' c' => if c' < c then sw M a bb r' c' else M r' c') → ∃ h', ru 115 2 [some (.ref g), some (.int (nI a)), some (.int (nI bb)), some (.int (nI c))] [] h = some (none, h') ∧ FC g h h' ∧ DK h' ∧ GO h' g H W C rows unk cols rank ld ∧ GC h' g H W C rows cols (fun _ _ => True) (sw M a bb) := by
  obtain ⟨b1, b2, b3, b4, b5, b6⟩ := id b
  intro n
  induction n with
  | zero =>
    intro c h hc o dk gc
    refine ⟨h, ?_, FC.refl _ _, dk, o, gc.mono (fun r' c' _ x2 x3 => ⟨trivial, ?_⟩)⟩
    · unfold GO at o
      rw [H115_2]
      simp only [S115, gFs, pFs, okq, bls, bo_true, eUp_at, eUp_eUp, eKls, cl_some, Option.toList_some, Option.toList_none, List.cons_append, List.nil_append, o]
      rw [if_pos (nI_le (by omega) (by omega))]
    · rw [if_pos (by omega)]
  | succ n ih =>
    intro c h hc o dk gc
    obtain ⟨h1, e1, f1, dk1, o1, g1⟩ := d115_step o b hg dk gc ha hb hab (by omega)
    obtain ⟨h2, e2, f2, r⟩ := ih (c + 1) h1 (by omega) o1 dk1 g1
    exact ⟨h2, e1.trans e2, f1.trans f2, r⟩
theorem d115 {a bb : Nat} (o : GO h g H W C rows unk cols rank ld) (b : GB H W C rows cols) (hg : 42 ≤ g) (dk : DK h) (gc : GC h g H W C rows cols (fun _ _ => True) M) (ha : a < rows) (hb : bb < rows) : ∃ h', den 115 [.ref g, .int (nI a), .int (nI bb)] h = some (none, h') ∧ FC g h h' ∧ DK h' ∧ GO h' g H W C rows unk cols rank ld ∧ GC h' g H W C rows cols (fun _ _ => True) (sw M a bb) := by
  obtain ⟨b1, b2, b3, b4, b5, b6⟩ := id b
  by_cases hab : a = bb
  · refine ⟨h, ?_, FC.refl _ _, dk, o, gc.mono (fun r' c' _ x2 x3 => ⟨trivial, ?_⟩)⟩
    · have oo := o
      unfold GO at oo
      rw [E115 g _ _ o]
      simp only [S115, gFs, pFs, okq, bls, bo_true, eUp_at, eUp_eUp, eKls, cl_some, Option.toList_some, Option.toList_none, List.cons_append, List.nil_append]
      rw [H115_2]
      simp only [S115, gFs, pFs, okq, bls, bo_true, eUp_at, eUp_eUp, eKls, cl_some, Option.toList_some, Option.toList_none, List.cons_append, List.nil_append, oo]
      by_cases h0 : cols = 0
      · rw [if_pos (nI_le (by omega) (by omega))]
      · rw [if_neg (nI_ge (by omega) (by omega)), if_pos (by rw [hab])]
    · unfold sw
      by_cases q : r' = a
      · rw [if_pos q, ← hab, q]
      · rw [if_neg q, if_neg (by omega)]
  · obtain ⟨h', e, r⟩ := d115_loop (M := M) b hg ha hb hab cols 0 h (by omega) o dk (gc.mono (fun r' c' _ x2 x3 => ⟨trivial, if_neg (by omega)⟩))
    refine ⟨h', ?_, r⟩
    rw [E115 g _ _ o, ← e]
    simp only [S115, gFs, pFs, okq, bls, bo_true, eUp_at, eUp_eUp, eKls, cl_some, Option.toList_some, Option.toList_none, List.cons_append, List.nil_append]
theorem d121_step {X : Nat → Nat → Prop} {r c c0 : Nat} {piv fac bot : Int} (o : GO h g H W C rows unk cols rank ld) (b : GB H W C rows cols) (hg : 42 ≤ g) (dk : DK h) (w30 : WV h 30 36 piv) (w32 : WV h 32 36 fac) (wb : WV h (g + 1) 36 bot) (gc : GC h g H W C rows cols X M) (x1 : X r c) (x2 : X rank c) (hr : r < rows) (hrk : rank < rows) (hc : c < cols) (hrr : r ≠ rank) (b1 : nd (piv * M r c).natAbs ≤ 36) (b2 : nd (fac * M rank c).natAbs ≤ 36) (b3 : (piv * M r c - fac * M rank c).natAbs < BB ^ 35) :
    (∃ h', ru 121 15 [some (.ref g), some (.int (nI r)), some (.int (nI c0)), some (.int (nI c))] [] h = ru 121 15 [some (.ref g), some (.int (nI r)), some (.int (nI c0)), some (.int (nI (c + 1)))] [] h' ∧ FC g h h' ∧ DK h' ∧ WV h' 32 36 fac ∧ GC h' g H W C rows cols X M ∧ M r c = 0 ∧ (M rank c = 0 ∨ fac = 0)) ∨
    (∃ h', (∀ h'', den 114 [.ref g, .int (nI r), .int (nI c), .ref 22] h' = some (none, h'') → ru 121 15 [some (.ref g), some (.int (nI r)), some (.int (nI c0)), some (.int (nI c))] [] h = ru 121 15 [some (.ref g), some (.int (nI r)), some (.int (nI c0)), some (.int (nI (c + 1)))] [] h'') ∧ FC g h h' ∧ DK h' ∧ WV h' 32 36 fac ∧ GC h' g H W C rows cols X M ∧ GO h' g H W C rows unk cols rank ld ∧ (∃ n b f, WR h' 22 36 (nI n) b f ∧ n ≤ 36 ∧ (b = 0 ∨ b = 1)) ∧ ((piv * M r c - fac * M rank c).natAbs < BB ^ 34 → WV h' 22 36 ((piv * M r c - fac * M rank c).tdiv bot))) := by
  obtain ⟨q1, q2, q3, q4, q5, q6⟩ := id b
  obtain ⟨k0, k1, k2, k3, k4, k5, k6, k7, k8⟩ := id dk
  have t1 := gc.fit x1 hr hc
  have t2 := gc.fit x2 hrk hc
  obtain ⟨h1, e1, f1, w1, o1, g1⟩ := d86c (a := 34) (N := 36) (r := r) (c := c) o b gc x1 k5 (by decide) (by omega) hr hc (by omega)
  have dk1 := dk.k2 f1 (by decide) w1.x
  obtain ⟨-, -, -, -, -, -, k6', -, -⟩ := id dk1
  obtain ⟨h2, e2, f2, w2, o2, g2⟩ := d86c (a := 36) (N := 36) (r := rank) (c := c) o1 b g1 x2 k6' (by decide) (by omega) hrk hc (by omega)
  have dk2 := dk1.k2 f2 (by decide) w2.x
  have w1' := w1.kept f2 (by decide) (by decide) (by decide)
  have w32' := (w32.kept f1 (by decide) (by decide) (by decide)).kept f2 (by decide) (by decide) (by decide)
  have w30' := (w30.kept f1 (by decide) (by decide) (by decide)).kept f2 (by decide) (by decide) (by decide)
  have wb' := (wb.kept f1 (by omega) (by omega) (by omega)).kept f2 (by omega) (by omega) (by omega)
  have k01 : h1.1 20 = .inr (1, [.ref 21, .ref 30, .ref 32, .ref 34, .ref 36, .ref 38, .ref 40]) := dk1.1
  have k02 : h2.1 20 = .inr (1, [.ref 21, .ref 30, .ref 32, .ref 34, .ref 36, .ref 38, .ref 40]) := dk2.1
  have fc2 : FC g h h2 := (f1.fc (by decide)).trans (f2.fc (by decide))
  obtain ⟨u1, v1, -, -⟩ := id w1'
  obtain ⟨u2, v2, -, -⟩ := id w2
  obtain ⟨u3, v3, -, -⟩ := id w32'
  have oo := o
  have oo1 := o1
  have oo2 := o2
  unfold GO at oo oo1 oo2
  have nz : ∀ z : Int, nd z.natAbs ≤ 36 → (nI (nd z.natAbs) ≤ 0 ↔ z = 0) := by
    intro z hz
    rw [show (0 : Int32) = nI 0 from rfl, nI_leI (by omega) (by decide)]
    constructor
    · intro e; exact natAbs0 (by omega)
    · intro e; rw [e, Int.natAbs_zero, nd_0]; exact Nat.le_refl _
  have nzp : ∀ z : Int, nd z.natAbs ≤ 36 → (0 < nI (nd z.natAbs) ↔ z ≠ 0) := by
    intro z hz
    rw [← Int32.not_le, nz z hz]
  have t3 : nd fac.natAbs ≤ 36 := w32'.choose_spec.2.1
  by_cases hgo : M r c = 0 ∧ (M rank c = 0 ∨ fac = 0)
  · refine Or.inl ⟨h2, ?_, fc2, dk2, w32', g2, hgo⟩
    rw [H121_15]
    simp only [S121, gFs, pFs, okq, bls, bo_true, eUp_at, eUp_eUp, eKls, cl_some, Option.toList_some, Option.toList_none, List.cons_append, List.nil_append, oo]
    rw [if_neg (nI_ge hc (by omega)), if_neg (fun e => hrr ((nI_eq (by omega) (by omega)).mp e))]
    simp only [S121, gFs, pFs, okq, bls, bo_true, eUp_at, eUp_eUp, eKls, cl_some, Option.toList_some, Option.toList_none, List.cons_append, List.nil_append, oo, k0, e1, oo1, k01, e2, oo2, k02, v1.1, v2.1, v3.1]
    rw [if_neg (fun e => (nzp _ (by omega)).mp e hgo.1)]
    by_cases ha0 : M rank c = 0
    · rw [if_pos ((nz _ (by omega)).mpr ha0), nI_1]
    · rw [if_neg (fun e => ha0 ((nz _ (by omega)).mp e)), if_pos ((nz _ t3).mpr (hgo.2.resolve_left ha0)), nI_1]
  · obtain ⟨-, l1, l2, l3, -, -, -, ⟨s7, c7, f7, w7⟩, ⟨s8, c8, f8, w8⟩⟩ := id dk2
    obtain ⟨h3, e3, f3, w3⟩ := d96 (a := 38) (p := 30) (q := 34) w7 w30' w1' (by decide) (by decide) (by decide) (by decide) (by decide) b1
    have dk3 := dk2.k2 f3 (by decide) w3.x
    obtain ⟨h4, e4, f4, w4⟩ := d96 (a := 40) (p := 32) (q := 36) (w8.kept f3 (by decide) (by decide) (by decide)) (w32'.kept f3 (by decide) (by decide) (by decide)) (w2.kept f3 (by decide) (by decide) (by decide)) (by decide) (by decide) (by decide) (by decide) (by decide) b2
    have dk4 := dk3.k2 f4 (by decide) w4.x
    have p35 : BB ^ 35 < BB ^ 36 := Nat.pow_lt_pow_right (by decide) (by decide)
    obtain ⟨h5, e5, f5, w5⟩ := d99 (a := 38) (b := 40) (w3.kept f4 (by decide) (by decide) (by decide)) w4 (by decide) (by decide) (by decide) true (z := piv * M r c - fac * M rank c) (by rw [if_pos rfl]) (by rw [nd_le]; omega)
    rw [if_pos rfl] at e5
    have dk5 := dk4.k2 f5 (by decide) w5.x
    obtain ⟨k05, k15, k25, k35, -⟩ := id dk5
    have wb5 := ((wb'.kept f3 (by omega) (by omega) (by omega)).kept f4 (by omega) (by omega) (by omega)).kept f5 (by omega) (by omega) (by omega)
    obtain ⟨h6, e6, f6, m1, m2, m3, m4⟩ := d120m (r := 38) (b0 := g + 1) k15 k25 k35 w5 wb5 (by decide) (by omega) (by omega) (by decide) b3
    have k6 : ∀ i, 26 ≤ i → i ≠ 38 → i ≠ 39 → h6.1 i = h5.1 i := fun i i1 i2 i3 => f6.2 i (by omega) (by omega) (by omega) (by omega) i2 i3
    have k06 : h6.1 20 = .inr (1, [.ref 21, .ref 30, .ref 32, .ref 34, .ref 36, .ref 38, .ref 40]) := (f6.2 20 (by decide) (by decide) (by decide) (by decide) (by decide) (by decide)).trans k05
    have k16 : h6.1 21 = .inr (2, [.ref 22, .ref 24, .ref 26, .ref 28]) := (f6.2 21 (by decide) (by decide) (by decide) (by decide) (by decide) (by decide)).trans k15
    have fc6 : FC g h2 h6 := (f3.fc (by decide)).trans ((f4.fc (by decide)).trans ((f5.fc (by decide)).trans f6.fc))
    have dk6 : DK h6 := by
      obtain ⟨-, -, -, -, l4, l5, l6, l7, l8⟩ := id dk5
      obtain ⟨n22, b22, f22, w22, -, -⟩ := m2
      exact ⟨k06, k16, ⟨_, _, _, w22⟩, m1, l4.keep (k6 _ (by decide) (by decide) (by decide)) (k6 _ (by decide) (by decide) (by decide)), l5.keep (k6 _ (by decide) (by decide) (by decide)) (k6 _ (by decide) (by decide) (by decide)), l6.keep (k6 _ (by decide) (by decide) (by decide)) (k6 _ (by decide) (by decide) (by decide)), m3, l8.keep (k6 _ (by decide) (by decide) (by decide)) (k6 _ (by decide) (by decide) (by decide))⟩
    have o3 := o2.k (f3.2 g (by omega) (by omega))
    have o4 := o3.k (f4.2 g (by omega) (by omega))
    have o5 := o4.k (f5.2 g (by omega) (by omega))
    have o6 := o5.k (k6 g (by omega) (by omega) (by omega))
    have w32f := (((w32'.kept f3 (by decide) (by decide) (by decide)).kept f4 (by decide) (by decide) (by decide)).kept f5 (by decide) (by decide) (by decide)).keep (k6 32 (by decide) (by decide) (by decide)) (k6 33 (by decide) (by decide) (by decide))
    have gk : ∀ i, 42 ≤ i → h6.1 i = h2.1 i := fun i hi => (k6 i (by omega) (by omega) (by omega)).trans ((f5.2 i (by omega) (by omega)).trans ((f4.2 i (by omega) (by omega)).trans (f3.2 i (by omega) (by omega))))
    refine Or.inr ⟨h6, ?_, fc2.trans fc6, dk6, w32f, g2.k (gk _ (by omega)) (gk _ (by omega)), o6, m2, m4⟩
    intro h7 e7
    have k03 : h3.1 20 = .inr (1, [.ref 21, .ref 30, .ref 32, .ref 34, .ref 36, .ref 38, .ref 40]) := dk3.1
    have k04 : h4.1 20 = .inr (1, [.ref 21, .ref 30, .ref 32, .ref 34, .ref 36, .ref 38, .ref 40]) := dk4.1
    unfold GO at o3 o4 o5 o6
    rw [H121_15]
    simp only [S121, gFs, pFs, okq, bls, bo_true, eUp_at, eUp_eUp, eKls, cl_some, Option.toList_some, Option.toList_none, List.cons_append, List.nil_append, oo]
    rw [if_neg (nI_ge hc (by omega)), if_neg (fun e => hrr ((nI_eq (by omega) (by omega)).mp e))]
    simp only [S121, gFs, pFs, okq, bls, bo_true, eUp_at, eUp_eUp, eKls, cl_some, Option.toList_some, Option.toList_none, List.cons_append, List.nil_append, oo, k0, e1, oo1, k01, e2, oo2, k02, v1.1, v2.1, v3.1, e3, o3, k03, e4, o4, k04, e5, o5, k05, e6, o6, k06, k16, e7]
    by_cases hh : M r c = 0
    · rw [if_neg (fun e => (nzp _ (by omega)).mp e hh), if_neg (fun e => hgo ⟨hh, Or.inl ((nz _ (by omega)).mp e)⟩), if_neg (fun e => hgo ⟨hh, Or.inr ((nz _ t3).mp e)⟩), nI_1]
    · rw [if_pos ((nzp _ (by omega)).mpr hh), nI_1]
end GR4
