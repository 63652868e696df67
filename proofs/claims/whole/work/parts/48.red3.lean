/-! GRID: clearCell, reduce -/
def CB (C : Nat) (piv bot x f y : Int) : Prop := nd (piv * x).natAbs ≤ 36 ∧ nd (f * y).natAbs ≤ 36 ∧ (piv * x - f * y).natAbs < BB ^ 34 ∧ nd ((piv * x - f * y).tdiv bot).natAbs ≤ C
section GR5
variable {h : eH} {g H W C rows unk cols rank : Nat} {ld : Int32} {M : Nat → Nat → Int}
theorem d121_loop {r c0 : Nat} {piv fac bot : Int} (b : GB H W C rows cols) (hg : 42 ≤ g) (hr : r < rows) (hrk : rank < rows) (hrr : r ≠ rank) (hcb : ∀ c, c < cols → CB C piv bot (M r c) fac (M rank c)) : ∀ n c h, c + n = cols → GO h g H W C rows unk cols rank ld → DK h → WV h 30 36 piv → WV h 32 36 fac → WV h (g + 1) 36 bot → GC h g H W C rows cols (fun _ _ => True) (fun r' c' => if r' = r ∧ c' < c then (piv * M r c' - fac * M rank c').tdiv bot else M r' c') → ∃ h', ru 121 15 [some (.ref g), some (.int (nI r)), some (.int (nI c0)), some (.int (nI c))] [] h = some (none, h') ∧ FC g h h' ∧ DK h' ∧ GC h' g H W C rows cols (fun _ _ => True) (fun r' c' => if r' = r then (piv * M r c' - fac * M rank c').tdiv bot else M r' c') := by
  obtain ⟨b1, b2, b3, b4, b5, b6⟩ := id b
  intro n
  induction n with
  | zero =>
    intro c h hc o dk w30 w32 wb gc
    refine ⟨h, ?_, FC.refl _ _, dk, gc.mono (fun r' c' _ x2 x3 => ⟨trivial, ?_⟩)⟩
    · unfold GO at o
      rw [H121_15]
      simp only [S121, gFs, pFs, okq, bls, bo_true, eUp_at, eUp_eUp, eKls, cl_some, Option.toList_some, Option.toList_none, List.cons_append, List.nil_append, o]
      rw [if_pos (nI_le (by omega) (by omega))]
    · by_cases q : r' = r
      · rw [if_pos q, if_pos ⟨q, by omega⟩]
      · rw [if_neg q, if_neg (fun e => q e.1)]
  | succ n ih =>
    intro c h hc o dk w30 w32 wb gc
    obtain ⟨u1, u2, u3, u4⟩ := hcb c (by omega)
    obtain ⟨Mc, hMc⟩ : ∃ Mc : Nat → Nat → Int, Mc = fun r' c' => if r' = r ∧ c' < c then (piv * M r c' - fac * M rank c').tdiv bot else M r' c' := ⟨_, rfl⟩
    rw [← hMc] at gc
    have m1 : Mc r c = M r c := by rw [hMc]; exact if_neg (by omega)
    have m2 : Mc rank c = M rank c := by rw [hMc]; exact if_neg (by omega)
    have p35 : BB ^ 34 < BB ^ 35 := Nat.pow_lt_pow_right (by decide) (by decide)
    have st := d121_step (c0 := c0) o b hg dk w30 w32 wb gc (r := r) (c := c) trivial trivial hr hrk (by omega) hrr (by rw [m1]; exact u1) (by rw [m2]; exact u2) (by rw [m1, m2]; omega)
    rw [m1, m2] at st
    have fin : ∀ h1, FC g h h1 → DK h1 → WV h1 32 36 fac → GC h1 g H W C rows cols (fun _ _ => True) (fun r' c' => if r' = r ∧ c' < c + 1 then (piv * M r c' - fac * M rank c').tdiv bot else M r' c') → ru 121 15 [some (.ref g), some (.int (nI r)), some (.int (nI c0)), some (.int (nI c))] [] h = ru 121 15 [some (.ref g), some (.int (nI r)), some (.int (nI c0)), some (.int (nI (c + 1)))] [] h1 → ∃ h', ru 121 15 [some (.ref g), some (.int (nI r)), some (.int (nI c0)), some (.int (nI c))] [] h = some (none, h') ∧ FC g h h' ∧ DK h' ∧ GC h' g H W C rows cols (fun _ _ => True) (fun r' c' => if r' = r then (piv * M r c' - fac * M rank c').tdiv bot else M r' c') := by
      intro h1 fc1 dk1 w321 gc1 e1
      obtain ⟨h2, e2, fc2, r2⟩ := ih (c + 1) h1 (by omega) (o.k (fc1.2 g (by omega) (by omega) (by omega) (by omega))) dk1 (w30.keep (fc1.2 30 (by omega) (by omega) (by omega) (by omega)) (fc1.2 31 (by omega) (by omega) (by omega) (by omega))) w321 (wb.keep (fc1.2 (g + 1) (by omega) (by omega) (by omega) (by omega)) (fc1.2 (g + 2) (by omega) (by omega) (by omega) (by omega))) gc1
      exact ⟨h2, e1.trans e2, fc1.trans fc2, r2⟩
    rcases st with ⟨h1, e1, fc1, dk1, w321, gc1, z1, z2⟩ | ⟨h1, e1, fc1, dk1, w321, gc1, o1, -, wq⟩
    · refine fin h1 fc1 dk1 w321 (gc1.mono (fun r' c' _ x2 x3 => ⟨trivial, ?_⟩)) e1
      rw [hMc]
      show (if r' = r ∧ c' < c + 1 then (piv * M r c' - fac * M rank c').tdiv bot else M r' c') = (if r' = r ∧ c' < c then (piv * M r c' - fac * M rank c').tdiv bot else M r' c')
      by_cases q : r' = r ∧ c' < c
      · rw [if_pos q, if_pos ⟨q.1, by omega⟩]
      · rw [if_neg q]
        by_cases q' : r' = r ∧ c' < c + 1
        · rw [if_pos q']
          have : c' = c := by omega
          rw [this, q'.1, z1, Int.mul_zero]
          rcases z2 with z2 | z2
          · rw [z2, Int.mul_zero]; exact Int.zero_tdiv _
          · rw [z2, Int.zero_mul]; exact Int.zero_tdiv _
        · rw [if_neg q']
    · obtain ⟨h2, e2, fa, gc2⟩ := d114 (r := r) (c := c) o1 b gc1 (wq u3) (by decide) u4 hr (by omega) (by omega)
      refine fin h2 (fc1.trans fa.fc) (dk1.keep (fun i hi => fa.2 i (by omega) (by omega))) (w321.keep (fa.2 _ (by omega) (by omega)) (fa.2 _ (by omega) (by omega))) (gc2.mono (fun r' c' _ x2 x3 => ⟨trivial, ?_⟩)) (e1 h2 e2)
      unfold up2
      rw [hMc]
      by_cases q' : r' = r ∧ c' = c
      · rw [if_pos q', if_pos ⟨q'.1, by omega⟩, q'.2]
      · rw [if_neg q']
        show _ = (if r' = r ∧ c' < c then (piv * M r c' - fac * M rank c').tdiv bot else M r' c')
        by_cases q : r' = r ∧ c' < c
        · rw [if_pos q, if_pos ⟨q.1, by omega⟩]
        · rw [if_neg q, if_neg (by omega)]
theorem d121 {r c0 : Nat} {piv bot : Int} (o : GO h g H W C rows unk cols rank ld) (b : GB H W C rows cols) (hg : 42 ≤ g) (dk : DK h) (w30 : WV h 30 36 piv) (wb : WV h (g + 1) 36 bot) (gc : GC h g H W C rows cols (fun _ _ => True) M) (hr : r < rows) (hrk : rank < rows) (hrr : r ≠ rank) (hc0 : c0 < cols) (hcb : ∀ c, c < cols → CB C piv bot (M r c) (M r c0) (M rank c)) : ∃ h', den 121 [.ref g, .int (nI r), .int (nI c0)] h = some (none, h') ∧ FC g h h' ∧ DK h' ∧ GC h' g H W C rows cols (fun _ _ => True) (fun r' c' => if r' = r then (piv * M r c' - M r c0 * M rank c').tdiv bot else M r' c') := by
  obtain ⟨b1, b2, b3, b4, b5, b6⟩ := id b
  obtain ⟨k0, k1, k2, k3, k4, k5, k6, k7, k8⟩ := id dk
  have t1 := gc.fit (r := r) (c := c0) trivial hr hc0
  obtain ⟨h1, e1, f1, w1, o1, g1⟩ := d86c (a := 32) (N := 36) (r := r) (c := c0) o b gc trivial k4 (by decide) (by omega) hr hc0 (by omega)
  have dk1 := dk.k2 f1 (by decide) w1.x
  obtain ⟨h2, e2, fc2, r2⟩ := d121_loop (c0 := c0) (M := M) b hg hr hrk hrr hcb cols 0 h1 (by omega) o1 dk1 (w30.kept f1 (by decide) (by decide) (by decide)) w1 (wb.kept f1 (by omega) (by omega) (by omega)) (g1.mono (fun r' c' _ x2 x3 => ⟨trivial, if_neg (by omega)⟩))
  refine ⟨h2, ?_, (f1.fc (by decide)).trans fc2, r2⟩
  have oo := o
  unfold GO at oo
  rw [E121 g _ _ o, ← e2]
  simp only [S121, gFs, pFs, okq, bls, bo_true, eUp_at, eUp_eUp, eKls, cl_some, Option.toList_some, Option.toList_none, List.cons_append, List.nil_append, oo, k0, e1]
theorem d121r {X : Nat → Nat → Prop} {c0 : Nat} (o : GO h g H W C rows unk cols rank ld) (b : GB H W C rows cols) (hg : 42 ≤ g) (dk : DK h) (gc : GC h g H W C rows cols X M) (hx : X rank c0) (hrk : rank < rows) (hc0 : c0 < cols) : ∃ h', den 121 [.ref g, .int (nI rank), .int (nI c0)] h = some (none, h') ∧ FC g h h' ∧ DK h' ∧ GC h' g H W C rows cols X M := by
  obtain ⟨b1, b2, b3, b4, b5, b6⟩ := id b
  obtain ⟨k0, k1, k2, k3, k4, k5, k6, k7, k8⟩ := id dk
  have t1 := gc.fit hx hrk hc0
  obtain ⟨h1, e1, f1, w1, o1, g1⟩ := d86c (a := 32) (N := 36) (r := rank) (c := c0) o b gc hx k4 (by decide) (by omega) hrk hc0 (by omega)
  refine ⟨h1, ?_, f1.fc (by decide), dk.k2 f1 (by decide) w1.x, g1⟩
  have oo := o
  unfold GO at oo
  have oo1 := o1
  unfold GO at oo1
  rw [E121 g _ _ o]
  simp only [S121, gFs, pFs, okq, bls, bo_true, eUp_at, eUp_eUp, eKls, cl_some, Option.toList_some, Option.toList_none, List.cons_append, List.nil_append, oo, k0, e1]
  rw [H121_15]
  simp only [S121, gFs, pFs, okq, bls, bo_true, eUp_at, eUp_eUp, eKls, cl_some, Option.toList_some, Option.toList_none, List.cons_append, List.nil_append, oo1]
  rw [if_neg (nI_ge (by omega) (by omega)), if_pos trivial]
/-- the clearing whose cells nobody reads: the rows below stay as they are -/
theorem d121x_loop {r c0 : Nat} {piv fac bot : Int} (b : GB H W C rows cols) (hg : 42 ≤ g) (hrk : rank < rows) (hrr : r < rank) (hcb : ∀ c, c < cols → nd (piv * M r c).natAbs ≤ 36 ∧ nd (fac * M rank c).natAbs ≤ 36 ∧ (piv * M r c - fac * M rank c).natAbs < BB ^ 35) : ∀ n c h, c + n = cols → GO h g H W C rows unk cols rank ld → DK h → WV h 30 36 piv → WV h 32 36 fac → WV h (g + 1) 36 bot → GC h g H W C rows cols (fun r' c' => r < r' ∨ (r' = r ∧ c ≤ c')) M → ∃ h', ru 121 15 [some (.ref g), some (.int (nI r)), some (.int (nI c0)), some (.int (nI c))] [] h = some (none, h') ∧ FC g h h' ∧ DK h' ∧ GC h' g H W C rows cols (fun r' _ => r + 1 ≤ r') M := by
  obtain ⟨b1, b2, b3, b4, b5, b6⟩ := id b
  intro n
  induction n with
  | zero =>
    intro c h hc o dk w30 w32 wb gc
    refine ⟨h, ?_, FC.refl _ _, dk, gc.mono (fun r' c' x1 x2 x3 => ⟨Or.inl x1, rfl⟩)⟩
    unfold GO at o
    rw [H121_15]
    simp only [S121, gFs, pFs, okq, bls, bo_true, eUp_at, eUp_eUp, eKls, cl_some, Option.toList_some, Option.toList_none, List.cons_append, List.nil_append, o]
    rw [if_pos (nI_le (by omega) (by omega))]
  | succ n ih =>
    intro c h hc o dk w30 w32 wb gc
    obtain ⟨u1, u2, u3⟩ := hcb c (by omega)
    have st := d121_step (c0 := c0) o b hg dk w30 w32 wb gc (r := r) (c := c) (Or.inr ⟨rfl, Nat.le_refl _⟩) (Or.inl hrr) (by omega) hrk (by omega) (by omega) u1 u2 u3
    have fin : ∀ h1, FC g h h1 → DK h1 → WV h1 32 36 fac → GC h1 g H W C rows cols (fun r' c' => r < r' ∨ (r' = r ∧ c + 1 ≤ c')) M → ru 121 15 [some (.ref g), some (.int (nI r)), some (.int (nI c0)), some (.int (nI c))] [] h = ru 121 15 [some (.ref g), some (.int (nI r)), some (.int (nI c0)), some (.int (nI (c + 1)))] [] h1 → ∃ h', ru 121 15 [some (.ref g), some (.int (nI r)), some (.int (nI c0)), some (.int (nI c))] [] h = some (none, h') ∧ FC g h h' ∧ DK h' ∧ GC h' g H W C rows cols (fun r' _ => r + 1 ≤ r') M := by
      intro h1 fc1 dk1 w321 gc1 e1
      obtain ⟨h2, e2, fc2, r2⟩ := ih (c + 1) h1 (by omega) (o.k (fc1.2 g (by omega) (by omega) (by omega) (by omega))) dk1 (w30.keep (fc1.2 30 (by omega) (by omega) (by omega) (by omega)) (fc1.2 31 (by omega) (by omega) (by omega) (by omega))) w321 (wb.keep (fc1.2 (g + 1) (by omega) (by omega) (by omega) (by omega)) (fc1.2 (g + 2) (by omega) (by omega) (by omega) (by omega))) gc1
      exact ⟨h2, e1.trans e2, fc1.trans fc2, r2⟩
    rcases st with ⟨h1, e1, fc1, dk1, w321, gc1, z1, z2⟩ | ⟨h1, e1, fc1, dk1, w321, gc1, o1, ⟨n1, bl1, ff1, w22, hn1, hb1⟩, wq⟩
    · exact fin h1 fc1 dk1 w321 (gc1.mono (fun r' c' x1 x2 x3 => ⟨by omega, rfl⟩)) e1
    · obtain ⟨h2, e2, fa, gc2⟩ := d114x (r := r) (c := c) o1 b gc1 w22 (by decide) hn1 hb1 (by omega) (by omega) (by omega)
      exact fin h2 (fc1.trans fa.fc) (dk1.keep (fun i hi => fa.2 i (by omega) (by omega))) (w321.keep (fa.2 _ (by omega) (by omega)) (fa.2 _ (by omega) (by omega))) (gc2.mono (fun r' c' x1 x2 x3 => ⟨⟨by omega, by omega⟩, rfl⟩)) (e1 h2 e2)
theorem d121x {r c0 : Nat} {piv bot : Int} (o : GO h g H W C rows unk cols rank ld) (b : GB H W C rows cols) (hg : 42 ≤ g) (dk : DK h) (w30 : WV h 30 36 piv) (wb : WV h (g + 1) 36 bot) (gc : GC h g H W C rows cols (fun r' _ => r ≤ r') M) (hrk : rank < rows) (hrr : r < rank) (hc0 : c0 < cols) (hcb : ∀ c, c < cols → nd (piv * M r c).natAbs ≤ 36 ∧ nd (M r c0 * M rank c).natAbs ≤ 36 ∧ (piv * M r c - M r c0 * M rank c).natAbs < BB ^ 35) : ∃ h', den 121 [.ref g, .int (nI r), .int (nI c0)] h = some (none, h') ∧ FC g h h' ∧ DK h' ∧ GC h' g H W C rows cols (fun r' _ => r + 1 ≤ r') M := by
  obtain ⟨b1, b2, b3, b4, b5, b6⟩ := id b
  obtain ⟨k0, k1, k2, k3, k4, k5, k6, k7, k8⟩ := id dk
  have t1 := gc.fit (r := r) (c := c0) (Nat.le_refl _) (by omega) hc0
  obtain ⟨h1, e1, f1, w1, o1, g1⟩ := d86c (a := 32) (N := 36) (r := r) (c := c0) o b gc (Nat.le_refl _) k4 (by decide) (by omega) (by omega) hc0 (by omega)
  have dk1 := dk.k2 f1 (by decide) w1.x
  obtain ⟨h2, e2, fc2, r2⟩ := d121x_loop (c0 := c0) (M := M) b hg hrk hrr hcb cols 0 h1 (by omega) o1 dk1 (w30.kept f1 (by decide) (by decide) (by decide)) w1 (wb.kept f1 (by omega) (by omega) (by omega)) (g1.mono (fun r' c' x1 x2 x3 => ⟨by omega, rfl⟩))
  refine ⟨h2, ?_, (f1.fc (by decide)).trans fc2, r2⟩
  have oo := o
  unfold GO at oo
  rw [E121 g _ _ o, ← e2]
  simp only [S121, gFs, pFs, okq, bls, bo_true, eUp_at, eUp_eUp, eKls, cl_some, Option.toList_some, Option.toList_none, List.cons_append, List.nil_append, oo, k0, e1]
end GR5
