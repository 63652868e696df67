/-! GRID: reduce, whole -/
section GR7
variable {h : eH} {g H W C rows unk cols rank : Nat} {ld : Int32} {s : RS} {N : Nat → Nat → Int}
theorem d122_rows {c f : Nat} {piv bot : Int} (b : GB H W C rows cols) (hg : 42 ≤ g) (hrk : rank < rows) (hc : c < cols) (hcb : ∀ r c', r < rows → r ≠ rank → c' < cols → CB C piv bot (N r c') (N r c) (N rank c')) : ∀ n r h, r + n = rows → DK h → WV h 30 36 piv → GO h g H W C rows unk cols rank ld → WV h (g + 1) 36 bot → GC h g H W C rows cols (fun _ _ => True) (fun r' c' => if r' < r then clr N rank c piv bot r' c' else N r' c') → ∃ h', ru 122 119 [some (.ref g), some (.int (nI c)), some (.int (nI f)), some (.int (nI r))] [] h = ru 122 139 [some (.ref g), some (.int (nI c)), some (.int (nI f)), some (.int (nI rows))] [] h' ∧ FC g h h' ∧ DK h' ∧ GC h' g H W C rows cols (fun _ _ => True) (clr N rank c piv bot) := by
  obtain ⟨b1, b2, b3, b4, b5, b6⟩ := id b
  intro n
  induction n with
  | zero =>
    intro r h hr dk w30 o wb gc
    have : r = rows := by omega
    subst this
    refine ⟨h, ?_, FC.refl _ _, dk, gc.mono (fun r' c' _ x2 x3 => ⟨trivial, ?_⟩)⟩
    · unfold GO at o
      rw [H122_119]
      simp only [S122, gFs, pFs, okq, bls, bo_true, eUp_at, eUp_eUp, eKls, cl_some, Option.toList_some, Option.toList_none, List.cons_append, List.nil_append, o]
      rw [if_pos (nI_le (Nat.le_refl _) (by omega))]
    · rw [if_pos x2]
  | succ n ih =>
    intro r h hr dk w30 o wb gc
    obtain ⟨Mc, hMc⟩ : ∃ Mc : Nat → Nat → Int, Mc = fun r' c' => if r' < r then clr N rank c piv bot r' c' else N r' c' := ⟨_, rfl⟩
    have m1 : ∀ c', Mc r c' = N r c' := fun c' => by rw [hMc]; exact if_neg (by omega)
    have m2 : ∀ c', Mc rank c' = N rank c' := fun c' => by
      rw [hMc]
      show (if rank < r then clr N rank c piv bot rank c' else N rank c') = N rank c'
      by_cases q : rank < r
      · rw [if_pos q]; unfold clr; rw [if_pos rfl]
      · rw [if_neg q]
    have st : ∃ h1, den 121 [.ref g, .int (nI r), .int (nI c)] h = some (none, h1) ∧ FC g h h1 ∧ DK h1 ∧ GC h1 g H W C rows cols (fun _ _ => True) (fun r' c' => if r' < r + 1 then clr N rank c piv bot r' c' else N r' c') := by
      rw [← hMc] at gc
      by_cases q : r = rank
      · subst q
        obtain ⟨h1, e1, f1, dk1, gc1⟩ := d121r o b hg dk gc trivial hrk hc
        refine ⟨h1, e1, f1, dk1, gc1.mono (fun r' c' _ x2 x3 => ⟨trivial, ?_⟩)⟩
        by_cases q2 : r' = r
        · rw [q2, m1, if_pos (by omega)]
          unfold clr
          rw [if_pos rfl]
        · rw [hMc]
          show _ = (if r' < r then clr N r c piv bot r' c' else N r' c')
          by_cases q3 : r' < r
          · rw [if_pos q3, if_pos (by omega)]
          · rw [if_neg q3, if_neg (by omega)]
      · obtain ⟨h1, e1, f1, dk1, gc1⟩ := d121 (r := r) (c0 := c) o b hg dk w30 wb gc (by omega) hrk q hc (fun c' hc' => by rw [m1, m1, m2]; exact hcb r c' (by omega) q hc')
        refine ⟨h1, e1, f1, dk1, gc1.mono (fun r' c' _ x2 x3 => ⟨trivial, ?_⟩)⟩
        by_cases q2 : r' = r
        · rw [if_pos q2, m1, m1, m2, if_pos (by omega), q2]
          unfold clr
          rw [if_neg q]
        · rw [if_neg q2, hMc]
          show _ = (if r' < r then clr N rank c piv bot r' c' else N r' c')
          by_cases q3 : r' < r
          · rw [if_pos q3, if_pos (by omega)]
          · rw [if_neg q3, if_neg (by omega)]
    obtain ⟨h1, e1, f1, dk1, gc1⟩ := st
    have nn : ∀ i, ¬ (22 ≤ i ∧ i ≤ 25) → ¬ (32 ≤ i ∧ i ≤ 41) → i ≠ g + 3 → i ≠ g + 4 → h1.1 i = h.1 i := f1.2
    obtain ⟨h2, e2, f2, r2⟩ := ih (r + 1) h1 (by omega) dk1 (w30.keep (nn _ (by omega) (by omega) (by omega) (by omega)) (nn _ (by omega) (by omega) (by omega) (by omega))) (o.k (nn _ (by omega) (by omega) (by omega) (by omega))) (wb.keep (nn _ (by omega) (by omega) (by omega) (by omega)) (nn _ (by omega) (by omega) (by omega) (by omega))) gc1
    refine ⟨h2, ?_, f1.trans f2, r2⟩
    rw [← e2]
    unfold GO at o
    rw [H122_119]
    simp only [S122, gFs, pFs, okq, bls, bo_true, eUp_at, eUp_eUp, eKls, cl_some, Option.toList_some, Option.toList_none, List.cons_append, List.nil_append, o]
    rw [if_neg (nI_ge (by omega) (by omega))]
    simp only [S122, gFs, pFs, okq, bls, bo_true, eUp_at, eUp_eUp, eKls, cl_some, Option.toList_some, Option.toList_none, List.cons_append, List.nil_append, e1]
    rw [nI_1]
theorem d122_xrows {c f : Nat} {piv bot : Int} (b : GB H W C rows cols) (hg : 42 ≤ g) (hrk : rank + 1 = rows) (hc : c < cols) (hcb : ∀ r c', r < rank → c' < cols → nd (piv * N r c').natAbs ≤ 36 ∧ nd (N r c * N rank c').natAbs ≤ 36 ∧ (piv * N r c' - N r c * N rank c').natAbs < BB ^ 35) : ∀ n r h, r + n = rows → DK h → WV h 30 36 piv → GO h g H W C rows unk cols rank ld → WV h (g + 1) 36 bot → GC h g H W C rows cols (fun r' _ => r ≤ r') N → ∃ h', ru 122 119 [some (.ref g), some (.int (nI c)), some (.int (nI f)), some (.int (nI r))] [] h = ru 122 139 [some (.ref g), some (.int (nI c)), some (.int (nI f)), some (.int (nI rows))] [] h' ∧ FC g h h' ∧ DK h' ∧ ∃ P Z, GA h' g H W C P Z := by
  obtain ⟨b1, b2, b3, b4, b5, b6⟩ := id b
  intro n
  induction n with
  | zero =>
    intro r h hr dk w30 o wb gc
    have : r = rows := by omega
    subst this
    obtain ⟨P, Z, ga, -⟩ := gc
    refine ⟨h, ?_, FC.refl _ _, dk, P, Z, ga⟩
    unfold GO at o
    rw [H122_119]
    simp only [S122, gFs, pFs, okq, bls, bo_true, eUp_at, eUp_eUp, eKls, cl_some, Option.toList_some, Option.toList_none, List.cons_append, List.nil_append, o]
    rw [if_pos (nI_le (Nat.le_refl _) (by omega))]
  | succ n ih =>
    intro r h hr dk w30 o wb gc
    have st : ∃ h1, den 121 [.ref g, .int (nI r), .int (nI c)] h = some (none, h1) ∧ FC g h h1 ∧ DK h1 ∧ GC h1 g H W C rows cols (fun r' _ => r + 1 ≤ r') N := by
      by_cases q : r = rank
      · subst q
        obtain ⟨h1, e1, f1, dk1, gc1⟩ := d121r o b hg dk gc (Nat.le_refl _) (by omega) hc
        exact ⟨h1, e1, f1, dk1, gc1.mono (fun r' c' x1 x2 x3 => ⟨by omega, rfl⟩)⟩
      · exact d121x (r := r) (c0 := c) o b hg dk w30 wb gc (by omega) (by omega) hc (fun c' hc' => hcb r c' (by omega) hc')
    obtain ⟨h1, e1, f1, dk1, gc1⟩ := st
    have nn : ∀ i, ¬ (22 ≤ i ∧ i ≤ 25) → ¬ (32 ≤ i ∧ i ≤ 41) → i ≠ g + 3 → i ≠ g + 4 → h1.1 i = h.1 i := f1.2
    obtain ⟨h2, e2, f2, r2⟩ := ih (r + 1) h1 (by omega) dk1 (w30.keep (nn _ (by omega) (by omega) (by omega) (by omega)) (nn _ (by omega) (by omega) (by omega) (by omega))) (o.k (nn _ (by omega) (by omega) (by omega) (by omega))) (wb.keep (nn _ (by omega) (by omega) (by omega) (by omega)) (nn _ (by omega) (by omega) (by omega) (by omega))) gc1
    refine ⟨h2, ?_, f1.trans f2, r2⟩
    rw [← e2]
    unfold GO at o
    rw [H122_119]
    simp only [S122, gFs, pFs, okq, bls, bo_true, eUp_at, eUp_eUp, eKls, cl_some, Option.toList_some, Option.toList_none, List.cons_append, List.nil_append, o]
    rw [if_neg (nI_ge (by omega) (by omega))]
    simp only [S122, gFs, pFs, okq, bls, bo_true, eUp_at, eUp_eUp, eKls, cl_some, Option.toList_some, Option.toList_none, List.cons_append, List.nil_append, e1]
    rw [nI_1]
theorem d122_end {c : Nat} {piv : Int} {x2 x3 : Option Value} (k2 : eKl x2 = x2) (k3 : eKl x3 = x3) (hg : 42 ≤ g) (dk : DK h) (w30 : WV h 30 36 piv) (o : GO h g H W C rows unk cols rank ld) (wb : WX h (g + 1) 36) : ∃ h', ru 122 139 [some (.ref g), some (.int (nI c)), x2, x3] [] h = ru 122 20 [some (.ref g), some (.int (nI (c + 1))), x2, x3] [] h' ∧ GO h' g H W C rows unk cols (rank + 1) ld ∧ WV h' (g + 1) 36 piv ∧ h'.2 = h.2 ∧ ∀ i, i ≠ g → i ≠ g + 1 → i ≠ g + 2 → h'.1 i = h.1 i := by
  obtain ⟨sz, bl, ff, wb⟩ := wb
  have t3 : nd piv.natAbs ≤ 36 := w30.choose_spec.2.1
  obtain ⟨h1, e1, f1, w1⟩ := d84 wb w30 (by omega) (by decide) (by decide) t3
  have o1 := o.k (f1.2 g (by omega) (by omega))
  have k0 := dk.1
  unfold GO at o o1
  refine ⟨eUp h1 g (.inr (5, [.int (nI H), .int (nI W), .int (nI C), .ref (g + 3), .ref (g + 4), .ref 20, .int (nI rows), .int (nI unk), .int (nI cols), .int (nI (rank + 1)), .ref (g + 5), .ref (g + 1), .int ld])), ?_, eUp_at .., w1.keep (eUp_ne (by omega)) (eUp_ne (by omega)), f1.1, fun i i1 i2 i3 => (eUp_ne i1).trans (f1.2 i i2 (by omega))⟩
  rw [H122_139]
  simp only [S122, gFs, pFs, okq, bls, bo_true, eUp_at, eUp_eUp, eKls, cl_some, Option.toList_some, Option.toList_none, List.cons_append, List.nil_append, o, k0, e1, o1, nI_add]
  rw [nI_1]
def SB (C rows cols : Nat) (s : RS) (c : Nat) : Prop := ∀ f, fr s.1 c (rows - s.2.1) s.2.1 = some f → ∀ r c', r < rows → r ≠ s.2.1 → c' < cols → CB C (s.1 f c) s.2.2.1 (sw s.1 f s.2.1 r c') (sw s.1 f s.2.1 r c) (sw s.1 f s.2.1 s.2.1 c')
theorem d122_step {c : Nat} {x2 x3 : Option Value} (k2 : eKl x2 = x2) (k3 : eKl x3 = x3) (b : GB H W C rows cols) (hg : 42 ≤ g) (ri : RI h g H W C rows unk cols c s) (hu : unk ≤ cols) (hc : c < unk) (hrk : s.2.1 ≤ rows) (sb : SB C rows cols s c) : ∃ h' x2' x3', ru 122 20 [some (.ref g), some (.int (nI c)), x2, x3] [] h = ru 122 20 [some (.ref g), some (.int (nI (c + 1))), x2', x3'] [] h' ∧ eKl x2' = x2' ∧ eKl x3' = x3' ∧ FR g h h' ∧ RI h' g H W C rows unk cols (c + 1) (rst rows s c) := by
  cases hf : fr s.1 c (rows - s.2.1) s.2.1 with
  | none =>
    obtain ⟨h', e, r1, r2⟩ := d122_none k2 k3 b hg ri hu hc hrk hf
    exact ⟨h', _, _, e, rfl, k3, r1, r2⟩
  | some f =>
    obtain ⟨z1, z2, -, -⟩ := fr_some hf
    obtain ⟨h1, e1, fr1, dk1, w1, o1, wb1, gc1, ro1⟩ := d122_some k2 k3 b hg ri hu hc hrk hf
    obtain ⟨h2, e2, fc2, dk2, gc2⟩ := d122_rows (f := f) b hg (by omega) (by omega) (sb f hf) rows 0 h1 (by omega) dk1 w1 o1 wb1 (gc1.mono (fun r' c' _ x2 x3 => ⟨trivial, if_neg (by omega)⟩))
    have nn : ∀ i, ¬ (22 ≤ i ∧ i ≤ 25) → ¬ (32 ≤ i ∧ i ≤ 41) → i ≠ g + 3 → i ≠ g + 4 → h2.1 i = h1.1 i := fc2.2
    have w2 := w1.keep (nn _ (by omega) (by omega) (by omega) (by omega)) (nn _ (by omega) (by omega) (by omega) (by omega))
    obtain ⟨h3, e3, o3, wb3, s3, n3⟩ := d122_end (c := c) (x2 := some (.int (nI f))) (x3 := some (.int (nI rows))) rfl rfl hg dk2 w2 (o1.k (nn _ (by omega) (by omega) (by omega) (by omega))) (wb1.keep (nn _ (by omega) (by omega) (by omega) (by omega)) (nn _ (by omega) (by omega) (by omega) (by omega))).x
    have fr3 : FR g h2 h3 := ⟨s3, fun i i1 i2 i3 => n3 i (by omega) (by omega) (by omega)⟩
    refine ⟨h3, _, _, e1.trans (e2.trans e3), rfl, rfl, fr1.trans (fc2.fr.trans fr3), ?_⟩
    have hrs : rst rows s c = (clr (sw s.1 f s.2.1) s.2.1 c (s.1 f c) s.2.2.1, s.2.1 + 1, s.1 f c, upo s.2.2.2.1 c (some s.2.1), s.2.2.2.2 && decide (f = s.2.1) && decide (0 < s.1 f c)) := by
      unfold rst
      rw [hf]
    rw [hrs]
    exact ⟨dk2.keep (fun i hi => n3 i (by omega) (by omega) (by omega)), (w2.keep (n3 _ (by omega) (by omega) (by omega)) (n3 _ (by omega) (by omega) (by omega))).x, o3, wb3, gc2.k (n3 _ (by omega) (by omega) (by omega)) (n3 _ (by omega) (by omega) (by omega)), ro1.k ((n3 _ (by omega) (by omega) (by omega)).trans (nn _ (by omega) (by omega) (by omega) (by omega)))⟩
theorem rst_rank {rows c : Nat} (h : s.2.1 ≤ rows) : (rst rows s c).2.1 ≤ rows ∧ (rst rows s c).2.1 ≤ s.2.1 + 1 ∧ s.2.1 ≤ (rst rows s c).2.1 := by
  unfold rst
  cases hf : fr s.1 c (rows - s.2.1) s.2.1 with
  | none => exact ⟨h, Nat.le_succ _, Nat.le_refl _⟩
  | some f =>
    obtain ⟨z1, z2, -, -⟩ := fr_some hf
    exact ⟨show s.2.1 + 1 ≤ rows by omega, Nat.le_refl _, Nat.le_succ _⟩
theorem red_rank (rows : Nat) (M : Nat → Nat → Int) : ∀ n, (red rows M n).2.1 ≤ rows ∧ (red rows M n).2.1 ≤ n := by
  intro n
  induction n with
  | zero => exact ⟨Nat.zero_le _, Nat.le_refl _⟩
  | succ n ih =>
    obtain ⟨a1, a2, -⟩ := rst_rank (c := n) ih.1
    exact ⟨a1, Nat.le_trans a2 (by omega)⟩
theorem d122_iter {M : Nat → Nat → Int} (b : GB H W C rows cols) (hg : 42 ≤ g) (hu : unk ≤ cols) : ∀ n c h x2 x3, c + n ≤ unk → eKl x2 = x2 → eKl x3 = x3 → RI h g H W C rows unk cols c (red rows M c) → (∀ j, c ≤ j → j < c + n → SB C rows cols (red rows M j) j) → ∃ h' x2' x3', ru 122 20 [some (.ref g), some (.int (nI c)), x2, x3] [] h = ru 122 20 [some (.ref g), some (.int (nI (c + n))), x2', x3'] [] h' ∧ eKl x2' = x2' ∧ eKl x3' = x3' ∧ FR g h h' ∧ RI h' g H W C rows unk cols (c + n) (red rows M (c + n)) := by
  intro n
  induction n with
  | zero =>
    intro c h x2 x3 hc k2 k3 ri hs
    exact ⟨h, x2, x3, rfl, k2, k3, FR.refl _ _, ri⟩
  | succ n ih =>
    intro c h x2 x3 hc k2 k3 ri hs
    obtain ⟨h1, y2, y3, e1, q2, q3, f1, ri1⟩ := d122_step k2 k3 b hg ri hu (by omega) (red_rank rows M c).1 (hs c (Nat.le_refl _) (by omega))
    obtain ⟨h2, z2, z3, e2, p2, p3, f2, ri2⟩ := ih (c + 1) h1 y2 y3 (by omega) q2 q3 ri1 (fun j j1 j2 => hs j (by omega) (by omega))
    rw [show c + 1 + n = c + (n + 1) from by omega] at e2 ri2
    exact ⟨h2, z2, z3, e1.trans e2, p2, p3, f1.trans f2, ri2⟩
theorem d122_exit {x2 x3 : Option Value} (o : GO h g H W C rows unk cols rank ld) (hu : unk < 2 ^ 31) : ru 122 20 [some (.ref g), some (.int (nI unk)), x2, x3] [] h = some (none, h) := by
  unfold GO at o
  rw [H122_20]
  simp only [S122, gFs, pFs, okq, bls, bo_true, eUp_at, eUp_eUp, eKls, cl_some, Option.toList_some, Option.toList_none, List.cons_append, List.nil_append, o]
  rw [if_pos (nI_le (Nat.le_refl _) hu)]
theorem d122_enter {M : Nat → Nat → Int} (hg : 42 ≤ g) (dk : DK h) (w30 : WX h 30 36) (o : GO h g H W C rows unk cols rank ld) (wb : WX h (g + 1) 36) (gc : GC h g H W C rows cols (fun _ _ => True) M) (ro : ∃ f, h.1 (g + 5) = .inl (0, W, .inl f)) : ∃ h', den 122 [.ref g] h = ru 122 20 [some (.ref g), some (.int (nI 0)), none, none] [] h' ∧ FR g h h' ∧ RI h' g H W C rows unk cols 0 (red rows M 0) := by
  obtain ⟨f5, r5⟩ := ro
  obtain ⟨sz, bl, ff, wb⟩ := wb
  obtain ⟨h1, hh1⟩ : ∃ h1, h1 = eUp h g (.inr (5, [.int (nI H), .int (nI W), .int (nI C), .ref (g + 3), .ref (g + 4), .ref 20, .int (nI rows), .int (nI unk), .int (nI cols), .int (nI 0), .ref (g + 5), .ref (g + 1), .int ld])) := ⟨_, rfl⟩
  have n1 : ∀ i, i ≠ g → h1.1 i = h.1 i := fun i hi => by rw [hh1]; exact eUp_ne hi
  have o1 : h1.1 g = .inr (5, [.int (nI H), .int (nI W), .int (nI C), .ref (g + 3), .ref (g + 4), .ref 20, .int (nI rows), .int (nI unk), .int (nI cols), .int (nI 0), .ref (g + 5), .ref (g + 1), .int ld]) := by rw [hh1]; exact eUp_at ..
  have fr1 : FR g h h1 := by rw [hh1]; exact FR.up h _ (by omega)
  obtain ⟨h2, e2, f2, w2⟩ := d112 (wb.keep (n1 _ (by omega)) (n1 _ (by omega))) (by decide) (by decide) (nI 1) (by decide)
  have o2 := (f2.2 g (by omega) (by omega)).trans o1
  refine ⟨eUp h2 g (.inr (5, [.int (nI H), .int (nI W), .int (nI C), .ref (g + 3), .ref (g + 4), .ref 20, .int (nI rows), .int (nI unk), .int (nI cols), .int (nI 0), .ref (g + 5), .ref (g + 1), .int (nI 1)])), ?_, fr1.trans ((f2.fr (Or.inr (by omega))).trans (FR.up h2 _ (by omega))), ?_⟩
  · have oo := o
    unfold GO at oo
    rw [E122 g o]
    simp only [S122, gFs, pFs, okq, bls, bo_true, eUp_at, eUp_eUp, eKls, cl_some, Option.toList_some, Option.toList_none, List.cons_append, List.nil_append, oo]
    rw [← hh1]
    simp only [S122, gFs, pFs, okq, bls, bo_true, eUp_at, eUp_eUp, eKls, cl_some, Option.toList_some, Option.toList_none, List.cons_append, List.nil_append, o1, e2, o2]
  · have nn : ∀ i, i ≠ g → i ≠ g + 1 → i ≠ g + 2 → (eUp h2 g (.inr (5, [.int (nI H), .int (nI W), .int (nI C), .ref (g + 3), .ref (g + 4), .ref 20, .int (nI rows), .int (nI unk), .int (nI cols), .int (nI 0), .ref (g + 5), .ref (g + 1), .int (nI 1)]))).1 i = h.1 i := fun i i1 i2 i3 => (eUp_ne i1).trans ((f2.2 i i2 (by omega)).trans (n1 i i1))
    exact ⟨dk.keep (fun i hi => nn i (by omega) (by omega) (by omega)), w30.keep (nn _ (by omega) (by omega) (by omega)) (nn _ (by omega) (by omega) (by omega)), eUp_at .., w2.keep (eUp_ne (by omega)) (eUp_ne (by omega)), gc.k (nn _ (by omega) (by omega) (by omega)) (nn _ (by omega) (by omega) (by omega)), f5, (nn _ (by omega) (by omega) (by omega)).trans r5, fun j hj => by omega⟩
theorem d122 {M : Nat → Nat → Int} (b : GB H W C rows cols) (hg : 42 ≤ g) (hu : unk ≤ cols) (dk : DK h) (w30 : WX h 30 36) (o : GO h g H W C rows unk cols rank ld) (wb : WX h (g + 1) 36) (gc : GC h g H W C rows cols (fun _ _ => True) M) (ro : ∃ f, h.1 (g + 5) = .inl (0, W, .inl f)) (hs : ∀ j, j < unk → SB C rows cols (red rows M j) j) : ∃ h', den 122 [.ref g] h = some (none, h') ∧ FR g h h' ∧ RI h' g H W C rows unk cols unk (red rows M unk) := by
  obtain ⟨b1, b2, b3, b4, b5, b6⟩ := id b
  obtain ⟨h1, e1, f1, ri1⟩ := d122_enter hg dk w30 o wb gc ro
  obtain ⟨h2, x2, x3, e2, -, -, f2, ri2⟩ := d122_iter b hg hu unk 0 h1 none none (by omega) rfl rfl ri1 (fun j j1 j2 => hs j (by omega))
  rw [Nat.zero_add] at e2 ri2
  exact ⟨h2, e1.trans (e2.trans (d122_exit ri2.2.2.1 (by omega))), f1.trans f2, ri2⟩
/-- the last column of a table whose cells nobody reads any more -/
theorem d122_last {c f : Nat} {x2 x3 : Option Value} (k2 : eKl x2 = x2) (k3 : eKl x3 = x3) (b : GB H W C rows cols) (hg : 42 ≤ g) (ri : RI h g H W C rows unk cols c s) (hu : unk ≤ cols) (hc : c + 1 = unk) (hrk : s.2.1 + 1 = rows) (hf : fr s.1 c (rows - s.2.1) s.2.1 = some f) (hcb : ∀ r c', r < s.2.1 → c' < cols → nd (s.1 f c * sw s.1 f s.2.1 r c').natAbs ≤ 36 ∧ nd (sw s.1 f s.2.1 r c * sw s.1 f s.2.1 s.2.1 c').natAbs ≤ 36 ∧ (s.1 f c * sw s.1 f s.2.1 r c' - sw s.1 f s.2.1 r c * sw s.1 f s.2.1 s.2.1 c').natAbs < BB ^ 35) : ∃ h', ru 122 20 [some (.ref g), some (.int (nI c)), x2, x3] [] h = some (none, h') ∧ FR g h h' ∧ DK h' ∧ WX h' 30 36 ∧ GO h' g H W C rows unk cols (s.2.1 + 1) (ldI (rst rows s c).2.2.2.2) ∧ WX h' (g + 1) 36 ∧ (∃ P Z, GA h' g H W C P Z) ∧ ∃ f, h'.1 (g + 5) = .inl (0, W, .inl f) := by
  obtain ⟨b1, b2, b3, b4, b5, b6⟩ := id b
  obtain ⟨h1, e1, fr1, dk1, w1, o1, wb1, gc1, ro1⟩ := d122_some k2 k3 b hg ri hu (by omega) (by omega) hf
  obtain ⟨h2, e2, fc2, dk2, P2, Z2, ga2⟩ := d122_xrows (f := f) b hg hrk (by omega) hcb rows 0 h1 (by omega) dk1 w1 o1 wb1 (gc1.mono (fun r' c' _ x2 x3 => ⟨trivial, rfl⟩))
  have nn : ∀ i, ¬ (22 ≤ i ∧ i ≤ 25) → ¬ (32 ≤ i ∧ i ≤ 41) → i ≠ g + 3 → i ≠ g + 4 → h2.1 i = h1.1 i := fc2.2
  have w2 := w1.keep (nn _ (by omega) (by omega) (by omega) (by omega)) (nn _ (by omega) (by omega) (by omega) (by omega))
  obtain ⟨h3, e3, o3, wb3, s3, n3⟩ := d122_end (c := c) (x2 := some (.int (nI f))) (x3 := some (.int (nI rows))) rfl rfl hg dk2 w2 (o1.k (nn _ (by omega) (by omega) (by omega) (by omega))) (wb1.keep (nn _ (by omega) (by omega) (by omega) (by omega)) (nn _ (by omega) (by omega) (by omega) (by omega))).x
  have fr3 : FR g h2 h3 := ⟨s3, fun i i1 i2 i3 => n3 i (by omega) (by omega) (by omega)⟩
  have e4 := d122_exit (x2 := some (.int (nI f))) (x3 := some (.int (nI rows))) o3 (by omega)
  rw [← hc] at e4
  have hrs : (rst rows s c).2.2.2.2 = (s.2.2.2.2 && decide (f = s.2.1) && decide (0 < s.1 f c)) := by
    unfold rst
    rw [hf]
  rw [hrs]
  obtain ⟨f5, r5, -⟩ := ro1
  exact ⟨h3, e1.trans (e2.trans (e3.trans e4)), fr1.trans (fc2.fr.trans fr3), dk2.keep (fun i hi => n3 i (by omega) (by omega) (by omega)), (w2.keep (n3 _ (by omega) (by omega) (by omega)) (n3 _ (by omega) (by omega) (by omega))).x, o3, wb3.x, ⟨P2, Z2, (n3 _ (by omega) (by omega) (by omega)).trans ga2.1, (n3 _ (by omega) (by omega) (by omega)).trans ga2.2⟩, f5, (n3 _ (by omega) (by omega) (by omega)).trans ((nn _ (by omega) (by omega) (by omega) (by omega)).trans r5)⟩
end GR7
