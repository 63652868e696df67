/-! GRID: store, add, begin -/
def FA (g : Nat) (h h' : eH) : Prop := h'.2 = h.2 ∧ ∀ i, i ≠ g + 3 → i ≠ g + 4 → h'.1 i = h.1 i
theorem FA.refl (g : Nat) (h : eH) : FA g h h := ⟨rfl, fun _ _ _ => rfl⟩
theorem FA.trans {g : Nat} {h h' h'' : eH} (x : FA g h h') (y : FA g h' h'') : FA g h h'' := ⟨y.1.trans x.1, fun i h1 h2 => (y.2 i h1 h2).trans (x.2 i h1 h2)⟩
def up2 (M : Nat → Nat → Int) (r c : Nat) (z : Int) : Nat → Nat → Int := fun r' c' => if r' = r ∧ c' = c then z else M r' c'
theorem GC.mono {h : eH} {g H W C rows cols : Nat} {X X' : Nat → Nat → Prop} {M M' : Nat → Nat → Int} (x : GC h g H W C rows cols X M) (hx : ∀ r c, X' r c → r < rows → c < cols → X r c ∧ M' r c = M r c) : GC h g H W C rows cols X' M' := by
  obtain ⟨P, Z, ga, q⟩ := x
  refine ⟨P, Z, ga, fun r c h1 h2 h3 => ?_⟩
  obtain ⟨x1, x2⟩ := hx r c h1 h2 h3
  rw [x2]
  exact q r c x1 h2 h3
theorem GC.k {h h' : eH} {g H W C rows cols : Nat} {X : Nat → Nat → Prop} {M : Nat → Nat → Int} (x : GC h g H W C rows cols X M) (h3 : h'.1 (g + 3) = h.1 (g + 3)) (h4 : h'.1 (g + 4) = h.1 (g + 4)) : GC h' g H W C rows cols X M := by
  obtain ⟨P, Z, ga, q⟩ := x
  exact ⟨P, Z, ⟨h3.trans ga.1, h4.trans ga.2⟩, q⟩
theorem ce_other {P Z f : Nat → Int32} {v : Int32} {C k k' n : Nat} {z : Int} (ce : CE P Z C k' z) (hk : k' ≠ k) (hn : n ≤ C) : CE (va_cpy f P 0 (k * C) n) (upd Z k v) C k' z := by
  obtain ⟨c1, c2, c3⟩ := ce
  refine ⟨c1, ?_, fun i hi => ?_⟩
  · unfold upd
    rw [if_neg hk]
    exact c2
  · rw [pk_cpy_out, c3 i hi]
    rcases Nat.lt_or_gt_of_ne hk with h | h
    · have : (k' + 1) * C ≤ k * C := Nat.mul_le_mul_right _ h
      rw [Nat.succ_mul] at this
      omega
    · have : (k + 1) * C ≤ k' * C := Nat.mul_le_mul_right _ h
      rw [Nat.succ_mul] at this
      omega
section GR2
variable {h : eH} {g H W C rows unk cols rank : Nat} {ld : Int32}
theorem d114g {P Z f : Nat → Int32} {p N n r c : Nat} {bl : Int32} (o : GO h g H W C rows unk cols rank ld) (b : GB H W C rows cols) (ga : GA h g H W C P Z) (w : WR h p N (nI n) bl f) (hN : N ≤ 36) (hn : n ≤ N) (hbl : bl = 0 ∨ bl = 1) (hr : r < rows) (hc : c < cols) (hag : p + 1 < g ∨ g + 5 < p) : ∃ h', den 114 [.ref g, .int (nI r), .int (nI c), .ref p] h = some (none, h') ∧ FA g h h' ∧ GA h' g H W C (va_cpy f P 0 ((r * W + c) * C) (if C < n then C else n)) (upd Z (r * W + c) (if bl = 0 then nI (if C < n then C else n) else - nI (if C < n then C else n))) := by
  obtain ⟨bw1, bw2⟩ := b.w
  obtain ⟨b1, b2, b3, b4, b5, b6⟩ := id b
  have o1 := o
  unfold GO at o1
  have hk : r * W + c < H * W := ix (by omega) (by omega)
  have hkC := ixC (C := C) (i := if C < n then C else n) hk (by split <;> omega)
  have hm : (if nI C < nI n then nI C else nI n) = nI (if C < n then C else n) := by
    by_cases hcn : C < n
    · rw [if_pos hcn, if_pos (nI_lt hcn (by omega))]
    · rw [if_neg hcn, if_neg (nI_nlt (by omega) (by omega))]
  have hmn : (if C < n then C else n) ≤ n ∧ (if C < n then C else n) ≤ C := by split <;> omega
  generalize hmm : (if C < n then C else n) = m at *
  rw [E114 g _ _ _ o]
  simp only [S114, gFs, pFs, okq, bls, bo_true, eUp_at, eUp_eUp, eKls, cl_some, Option.toList_some, Option.toList_none, List.cons_append, List.nil_append, d85i o b hr hc]
  rw [if_neg (by decide)]
  have n1 : g ≠ g + 4 := by omega
  have n3 : g + 3 ≠ g + 4 := by omega
  have np : p ≠ g + 4 := by omega
  have np1 : p + 1 ≠ g + 4 := by omega
  simp only [S114, gFs, pFs, okq, bls, bo_true, eUp_at, eUp_eUp, eKls, cl_some, Option.toList_some, Option.toList_none, List.cons_append, List.nil_append, o1, nI_at, w.1, d9, hm, ga.2]
  have fin : ∀ x : Int32, x = (if bl = 0 then nI m else - nI m) → ∃ h', cP (.inl (0, N, .inl f)) (.inl (0, H * W * C, .inl P)) (nI 0) (nI ((r * W + c) * C)) (nI m) (fun e => (some (none, eUp (eUp h (g + 4) (.inl (0, H * W, .inl (upd Z (r * W + c) x)))) (g + 3) e) : Option eR)) = some (none, h') ∧ FA g h h' ∧ GA h' g H W C (va_cpy f P 0 ((r * W + c) * C) m) (upd Z (r * W + c) (if bl = 0 then nI m else - nI m)) := by
    intro x hx
    rw [cP_nI (by omega) hkC (by omega) (by omega), ← hx]
    refine ⟨_, rfl, ⟨rfl, fun i i1 i2 => ?_⟩, ?_, ?_⟩
    · rw [eUp_ne i1, eUp_ne i2]
    · rw [eUp_at]
    · rw [eUp_ne (by omega), eUp_at]
  by_cases hb : bl = 0
  · rw [if_pos hb, wI_nI hk (by omega)]
    simp only [S114, gFs, pFs, okq, bls, bo_true, eUp_at, eUp_eUp, eKls, cl_some, Option.toList_some, Option.toList_none, List.cons_append, List.nil_append, w.1, w.2, ga.1, eUp_ne n1, eUp_ne n3, eUp_ne np, eUp_ne np1, o1, nI_mul]
    exact fin _ (by rw [if_pos hb])
  · rw [if_neg hb]
    rw [wI_nI hk (by omega)]
    simp only [S114, gFs, pFs, okq, bls, bo_true, eUp_at, eUp_eUp, eKls, cl_some, Option.toList_some, Option.toList_none, List.cons_append, List.nil_append, w.1, w.2, ga.1, eUp_ne n1, eUp_ne n3, eUp_ne np, eUp_ne np1, o1, nI_mul]
    exact fin _ (by rw [if_neg hb])
theorem d114 {X : Nat → Nat → Prop} {M : Nat → Nat → Int} {p N r c : Nat} {z : Int} (o : GO h g H W C rows unk cols rank ld) (b : GB H W C rows cols) (gc : GC h g H W C rows cols X M) (w : WV h p N z) (hN : N ≤ 36) (hz : nd z.natAbs ≤ C) (hr : r < rows) (hc : c < cols) (hag : p + 1 < g ∨ g + 5 < p) : ∃ h', den 114 [.ref g, .int (nI r), .int (nI c), .ref p] h = some (none, h') ∧ FA g h h' ∧ GC h' g H W C rows cols X (up2 M r c z) := by
  obtain ⟨P, Z, ga, q⟩ := gc
  obtain ⟨f, w1, w2, w3⟩ := w
  obtain ⟨h', e, fa, ga'⟩ := d114g o b ga w1 hN w2 (sb01 z) hr hc hag
  rw [if_neg (by omega : ¬ C < nd z.natAbs)] at ga'
  refine ⟨h', e, fa, _, _, ga', fun r' c' x1 x2 x3 => ?_⟩
  obtain ⟨b1, b2, -⟩ := id b
  unfold up2
  by_cases hrc : r' = r ∧ c' = c
  · rw [if_pos hrc]
    obtain ⟨e1, e2⟩ := hrc
    subst e1
    subst e2
    refine ⟨hz, ?_, fun i hi => ?_⟩
    · unfold upd szg sb
      rw [if_pos rfl]
      by_cases hz0 : z < 0
      · rw [if_pos hz0, if_pos hz0, if_neg (by decide)]
      · rw [if_neg hz0, if_neg hz0, if_pos rfl]
    · rw [pk_cpy_in (by omega) (by omega), ← w3 i hi]
      congr 1
      omega
  · rw [if_neg hrc]
    exact ce_other (q r' c' x1 x2 x3) (fun e => hrc (ix_inj (by omega) (by omega) e)) hz
theorem d114x {X : Nat → Nat → Prop} {M : Nat → Nat → Int} {p N n r c : Nat} {bl : Int32} {f : Nat → Int32} (o : GO h g H W C rows unk cols rank ld) (b : GB H W C rows cols) (gc : GC h g H W C rows cols X M) (w : WR h p N (nI n) bl f) (hN : N ≤ 36) (hn : n ≤ N) (hbl : bl = 0 ∨ bl = 1) (hr : r < rows) (hc : c < cols) (hag : p + 1 < g ∨ g + 5 < p) : ∃ h', den 114 [.ref g, .int (nI r), .int (nI c), .ref p] h = some (none, h') ∧ FA g h h' ∧ GC h' g H W C rows cols (fun r' c' => X r' c' ∧ ¬ (r' = r ∧ c' = c)) M := by
  obtain ⟨P, Z, ga, q⟩ := gc
  obtain ⟨h', e, fa, ga'⟩ := d114g o b ga w hN hn hbl hr hc hag
  refine ⟨h', e, fa, _, _, ga', fun r' c' x1 x2 x3 => ?_⟩
  obtain ⟨b1, b2, -⟩ := id b
  exact ce_other (q r' c' x1.1 x2 x3) (fun e => x1.2 (ix_inj (by omega) (by omega) e)) (by split <;> omega)
theorem ce_int {P Z : Nat → Int32} {k C : Nat} {z : Int} (ce : CE P Z C k z) (hz : z.natAbs < BB) : Z k * P (k * C) = iI z := by
  obtain ⟨c1, c2, c3⟩ := ce
  rw [c2]
  by_cases h0 : z = 0
  · subst h0
    rw [show szg 0 = iI 0 from by unfold szg; rw [if_neg (by decide), Int.natAbs_zero, nd_0]; rfl, ← iI_of (P (k * C)), iI_mul, Int.zero_mul]
  · have hn : nd z.natAbs = 1 := nd_small (by omega) hz
    have c4 := c3 0 (by omega)
    rw [Nat.add_zero, dgt_small hz] at c4
    rw [c4]
    unfold szg
    rw [hn]
    by_cases hz0 : z < 0
    · rw [if_pos hz0, nI_I, nI_I, iI_neg, iI_mul]
      congr 1
      omega
    · rw [if_neg hz0, nI_I, nI_I, iI_mul]
      congr 1
      omega
theorem szg_small {z : Int} (hz : z.natAbs < BB) : iI z.sign = szg z := by
  unfold szg
  by_cases h0 : z = 0
  · subst h0
    rw [if_neg (by decide), Int.natAbs_zero, nd_0]
    rfl
  · rw [nd_small (by omega) hz]
    by_cases hz0 : z < 0
    · rw [if_pos hz0, Int.sign_eq_neg_one_of_neg hz0]
      rfl
    · rw [if_neg hz0, Int.sign_eq_one_of_pos (by omega)]
      rfl
theorem ab_iI {z : Int} (hz : iok z) (hz1 : z.natAbs < 2 ^ 31) : (if 0 ≤ iI z then iI z else - iI z) = nI z.natAbs := by
  rw [show (0 : Int32) = iI 0 from by decide, iI_neg, nI_I]
  simp only [iI_le iok_0 hz]
  by_cases h0 : 0 ≤ z
  · rw [if_pos h0]
    congr 1
    omega
  · rw [if_neg h0]
    congr 1
    omega
theorem d110 {X : Nat → Nat → Prop} {M : Nat → Nat → Int} {r c : Nat} {v : Int} (o : GO h g H W C rows unk cols rank ld) (b : GB H W C rows cols) (gc : GC h g H W C rows cols X M) (hx : X r c) (hz : (M r c).natAbs < BB) (hv : (M r c + v).natAbs < BB) (hr : r < rows) (hc : c < cols) : ∃ h', den 110 [.ref g, .int (nI r), .int (nI c), .int (iI v)] h = some (none, h') ∧ FA g h h' ∧ GC h' g H W C rows cols X (up2 M r c (M r c + v)) := by
  obtain ⟨P, Z, ga, q⟩ := gc
  obtain ⟨bw1, bw2⟩ := b.w
  obtain ⟨b1, b2, b3, b4, b5, b6⟩ := id b
  have o1 := o
  unfold GO at o1
  have hk : r * W + c < H * W := ix (by omega) (by omega)
  have hkC := ixC (C := C) (i := 1) hk (by omega)
  have n1 : g ≠ g + 4 := by omega
  have n3 : g + 3 ≠ g + 4 := by omega
  have hbb := bb31
  have hok : iok (M r c + v) := by unfold iok; omega
  rw [E110 g _ _ _ o]
  simp only [S110, gFs, pFs, okq, bls, bo_true, eUp_at, eUp_eUp, eKls, cl_some, Option.toList_some, Option.toList_none, List.cons_append, List.nil_append, d85i o b hr hc]
  rw [if_neg (by decide)]
  simp only [S110, gFs, pFs, okq, bls, bo_true, eUp_at, eUp_eUp, eKls, cl_some, Option.toList_some, Option.toList_none, List.cons_append, List.nil_append, o1, nI_at, ga.2]
  rw [aI_nI hk (by omega)]
  simp only [S110, gFs, pFs, okq, bls, bo_true, eUp_at, eUp_eUp, eKls, cl_some, Option.toList_some, Option.toList_none, List.cons_append, List.nil_append, o1, nI_mul, ga.1]
  rw [aI_nI (by omega) (by omega)]
  simp only [S110, gFs, pFs, okq, bls, bo_true, eUp_at, eUp_eUp, eKls, cl_some, Option.toList_some, Option.toList_none, List.cons_append, List.nil_append, o1, ce_int (q r c hx hr hc) hz, iI_add, d0, iI_toInt hok, szg_small hv, ga.2]
  rw [wI_nI hk (by omega)]
  simp only [S110, gFs, pFs, okq, bls, bo_true, eUp_at, eUp_eUp, eKls, cl_some, Option.toList_some, Option.toList_none, List.cons_append, List.nil_append, o1, eUp_ne n1, eUp_ne n3, nI_mul, d5, ab_iI hok (by omega), ga.1]
  rw [wI_nI (by omega) (by omega)]
  refine ⟨_, rfl, ⟨rfl, fun i i1 i2 => ?_⟩, upd P ((r * W + c) * C) (nI (M r c + v).natAbs), upd Z (r * W + c) (szg (M r c + v)), ⟨eUp_at .., ?_⟩, fun r' c' x1 x2 x3 => ?_⟩
  · rw [eUp_ne i1, eUp_ne i2]
  · rw [eUp_ne (by omega), eUp_at]
  · unfold up2
    by_cases hrc : r' = r ∧ c' = c
    · rw [if_pos hrc]
      obtain ⟨e1, e2⟩ := hrc
      subst e1
      subst e2
      have hn1 : nd (M r' c' + v).natAbs ≤ 1 := by rw [nd_le, Nat.pow_one]; exact hv
      refine ⟨by omega, ?_, fun i hi => ?_⟩
      · unfold upd
        rw [if_pos rfl]
      · have : i = 0 := by omega
        subst this
        rw [Nat.add_zero, dgt_small hv]
        unfold upd
        rw [if_pos rfl]
    · rw [if_neg hrc]
      obtain ⟨c1, c2, c3⟩ := q r' c' x1 x2 x3
      have hne : r' * W + c' ≠ r * W + c := fun e => hrc (ix_inj (by omega) (by omega) e)
      refine ⟨c1, ?_, fun i hi => ?_⟩
      · unfold upd
        rw [if_neg hne]
        exact c2
      · unfold upd
        rw [if_neg]
        · exact c3 i hi
        · intro e
          rcases Nat.lt_or_gt_of_ne hne with hh | hh
          · have := ixC (C := C) (i := i + 1) hh (by omega)
            omega
          · have := ixC (C := C) (i := 1) hh (by omega)
            omega
/-- outside of the grid nothing is added -/
theorem d110o {r c : Int} {v : Int32} (o : GO h g H W C rows unk cols rank ld) (b : GB H W C rows cols) (hr : iok r) (hc : iok c) (hrc : ¬ (0 ≤ r ∧ r < rows ∧ 0 ≤ c ∧ c < cols)) : den 110 [.ref g, .int (iI r), .int (iI c), .int v] h = some (none, h) := by
  obtain ⟨b1, b2, b3, b4, b5, b6⟩ := id b
  rw [E110 g _ _ _ o]
  simp only [S110, gFs, pFs, okq, bls, bo_true, eUp_at, eUp_eUp, eKls, cl_some, Option.toList_some, Option.toList_none, List.cons_append, List.nil_append, d85 o (show rows < 2 ^ 31 by omega) (show cols < 2 ^ 31 by omega) hr hc, if_neg hrc]
  rw [if_pos (by decide)]
def FB (g : Nat) (h h' : eH) : Prop := h'.2 = h.2 ∧ ∀ i, i ≠ g → i ≠ g + 4 → h'.1 i = h.1 i
theorem d106 {P Z : Nat → Int32} {rc uc s : Nat} (o : GO h g H W C rows unk cols rank ld) (ga : GA h g H W C P Z) (b : GB H W C rc (uc + s)) : ∃ h', den 106 [.ref g, .int (nI rc), .int (nI uc), .int (nI s)] h = some (none, h') ∧ FB g h h' ∧ GO h' g H W C rc uc (uc + s) rank ld ∧ GC h' g H W C rc (uc + s) (fun _ _ => True) (fun _ _ => 0) := by
  obtain ⟨bw1, bw2⟩ := b.w
  obtain ⟨b1, b2, b3, b4, b5, b6⟩ := id b
  have o1 := o
  unfold GO at o1
  have m1 : (if nI H < nI rc then nI H else nI rc) = nI rc := if_neg (nI_nlt b1 (by omega))
  have m2 : (if nI W < nI (uc + s) then nI W else nI (uc + s)) = nI (uc + s) := if_neg (nI_nlt b2 (by omega))
  have m3 : (if nI (uc + s) < nI uc then nI (uc + s) else nI uc) = nI uc := if_neg (nI_nlt (by omega) (by omega))
  have n4 : g + 4 ≠ g := by omega
  rw [E106 g _ _ _ o]
  simp only [S106, gFs, pFs, okq, bls, bo_true, eUp_at, eUp_eUp, eKls, cl_some, Option.toList_some, Option.toList_none, List.cons_append, List.nil_append, o1, d9, m1, nI_add, m2, m3]
  rw [d1 (n := H * W) (f := Z) ((eUp_ne n4).trans ga.2) (by omega)]
  simp only [S106, gFs, pFs, okq, bls, bo_true, eUp_at, eUp_eUp, eKls, cl_some, Option.toList_some, Option.toList_none, List.cons_append, List.nil_append]
  refine ⟨_, rfl, ⟨rfl, fun i i1 i2 => ?_⟩, ?_, P, fl Z (nI 0) 0 (H * W), ⟨?_, eUp_at ..⟩, fun r c _ x2 x3 => ⟨?_, ?_, fun i hi => ?_⟩⟩
  · rw [eUp_ne i2, eUp_ne i1]
  · unfold GO
    rw [eUp_ne (by omega), eUp_at]
  · rw [eUp_ne (by omega), eUp_ne (by omega)]
    exact ga.1
  · rw [Int.natAbs_zero, nd_0]
    exact Nat.zero_le _
  · unfold fl szg
    rw [if_pos ⟨Nat.zero_le _, ix (by omega) (by omega)⟩, if_neg (show ¬ (0 : Int) < 0 by decide), Int.natAbs_zero, nd_0]
  · rw [Int.natAbs_zero, nd_0] at hi
    omega
end GR2
