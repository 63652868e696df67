/-! NET: fillMoves, addHold, fillPlaces -/
def pm (n : NT) (t ax : Nat) (r c : Nat) : Int := if r < t then mM n r c else if r = t ∧ c % 2 < ax then mM n r c else 0
section FJ
variable {h : eH} {a g H W C rows unk cols rank : Nat} {ld : Int32} {n : NT}
theorem pm_le (hv : NV n) {t ax r c : Nat} (hr : r < nM n) : (pm n t ax r c).natAbs ≤ 40 := by
  have := far_le hv (k := jo n (c / 2)) (ax := c % 2) hr
  have h2 : (mM n r c).natAbs ≤ 40 := by unfold mM; omega
  unfold pm
  split
  · exact h2
  · split
    · exact h2
    · decide
theorem pm_ax (hv : NV n) {t ax r c : Nat} (hc : c < 2 * nFr n) (hx : ax < 2) (ht : t < nM n) : pm n t (ax + 1) r c = adm (adm (pm n t ax) (some t) (mov n (nA n t) ax) (- spn n t ax)) (some t) (mov n (nB n t) ax) (spn n t ax) r c := by
  obtain ⟨m1, m2, m3, -⟩ := hv.2.2.2 t ht
  have i1 := mov_iff (r := c) m1 hx hc
  have i2 := mov_iff (r := c) m2 hx hc
  unfold adm
  by_cases qr : r = t
  · subst qr
    have e0 : pm n r ax r c = if c % 2 < ax then mM n r c else 0 := by
      unfold pm
      rw [if_neg (Nat.lt_irrefl _)]
      by_cases q : c % 2 < ax
      · rw [if_pos ⟨rfl, q⟩, if_pos q]
      · rw [if_neg (fun e => q e.2), if_neg q]
    have e1 : pm n r (ax + 1) r c = if c % 2 < ax then mM n r c else if c % 2 = ax then - far n r (jo n (c / 2)) ax else 0 := by
      unfold pm
      rw [if_neg (Nat.lt_irrefl _)]
      by_cases q : c % 2 < ax
      · rw [if_pos ⟨rfl, by omega⟩, if_pos q]
      · rw [if_neg q]
        by_cases q2 : c % 2 = ax
        · rw [if_pos ⟨rfl, by omega⟩, if_pos q2]
          unfold mM
          rw [q2]
        · rw [if_neg (fun e => by have := e.2; omega), if_neg q2]
    rw [e0, e1]
    by_cases q : c % 2 < ax
    · rw [if_pos q, if_pos q, if_neg (fun e => by have := (i2.mp e.2).1; omega), if_neg (fun e => by have := (i1.mp e.2).1; omega)]
    · rw [if_neg q, if_neg q]
      by_cases q2 : c % 2 = ax
      · rw [if_pos q2]
        unfold far
        by_cases k1 : nA n r = jo n (c / 2)
        · rw [if_pos k1, if_neg (fun e => by have := (i2.mp e.2).2; omega), if_pos ⟨rfl, i1.mpr ⟨q2, k1⟩⟩, Int.zero_add]
        · rw [if_neg k1]
          by_cases k2 : nB n r = jo n (c / 2)
          · rw [if_pos k2, if_pos ⟨rfl, i2.mpr ⟨q2, k2⟩⟩, if_neg (fun e => k1 (i1.mp e.2).2), Int.zero_add, Int.neg_neg]
          · rw [if_neg k2, if_neg (fun e => k2 (i2.mp e.2).2), if_neg (fun e => k1 (i1.mp e.2).2)]
            rfl
      · rw [if_neg q2, if_neg (fun e => q2 (i2.mp e.2).1), if_neg (fun e => q2 (i1.mp e.2).1)]
  · rw [if_neg (fun e => by have := e.1; cases this; exact qr rfl), if_neg (fun e => by have := e.1; cases this; exact qr rfl)]
    unfold pm
    by_cases q : r < t
    · rw [if_pos q, if_pos q]
    · rw [if_neg q, if_neg q, if_neg (fun e => qr e.1), if_neg (fun e => qr e.1)]
theorem d152_ax {t ax : Nat} (hv : NV n) (hga : g + 5 < a) (hx : ax < 2) (ht : t < nM n) (b : GB H W C (nM n) (2 * nFr n)) (o : NO h a n) (go : GO h g H W C (nM n) unk (2 * nFr n) rank ld) (gc : GC h g H W C (nM n) (2 * nFr n) (fun _ _ => True) (pm n t ax)) : ∃ h', ru 152 27 [some (.ref a), some (.ref g), some (.int (nI t)), some (.int (nI ax))] [] h = ru 152 27 [some (.ref a), some (.ref g), some (.int (nI t)), some (.int (nI (ax + 1)))] [] h' ∧ FA g h h' ∧ GO h' g H W C (nM n) unk (2 * nFr n) rank ld ∧ GC h' g H W C (nM n) (2 * nFr n) (fun _ _ => True) (pm n t (ax + 1)) := by
  have v1 := hv.1
  obtain ⟨m1, m2, m3, -⟩ := hv.2.2.2 t ht
  have hs := spn_le hv (ax := ax) ht
  obtain ⟨h1, e1, f1, go1, gc1⟩ := d110m (ro := some t) (co := mov n (nA n t) ax) (v := - spn n t ax) (K := 40) go b gc (fun c hc => by cases hc; omega) (fun r hr => mov_lt m1 hx hr) (fun r c hr hc => pm_le hv hr) (by have : BB = 1000000000 := rfl; omega)
  have o1 := o.keep (h' := h1) (fun i i1 i2 => f1.2 i (by omega) (by omega))
  obtain ⟨h2, e2, f2, go2, gc2⟩ := d110m (ro := some t) (co := mov n (nB n t) ax) (v := spn n t ax) (K := 80) go1 b gc1 (fun c hc => by cases hc; omega) (fun r hr => mov_lt m2 hx hr) (fun r c hr hc => by
    have := pm_le hv (ax := ax) (t := t) (c := c) hr
    unfold adm
    split
    · have := Int.natAbs_add_le (pm n t ax r c) (- spn n t ax); omega
    · omega) (by have : BB = 1000000000 := rfl; omega)
  refine ⟨h2, ?_, f1.trans f2, go2, gc2.mono (fun r' c' _ x2 x3 => ⟨trivial, pm_ax hv x3 hx ht⟩)⟩
  have s1 := d109 o hv ht hx
  have s2 := d109 o1 hv ht hx
  have p1 := d108 (ax := ax) o hv m1
  have p2 := d108 (ax := ax) o1 hv m2
  rw [show roI (some t) = nI t from rfl] at e1 e2
  obtain ⟨x0, -, -, -, -, -, x6, x7, -, -⟩ := id o
  obtain ⟨y0, -, -, -, -, -, y6, y7, -, -⟩ := id o1
  rw [H152_27]
  simp only [S152, gFs, pFs, okq, bls, bo_true, eUp_at, eUp_eUp, eKls, cl_some, Option.toList_some, Option.toList_none, List.cons_append, List.nil_append]
  rw [if_neg (nI_ge hx (by decide))]
  simp only [S152, gFs, pFs, okq, bls, bo_true, eUp_at, eUp_eUp, eKls, cl_some, Option.toList_some, Option.toList_none, List.cons_append, List.nil_append, x0, x6.get ht v1.2.2 (by decide), p1, s1, iI_neg, e1, y0, y7.get ht v1.2.2 (by decide), p2, s2, e2]
  rw [nI_1]
theorem d152_loop (hv : NV n) (hga : g + 5 < a) (b : GB H W C (nM n) (2 * nFr n)) : ∀ r t h x3, t + r = nM n → eKl x3 = x3 → NO h a n → GO h g H W C (nM n) unk (2 * nFr n) rank ld → GC h g H W C (nM n) (2 * nFr n) (fun _ _ => True) (pm n t 0) → ∃ h', ru 152 17 [some (.ref a), some (.ref g), some (.int (nI t)), x3] [] h = some (none, h') ∧ FA g h h' ∧ GO h' g H W C (nM n) unk (2 * nFr n) rank ld ∧ GC h' g H W C (nM n) (2 * nFr n) (fun _ _ => True) (mM n) := by
  intro r
  have v1 := hv.1
  induction r with
  | zero =>
    intro t h x3 ht k3 o go gc
    have : t = nM n := by omega
    subst this
    refine ⟨h, ?_, FA.refl _ _, go, gc.mono (fun r' c' _ x2 x3 => ⟨trivial, ?_⟩)⟩
    · rw [H152_17]
      simp only [S152, gFs, pFs, okq, bls, bo_true, eUp_at, eUp_eUp, eKls, cl_some, Option.toList_some, Option.toList_none, List.cons_append, List.nil_append, o.1]
      rw [if_pos (nI_le (Nat.le_refl _) (by omega))]
    · unfold pm
      rw [if_pos x2]
  | succ r ih =>
    intro t h x3 ht k3 o go gc
    have htm : t < nM n := by omega
    obtain ⟨h1, e1, f1, go1, gc1⟩ := d152_ax (ax := 0) hv hga (by decide) htm b o go gc
    have o1 := o.keep (h' := h1) (fun i i1 i2 => f1.2 i (by omega) (by omega))
    obtain ⟨h2, e2, f2, go2, gc2⟩ := d152_ax (ax := 1) hv hga (by decide) htm b o1 go1 gc1
    have o2 := o1.keep (h' := h2) (fun i i1 i2 => f2.2 i (by omega) (by omega))
    obtain ⟨h3, e3, f3, r3⟩ := ih (t + 1) h2 (some (.int (nI 2))) (by omega) rfl o2 go2 (gc2.mono (fun r' c' _ x2 x3 => ⟨trivial, by
      unfold pm
      by_cases q : r' < t
      · rw [if_pos q, if_pos (by omega)]
      · rw [if_neg q]
        by_cases q2 : r' = t
        · rw [if_pos (by omega), if_pos ⟨q2, by omega⟩]
        · rw [if_neg (by omega), if_neg (by omega), if_neg (by omega)]⟩))
    refine ⟨h3, ?_, f1.trans (f2.trans f3), r3⟩
    rw [← e3, H152_17]
    simp only [S152, gFs, pFs, okq, bls, bo_true, eUp_at, eUp_eUp, eKls, cl_some, Option.toList_some, Option.toList_none, List.cons_append, List.nil_append, o.1]
    rw [if_neg (nI_ge htm (by omega)), e1, e2, H152_27]
    simp only [S152, gFs, pFs, okq, bls, bo_true, eUp_at, eUp_eUp, eKls, cl_some, Option.toList_some, Option.toList_none, List.cons_append, List.nil_append]
    rw [if_pos (by decide), H152_83]
    simp only [S152, gFs, pFs, okq, bls, bo_true, eUp_at, eUp_eUp, eKls, cl_some, Option.toList_some, Option.toList_none, List.cons_append, List.nil_append]
    rw [nI_1]
theorem d152 {P Z : Nat → Int32} {cols' : Nat} (hv : NV n) (hga : g + 5 < a) (o : NO h a n) (go : GO h g H W C rows unk cols' rank ld) (ga : GA h g H W C P Z) (b : GB H W C (nM n) (2 * nFr n)) : ∃ h', den 152 [.ref a, .ref g] h = some (none, h') ∧ h'.2 = h.2 ∧ (∀ i, i ≠ g → i ≠ g + 3 → i ≠ g + 4 → h'.1 i = h.1 i) ∧ GO h' g H W C (nM n) (2 * nFr n) (2 * nFr n) rank ld ∧ GC h' g H W C (nM n) (2 * nFr n) (fun _ _ => True) (mM n) := by
  have v1 := hv.1
  obtain ⟨h1, e1, fb1, go1, gc1⟩ := d106 (rc := nM n) (uc := 2 * nFr n) (s := 0) go ga b
  have o1 := o.keep (h' := h1) (fun i i1 i2 => fb1.2 i (by omega) (by omega))
  obtain ⟨h2, e2, f2, go2, gc2⟩ := d152_loop hv hga b (nM n) 0 h1 none (by omega) rfl o1 go1 (gc1.mono (fun r c _ _ _ => ⟨trivial, by
    unfold pm
    rw [if_neg (by omega), if_neg (by omega)]⟩))
  refine ⟨h2, ?_, f2.1.trans fb1.1, fun i i1 i2 i3 => (f2.2 i i2 i3).trans (fb1.2 i i1 i3), go2, gc2⟩
  have x0 := o.1
  rw [E152 a _ x0, ← e2]
  simp only [S152, gFs, pFs, okq, bls, bo_true, eUp_at, eUp_eUp, eKls, cl_some, Option.toList_some, Option.toList_none, List.cons_append, List.nil_append, x0, nI_mul, e1]
end FJ
