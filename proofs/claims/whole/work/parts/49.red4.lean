/-! GRID: reduce -/
def roI (o : Option Nat) : Int32 := match o with
  | none => -1
  | some r => nI r
def RO (h : eH) (g W c : Nat) (ro : Nat → Option Nat) : Prop := ∃ f, h.1 (g + 5) = .inl (0, W, .inl f) ∧ ∀ j, j < c → f j = roI (ro j)
def FR (g : Nat) (h h' : eH) : Prop := h'.2 = h.2 ∧ ∀ i, ¬ (22 ≤ i ∧ i ≤ 25) → ¬ (30 ≤ i ∧ i ≤ 41) → ¬ (g ≤ i ∧ i ≤ g + 5) → h'.1 i = h.1 i
theorem FR.refl (g : Nat) (h : eH) : FR g h h := ⟨rfl, fun _ _ _ _ => rfl⟩
theorem FR.trans {g : Nat} {h h' h'' : eH} (x : FR g h h') (y : FR g h' h'') : FR g h h'' := ⟨y.1.trans x.1, fun i h1 h2 h3 => (y.2 i h1 h2 h3).trans (x.2 i h1 h2 h3)⟩
theorem FC.fr {g : Nat} {h h' : eH} (x : FC g h h') : FR g h h' := ⟨x.1, fun i h1 h2 h3 => x.2 i h1 (by omega) (by omega) (by omega)⟩
theorem F2.fr {a g : Nat} {h h' : eH} (x : F2 a h h') (ha : (30 ≤ a ∧ a ≤ 40) ∨ (g ≤ a ∧ a ≤ g + 4)) : FR g h h' := ⟨x.1, fun i h1 h2 h3 => x.2 i (by omega) (by omega)⟩
theorem FR.up {a g : Nat} (h : eH) (e : va_E) (ha : g ≤ a ∧ a ≤ g + 5) : FR g h (eUp h a e) := ⟨rfl, fun i h1 h2 h3 => eUp_ne (by omega)⟩
def ldI (b : Bool) : Int32 := if b = true then nI 1 else nI 0
theorem nI_nm1 {r : Nat} (hr : r < 2 ^ 31) : ¬ nI r = -1 := by
  intro e
  rw [show (-1 : Int32) = iI (-1) from by decide, nI_I, iI_eq (iok_nI hr) (by unfold iok; omega)] at e
  omega
def RI (h : eH) (g H W C rows unk cols c : Nat) (s : RS) : Prop := DK h ∧ WX h 30 36 ∧ GO h g H W C rows unk cols s.2.1 (ldI s.2.2.2.2) ∧ WV h (g + 1) 36 s.2.2.1 ∧ GC h g H W C rows cols (fun _ _ => True) s.1 ∧ RO h g W c s.2.2.2.1
theorem RO.up {h : eH} {g W c : Nat} {ro : Nat → Option Nat} (x : RO h g W c ro) (v : Option Nat) : ∃ f, h.1 (g + 5) = .inl (0, W, .inl f) ∧ ∀ h' : eH, h'.1 (g + 5) = .inl (0, W, .inl (upd f c (roI v))) → RO h' g W (c + 1) (upo ro c v) := by
  obtain ⟨f, x1, x2⟩ := x
  refine ⟨f, x1, fun h' e => ⟨_, e, fun j hj => ?_⟩⟩
  unfold upd upo
  by_cases hjc : j = c
  · rw [if_pos hjc, if_pos hjc]
  · rw [if_neg hjc, if_neg hjc]
    exact x2 j (by omega)
theorem RO.k {h h' : eH} {g W c : Nat} {ro : Nat → Option Nat} (x : RO h g W c ro) (e : h'.1 (g + 5) = h.1 (g + 5)) : RO h' g W c ro := by
  obtain ⟨f, x1, x2⟩ := x
  exact ⟨f, e.trans x1, x2⟩
theorem ldI01 (b : Bool) : (ldI b == 0 || ldI b == 1) = true := by cases b <;> decide
section GR6
variable {h : eH} {g H W C rows unk cols : Nat} {s : RS}
theorem d122_none {c : Nat} {x2 x3 : Option Value} (k2 : eKl x2 = x2) (k3 : eKl x3 = x3) (b : GB H W C rows cols) (hg : 42 ≤ g) (ri : RI h g H W C rows unk cols c s) (hu : unk ≤ cols) (hc : c < unk) (hrk : s.2.1 ≤ rows) (hf : fr s.1 c (rows - s.2.1) s.2.1 = none) : ∃ h', ru 122 20 [some (.ref g), some (.int (nI c)), x2, x3] [] h = ru 122 20 [some (.ref g), some (.int (nI (c + 1))), some (.int (-1)), x3] [] h' ∧ FR g h h' ∧ RI h' g H W C rows unk cols (c + 1) (rst rows s c) := by
  obtain ⟨dk, w30, o, wb, gc, ro⟩ := ri
  obtain ⟨b1, b2, b3, b4, b5, b6⟩ := id b
  have e1 := d113 (x0 := c) o b gc (by omega) hrk
  rw [hf] at e1
  obtain ⟨f5, r5, rk5⟩ := ro.up none
  obtain ⟨h1, hh1⟩ : ∃ h1, h1 = eUp h (g + 5) (.inl (0, W, .inl (upd f5 c (-1)))) := ⟨_, rfl⟩
  have n1 : ∀ i, i ≠ g + 5 → h1.1 i = h.1 i := fun i hi => by rw [hh1]; exact eUp_ne hi
  have n15 : h1.1 (g + 5) = .inl (0, W, .inl (upd f5 c (-1))) := by rw [hh1]; exact eUp_at ..
  have fr1 : FR g h h1 := by rw [hh1]; exact FR.up h _ (by omega)
  have o1 : GO h1 g H W C rows unk cols s.2.1 (ldI s.2.2.2.2) := o.k (n1 g (by omega))
  have w301 : WX h1 30 36 := w30.keep (n1 _ (by omega)) (n1 _ (by omega))
  obtain ⟨h2, e2, f2, w2⟩ := d86o (r := -1) (c := (c : Int)) (a := 30) o1 b w301 (by unfold iok; omega) (iok_nI (by omega)) (by omega) (by omega)
  rw [show iI (-1) = -1 from by decide, ← nI_I c] at e2
  have o2 := o1.k (f2.2 g (by omega) (by omega))
  have dk1 : DK h1 := dk.keep (fun i hi => n1 i (by omega))
  have dk2 : DK h2 := dk1.keep (fun i hi => f2.2 i (by omega) (by omega))
  have k01 : h1.1 20 = .inr (1, [.ref 21, .ref 30, .ref 32, .ref 34, .ref 36, .ref 38, .ref 40]) := dk1.1
  have k02 : h2.1 20 = .inr (1, [.ref 21, .ref 30, .ref 32, .ref 34, .ref 36, .ref 38, .ref 40]) := dk2.1
  have oo := o
  have oo1 := o1
  have oo2 := o2
  unfold GO at oo oo1 oo2
  have hrs : rst rows s c = (s.1, s.2.1, s.2.2.1, upo s.2.2.2.1 c none, false) := by
    unfold rst
    rw [hf]
  refine ⟨eUp h2 g (.inr (5, [.int (nI H), .int (nI W), .int (nI C), .ref (g + 3), .ref (g + 4), .ref 20, .int (nI rows), .int (nI unk), .int (nI cols), .int (nI s.2.1), .ref (g + 5), .ref (g + 1), .int (nI 0)])), ?_, fr1.trans ((f2.fr (Or.inl (by decide))).trans (FR.up h2 _ (by omega))), ?_⟩
  · rw [H122_20]
    simp only [S122, gFs, pFs, okq, bls, bo_true, eUp_at, eUp_eUp, eKls, cl_some, Option.toList_some, Option.toList_none, List.cons_append, List.nil_append, oo]
    rw [if_neg (nI_ge hc (by omega))]
    simp only [S122, gFs, pFs, okq, bls, bo_true, eUp_at, eUp_eUp, eKls, cl_some, Option.toList_some, Option.toList_none, List.cons_append, List.nil_append, oo, e1, r5]
    rw [if_pos trivial, wI_nI (by omega) (by omega), ← hh1]
    simp only [S122, gFs, pFs, okq, bls, bo_true, eUp_at, eUp_eUp, eKls, cl_some, Option.toList_some, Option.toList_none, List.cons_append, List.nil_append, oo1, k01, e2, oo2, k02]
    by_cases hl : ldI s.2.2.2.2 = 0
    · rw [if_pos hl, if_pos trivial, nI_1]
    · rw [if_neg hl, if_neg (fun e => nI_nm1 (r := s.2.1) (by omega) e.symm), if_pos trivial, nI_1]
  · rw [hrs]
    refine ⟨dk2.keep (fun i hi => eUp_ne (by omega)), w2.x.keep (eUp_ne (by omega)) (eUp_ne (by omega)), ?_, ?_, ?_, ?_⟩
    · exact eUp_at ..
    · exact wb.keep ((eUp_ne (by omega)).trans ((f2.2 _ (by omega) (by omega)).trans (n1 _ (by omega)))) ((eUp_ne (by omega)).trans ((f2.2 _ (by omega) (by omega)).trans (n1 _ (by omega))))
    · exact gc.k ((eUp_ne (by omega)).trans ((f2.2 _ (by omega) (by omega)).trans (n1 _ (by omega)))) ((eUp_ne (by omega)).trans ((f2.2 _ (by omega) (by omega)).trans (n1 _ (by omega))))
    · exact rk5 _ ((eUp_ne (by omega)).trans ((f2.2 _ (by omega) (by omega)).trans n15))
theorem d122_some {c f : Nat} {x2 x3 : Option Value} (k2 : eKl x2 = x2) (k3 : eKl x3 = x3) (b : GB H W C rows cols) (hg : 42 ≤ g) (ri : RI h g H W C rows unk cols c s) (hu : unk ≤ cols) (hc : c < unk) (hrk : s.2.1 ≤ rows) (hf : fr s.1 c (rows - s.2.1) s.2.1 = some f) : ∃ h', ru 122 20 [some (.ref g), some (.int (nI c)), x2, x3] [] h = ru 122 119 [some (.ref g), some (.int (nI c)), some (.int (nI f)), some (.int (nI 0))] [] h' ∧ FR g h h' ∧ DK h' ∧ WV h' 30 36 (s.1 f c) ∧ GO h' g H W C rows unk cols s.2.1 (ldI (s.2.2.2.2 && decide (f = s.2.1) && decide (0 < s.1 f c))) ∧ WV h' (g + 1) 36 s.2.2.1 ∧ GC h' g H W C rows cols (fun _ _ => True) (sw s.1 f s.2.1) ∧ RO h' g W (c + 1) (upo s.2.2.2.1 c (some s.2.1)) := by
  obtain ⟨dk, w30, o, wb, gc, ro⟩ := ri
  obtain ⟨b1, b2, b3, b4, b5, b6⟩ := id b
  obtain ⟨z1, z2, -, -⟩ := fr_some hf
  have e1 := d113 (x0 := c) o b gc (by omega) hrk
  rw [hf] at e1
  obtain ⟨f5, r5, rk5⟩ := ro.up (some s.2.1)
  obtain ⟨h1, hh1⟩ : ∃ h1, h1 = eUp h (g + 5) (.inl (0, W, .inl (upd f5 c (nI s.2.1)))) := ⟨_, rfl⟩
  have n1 : ∀ i, i ≠ g + 5 → h1.1 i = h.1 i := fun i hi => by rw [hh1]; exact eUp_ne hi
  have n15 : h1.1 (g + 5) = .inl (0, W, .inl (upd f5 c (nI s.2.1))) := by rw [hh1]; exact eUp_at ..
  have fr1 : FR g h h1 := by rw [hh1]; exact FR.up h _ (by omega)
  have o1 : GO h1 g H W C rows unk cols s.2.1 (ldI s.2.2.2.2) := o.k (n1 g (by omega))
  have w301 : WX h1 30 36 := w30.keep (n1 _ (by omega)) (n1 _ (by omega))
  have gc1 := gc.k (h' := h1) (n1 _ (by omega)) (n1 _ (by omega))
  have t1 := gc1.fit (r := f) (c := c) trivial (by omega) (by omega)
  obtain ⟨h2, e2, f2, w2, o2, gc2⟩ := d86c (a := 30) (N := 36) (r := f) (c := c) o1 b gc1 trivial w301 (by decide) (by omega) (by omega) (by omega) (by omega)
  have dk1 : DK h1 := dk.keep (fun i hi => n1 i (by omega))
  have dk2 : DK h2 := dk1.keep (fun i hi => f2.2 i (by omega) (by omega))
  have e100 := d100 w2 (by decide)
  have k01 : h1.1 20 = .inr (1, [.ref 21, .ref 30, .ref 32, .ref 34, .ref 36, .ref 38, .ref 40]) := dk1.1
  have k02 : h2.1 20 = .inr (1, [.ref 21, .ref 30, .ref 32, .ref 34, .ref 36, .ref 38, .ref 40]) := dk2.1
  have oo := o
  have oo1 := o1
  have oo2 := o2
  unfold GO at oo oo1 oo2
  obtain ⟨ldn, hldn⟩ : ∃ x, x = (s.2.2.2.2 && decide (f = s.2.1) && decide (0 < s.1 f c)) := ⟨_, rfl⟩
  have fin : ∃ h4, (∀ l, l = ldI ldn → den 115 [.ref g, .int (nI f), .int (nI s.2.1)] (eUp h2 g (.inr (5, [.int (nI H), .int (nI W), .int (nI C), .ref (g + 3), .ref (g + 4), .ref 20, .int (nI rows), .int (nI unk), .int (nI cols), .int (nI s.2.1), .ref (g + 5), .ref (g + 1), .int l]))) = some (none, h4)) ∧ FR g h h4 ∧ DK h4 ∧ WV h4 30 36 (s.1 f c) ∧ GO h4 g H W C rows unk cols s.2.1 (ldI ldn) ∧ WV h4 (g + 1) 36 s.2.2.1 ∧ GC h4 g H W C rows cols (fun _ _ => True) (sw s.1 f s.2.1) ∧ RO h4 g W (c + 1) (upo s.2.2.2.1 c (some s.2.1)) := by
    obtain ⟨h3, hh3⟩ : ∃ h3, h3 = eUp h2 g (.inr (5, [.int (nI H), .int (nI W), .int (nI C), .ref (g + 3), .ref (g + 4), .ref 20, .int (nI rows), .int (nI unk), .int (nI cols), .int (nI s.2.1), .ref (g + 5), .ref (g + 1), .int (ldI ldn)])) := ⟨_, rfl⟩
    have n3 : ∀ i, i ≠ g → h3.1 i = h2.1 i := fun i hi => by rw [hh3]; exact eUp_ne hi
    have o3 : GO h3 g H W C rows unk cols s.2.1 (ldI ldn) := by rw [hh3]; exact eUp_at ..
    have fr3 : FR g h2 h3 := by rw [hh3]; exact FR.up h2 _ (by omega)
    obtain ⟨h4, e4, f4, dk4, o4, gc4⟩ := d115 (a := f) (bb := s.2.1) o3 b hg (dk2.keep (fun i hi => n3 i (by omega))) (gc2.k (n3 _ (by omega)) (n3 _ (by omega))) (by omega) (by omega)
    refine ⟨h4, fun l hl => ?_, fr1.trans ((f2.fr (Or.inl (by decide))).trans (fr3.trans f4.fr)), dk4, w2.keep ?_ ?_, o4, wb.keep ?_ ?_, gc4, rk5 _ ?_⟩
    · rw [hl, ← hh3]
      exact e4
    · exact (f4.2 _ (by omega) (by omega) (by omega) (by omega)).trans (n3 _ (by omega))
    · exact (f4.2 _ (by omega) (by omega) (by omega) (by omega)).trans (n3 _ (by omega))
    · exact (f4.2 _ (by omega) (by omega) (by omega) (by omega)).trans ((n3 _ (by omega)).trans ((f2.2 _ (by omega) (by omega)).trans (n1 _ (by omega))))
    · exact (f4.2 _ (by omega) (by omega) (by omega) (by omega)).trans ((n3 _ (by omega)).trans ((f2.2 _ (by omega) (by omega)).trans (n1 _ (by omega))))
    · exact (f4.2 _ (by omega) (by omega) (by omega) (by omega)).trans ((n3 _ (by omega)).trans ((f2.2 _ (by omega) (by omega)).trans n15))
  rw [← hldn]
  obtain ⟨h4, e4, r4⟩ := fin
  refine ⟨h4, ?_, r4⟩
  have e40 : ldn = false → den 115 [.ref g, .int (nI f), .int (nI s.2.1)] (eUp h2 g (.inr (5, [.int (nI H), .int (nI W), .int (nI C), .ref (g + 3), .ref (g + 4), .ref 20, .int (nI rows), .int (nI unk), .int (nI cols), .int (nI s.2.1), .ref (g + 5), .ref (g + 1), .int (nI 0)]))) = some (none, h4) := fun e => e4 _ (by rw [e]; rfl)
  have e41 : ldn = true → den 115 [.ref g, .int (nI f), .int (nI s.2.1)] (eUp h2 g (.inr (5, [.int (nI H), .int (nI W), .int (nI C), .ref (g + 3), .ref (g + 4), .ref 20, .int (nI rows), .int (nI unk), .int (nI cols), .int (nI s.2.1), .ref (g + 5), .ref (g + 1), .int (nI 1)]))) = some (none, h4) := fun e => e4 _ (by rw [e]; rfl)
  rw [H122_20]
  simp only [S122, gFs, pFs, okq, bls, bo_true, eUp_at, eUp_eUp, eKls, cl_some, Option.toList_some, Option.toList_none, List.cons_append, List.nil_append, oo]
  rw [if_neg (nI_ge hc (by omega))]
  simp only [S122, gFs, pFs, okq, bls, bo_true, eUp_at, eUp_eUp, eKls, cl_some, Option.toList_some, Option.toList_none, List.cons_append, List.nil_append, oo, e1, r5]
  rw [if_neg (nI_nm1 (by omega)), wI_nI (by omega) (by omega), ← hh1]
  simp only [S122, gFs, pFs, okq, bls, bo_true, eUp_at, eUp_eUp, eKls, cl_some, Option.toList_some, Option.toList_none, List.cons_append, List.nil_append, oo1, k01, e2, oo2, k02, e100]
  by_cases q1 : s.2.2.2.2 = true
  · rw [q1, if_neg (show ¬ ldI true = 0 by decide)]
    by_cases q2 : f = s.2.1
    · rw [if_pos (by rw [q2])]
      by_cases q3 : 0 < s.1 f c
      · have hl := e41 (by rw [hldn, q1, decide_eq_true q2, decide_eq_true q3]; rfl)
        rw [if_neg (by rw [if_neg (by omega), if_neg (by omega)]; decide), if_neg (nI_nm1 (by omega))]
        simp only [S122, gFs, pFs, okq, bls, bo_true, eUp_at, eUp_eUp, eKls, cl_some, Option.toList_some, Option.toList_none, List.cons_append, List.nil_append, hl]
      · have hl := e40 (by rw [hldn, decide_eq_false q3, Bool.and_false])
        rw [if_pos (by
          by_cases q4 : s.1 f c = 0
          · rw [if_pos q4]; decide
          · rw [if_neg q4, if_pos (by omega)]; decide), if_neg (nI_nm1 (by omega))]
        simp only [S122, gFs, pFs, okq, bls, bo_true, eUp_at, eUp_eUp, eKls, cl_some, Option.toList_some, Option.toList_none, List.cons_append, List.nil_append, hl]
    · have hl := e40 (by rw [hldn, decide_eq_false q2, Bool.and_false, Bool.false_and])
      rw [if_neg (fun e => q2 ((nI_eq (by omega) (by omega)).mp e)), if_neg (nI_nm1 (by omega))]
      simp only [S122, gFs, pFs, okq, bls, bo_true, eUp_at, eUp_eUp, eKls, cl_some, Option.toList_some, Option.toList_none, List.cons_append, List.nil_append, hl]
  · have q1' : s.2.2.2.2 = false := by
      cases hq : s.2.2.2.2 with
      | true => exact absurd hq q1
      | false => rfl
    have hl := e40 (by rw [hldn, q1', Bool.false_and, Bool.false_and])
    rw [q1', if_pos (show ldI false = 0 by decide), if_neg (nI_nm1 (by omega))]
    simp only [S122, gFs, pFs, okq, bls, bo_true, eUp_at, eUp_eUp, eKls, cl_some, Option.toList_some, Option.toList_none, List.cons_append, List.nil_append, hl]
end GR6
