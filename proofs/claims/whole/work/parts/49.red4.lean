/-! GRID: reduce -/
def roI (o : Option Nat) : Int32 := match o with
  | none => -1
  | some r => nI r
def RO (h : eH) (g W c : Nat) (ro : Nat → Option Nat) : Prop := ∃ f, h.1 (g + 5) = .inl (0, W, .inl f) ∧ ∀ j, j < c → f j = roI (ro j)
def FR (g : Nat) (h h' : eH) : Prop := h'.2 = h.2 ∧ ∀ i, ¬ (22 ≤ i ∧ i ≤ 25) → ¬ (30 ≤ i ∧ i ≤ 41) → ¬ (g ≤ i ∧ i ≤ g + 5) → h'.1 i = h.1 i
theorem FR.refl (g : Nat) (h : eH) : FR g h h := ⟨rfl, fun _ _ _ _ => rfl⟩
theorem FR.trans {g : Nat} {h h' h'' : eH} (x : FR g h h') (y : FR g h' h'') : FR g h h'' := ⟨y.1.trans x.1, fun i h1 h2 h3 => (y.2 i h1 h2 h3).trans (x.2 i h1 h2 h3)⟩
theorem FC.fr {g : Nat} {h h' : eH} (x : FC g h h') : FR g h h' := ⟨x.1, fun i h1 h2 h3 => x.2 i h1 (by omega) (by omega) (by omega)⟩
theorem F2.fr {a g : Nat} {h h' : eH} (x : F2 a h h') (ha : (30 ≤ a ∧ a ≤ 40) ∨ (g ≤ a ∧ a ≤ g + 4)) : FR g h h' := ⟨x.1, fun i h1 h2 h3 => x.2 i (by omega) (by omega)⟩
theorem FR.up {a g : Nat} (h : eH) (e : va_E) (ha : g ≤ a ∧ a ≤ g + 5) : FR g h (eUp h a e) := ⟨rfl, fun i h1 h2 h3 => eUp_ne (by omega)⟩
def ldI (b : Bool) : Int32 := if b = true then 1 else 0
def RI (h : eH) (g H W C rows unk cols c : Nat) (s : RS) : Prop := DK h ∧ WX h 30 36 ∧ GO h g H W C rows unk cols s.2.1 (ldI s.2.2.2.2) ∧ WV h (g + 1) 36 s.2.2.1 ∧ GC h g H W C rows cols (fun _ _ => True) s.1 ∧ RO h g W c s.2.2.2.1
theorem RO.up {h : eH} {g W c : Nat} {ro : Nat → Option Nat} (x : RO h g W c ro) (v : Option Nat) : ∃ f, h.1 (g + 5) = .inl (0, W, .inl f) ∧ ∀ h' : eH, h'.1 (g + 5) = .inl (0, W, .inl (upd f c (roI v))) → RO h' g W (c + 1) (upo ro c v) := by
  obtain ⟨f, x1, x2⟩ := x
  refine ⟨f, x1, fun h' e => ⟨_, e, fun j hj => ?_⟩⟩
  unfold upd upo
  by_cases hjc : j = c
  · rw [if_pos hjc, if_pos hjc]
  · rw [if_neg hjc, if_neg hjc]
    exact x2 j (by omega)
theorem RO.k {h h' : eH} {g W c : Nat} {ro : Nat → Option Nat} (x : RO h g W c ro) (e : h'.1 (g + 5) = h.1 (g + 5)) : RO h' g W c ro := by
  obtain ⟨f, x1, x2⟩ := x
  exact ⟨f, e.trans x1, x2⟩
theorem ldI01 (b : Bool) : (ldI b == 0 || ldI b == 1) = true := by cases b <;> decide
section GR6
variable {h : eH} {g H W C rows unk cols : Nat} {s : RS}
theorem d122_none {c : Nat} {x2 x3 : Option Value} (k2 : eKl x2 = x2) (k3 : eKl x3 = x3) (b : GB H W C rows cols) (hg : 42 ≤ g) (ri : RI h g H W C rows unk cols c s) (hu : unk ≤ cols) (hc : c < unk) (hrk : s.2.1 ≤ rows) (hf : fr s.1 c (rows - s.2.1) s.2.1 = none) : ∃ h', ru 122 20 [some (.ref g), some (.int (nI c)), x2, x3] [] h = ru 122 20 [some (.ref g), some (.int (nI (c + 1))), some (.int (-1)), x3] [] h' ∧ FR g h h' ∧ RI h' g H W C rows unk cols (c + 1) (rst rows s c) := by
  obtain ⟨dk, w30, o, wb, gc, ro⟩ := ri
  obtain ⟨b1, b2, b3, b4, b5, b6⟩ := id b
  have e1 := d113 (x0 := c) o b gc (by omega) hrk
  rw [hf] at e1
  obtain ⟨f5, r5, rk5⟩ := ro.up none
  let h1 : eH := eUp h (g + 5) (.inl (0, W, .inl (upd f5 c (-1))))
  have o1 : GO h1 g H W C rows unk cols s.2.1 (ldI s.2.2.2.2) := o.k (eUp_ne (by omega))
  have w301 : WX h1 30 36 := w30.keep (eUp_ne (by omega)) (eUp_ne (by omega))
  obtain ⟨h2, e2, f2, w2⟩ := d86o (r := -1) (c := (c : Int)) (a := 30) o1 b w301 (by decide) (iok_nI (by omega)) (by omega) (by omega)
  rw [show iI (-1) = -1 from by decide, ← nI_I c] at e2
  have o2 := o1.k (f2.2 g (by omega) (by omega))
  have dk1 : DK h1 := dk.keep (fun i hi => eUp_ne (by omega))
  have dk2 : DK h2 := dk1.keep (fun i hi => f2.2 i (by omega) (by omega))
  have k01 : h1.1 20 = .inr (1, [.ref 21, .ref 30, .ref 32, .ref 34, .ref 36, .ref 38, .ref 40]) := dk1.1
  have k02 : h2.1 20 = .inr (1, [.ref 21, .ref 30, .ref 32, .ref 34, .ref 36, .ref 38, .ref 40]) := dk2.1
  have oo := o
  have oo1 := o1
  have oo2 := o2
  unfold GO at oo oo1 oo2
  have hrs : rst rows s c = (s.1, s.2.1, s.2.2.1, upo s.2.2.2.1 c none, false) := by
    unfold rst
    rw [hf]
  refine ⟨eUp h2 g (.inr (5, [.int (nI H), .int (nI W), .int (nI C), .ref (g + 3), .ref (g + 4), .ref 20, .int (nI rows), .int (nI unk), .int (nI cols), .int (nI s.2.1), .ref (g + 5), .ref (g + 1), .int 0])), ?_, (FR.up h _ (by omega)).trans ((f2.fr (Or.inl (by decide))).trans (FR.up h2 _ (by omega))), ?_⟩
  · rw [H122_20]
    simp only [S122, gFs, pFs, okq, bls, bo_true, eUp_at, eUp_eUp, eKls, cl_some, Option.toList_some, Option.toList_none, List.cons_append, List.nil_append, oo]
    rw [if_neg (nI_ge hc (by omega))]
    simp only [S122, gFs, pFs, okq, bls, bo_true, eUp_at, eUp_eUp, eKls, cl_some, Option.toList_some, Option.toList_none, List.cons_append, List.nil_append, oo, e1, r5]
    rw [if_pos (show (-1 : Int32) = -1 from rfl)]
    sorry
  · rw [hrs]
    refine ⟨dk2.keep (fun i hi => eUp_ne (by omega)), w2.x.keep (eUp_ne (by omega)) (eUp_ne (by omega)), ?_, ?_, ?_, ?_⟩
    · exact eUp_at ..
    · exact wb.keep ((eUp_ne (by omega)).trans ((f2.2 _ (by omega) (by omega)).trans (eUp_ne (by omega)))) ((eUp_ne (by omega)).trans ((f2.2 _ (by omega) (by omega)).trans (eUp_ne (by omega))))
    · exact gc.k ((eUp_ne (by omega)).trans ((f2.2 _ (by omega) (by omega)).trans (eUp_ne (by omega)))) ((eUp_ne (by omega)).trans ((f2.2 _ (by omega) (by omega)).trans (eUp_ne (by omega))))
    · exact rk5 _ ((eUp_ne (by omega)).trans ((f2.2 _ (by omega) (by omega)).trans (eUp_at ..)))
end GR6
