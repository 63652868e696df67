/-! CONE: tryPlane, isOpen -/
def TD (q : Nat → Nat → Int) (M : Nat) (R : Nat → Bool) (v : Nat → Int) : Prop := ∀ m, m < M → OS q v M → dot (q m) v ≠ 0 → R m = true
def SO (q : Nat → Nat → Int) (M : Nat) (R R0 : Nat → Bool) : Prop := ∀ m, m < M → R m = true → R0 m = true ∨ ∃ v, OS q v M ∧ dot (q m) v ≠ 0
def MO (M : Nat) (R R' : Nat → Bool) : Prop := ∀ m, m < M → R m = true → R' m = true
theorem TD.mo {q : Nat → Nat → Int} {M : Nat} {R R' : Nat → Bool} {v : Nat → Int} (x : TD q M R v) (m : MO M R R') : TD q M R' v := fun j hj h1 h2 => m j hj (x j hj h1 h2)
theorem MO.trans {M : Nat} {R R' R'' : Nat → Bool} (x : MO M R R') (y : MO M R' R'') : MO M R R'' := fun j hj h => y j hj (x j hj h)
/-- the frame of all of it -/
def FZ (h h' : eH) : Prop := h'.2 = h.2 ∧ ∀ i, ¬ (62 ≤ i ∧ i ≤ 83) → h'.1 i = h.1 i
theorem FZ.refl (h : eH) : FZ h h := ⟨rfl, fun _ _ => rfl⟩
theorem FZ.trans {h h' h'' : eH} (x : FZ h h') (y : FZ h' h'') : FZ h h'' := ⟨y.1.trans x.1, fun i h1 => (y.2 i h1).trans (x.2 i h1)⟩
theorem FY.fz {h h' : eH} (x : FY h h') : FZ h h' := ⟨x.1, fun i hi => x.2 i (by omega)⟩
theorem FT.fz {t : Nat} {h h' : eH} (x : FT t h h') (ht : t = 62 ∨ t = 70) : FZ h h' := ⟨x.1, fun i hi => x.2 i (by omega) (by omega) (by omega)⟩
theorem CS.ft {h h' : eH} {t M : Nat} {q : Nat → Nat → Int} {R : Nat → Bool} (cs : CS h M q R) (x : FT t h h') (ht : t = 62 ∨ t = 70) (w : WX h' 80 36) : CS h' M q R := by
  obtain ⟨g1, g2, g3⟩ := cs.tr (h' := h') (fun i hi => x.2 i (by omega) (by omega) (by omega))
  obtain ⟨c1, c2, c3, c4, c5, c6, ⟨f, y1, y2⟩⟩ := cs
  exact ⟨g1, g2, g3, c4.keep (x.2 _ (by omega) (by omega) (by omega)) (x.2 _ (by omega) (by omega) (by omega)), w, c6.keep (x.2 _ (by omega) (by omega) (by omega)), f, (x.2 _ (by omega) (by omega) (by omega)).trans y1, y2⟩
section CP
variable {h : eH} {M : Nat} {q : Nat → Nat → Int} {R : Nat → Bool}
theorem d104_loop {nv : Nat → Int} (hM : M ≤ 14) (hq : ∀ m, m < M → ∀ i, i < 3 → (q m i).natAbs < BB ^ 5) (hn : ∀ i, i < 3 → (nv i).natAbs < BB ^ 11) : ∀ r m h R, m + r = M → CS h M q R → TR h 62 36 nv → TX h 70 36 → ∃ h' R', ru 104 2 [some (.ref 60), some (.int (nI m))] [] h = some (none, h') ∧ FZ h h' ∧ CS h' M q R' ∧ TR h' 62 36 nv ∧ TX h' 70 36 ∧ MO M R R' ∧ SO q M R' R ∧ ∀ j, m ≤ j → j < M → TD q M R' (crs nv (q j)) := by
  intro r
  induction r with
  | zero =>
    intro m h R hm cs xn xr
    refine ⟨h, R, ?_, FZ.refl _, cs, xn, xr, fun j hj e => e, fun j hj e => Or.inl e, fun j j1 j2 => by omega⟩
    have c0 := cs.1
    unfold CO at c0
    rw [H104_2]
    simp only [S104, gFs, pFs, okq, bls, bo_true, eUp_at, eUp_eUp, eKls, cl_some, Option.toList_some, Option.toList_none, List.cons_append, List.nil_append, c0]
    rw [if_pos (nI_le (by omega) (by omega))]
  | succ r ih =>
    intro m h R hm cs xn xr
    have hmM : m < M := by omega
    obtain ⟨c1, c2, c3, c4, c5, c6, c7⟩ := id cs
    obtain ⟨h1, e1, f1, x1, w1⟩ := d103 (t := 70) (s := 62) (u := 84 + 8 * m) (Or.inr rfl) (Or.inr rfl) (Or.inl (by omega)) (by decide) (by omega) xr xn (c3 m hmM) c5 (by decide) (by decide) hn (hq m hmM) (by decide)
    have cs1 := cs.ft f1 (Or.inr rfl) w1
    have xn1 := xn.keep (h' := h1) (fun i i1 i2 => f1.2 i (by omega) (by omega) (by omega))
    have b17 : ∀ i, i < 3 → (crs nv (q m) i).natAbs < BB ^ 18 := fun i hi => Nat.lt_of_lt_of_le (crs_lt hn (hq m hmM) i) (Nat.pow_le_pow_right (by decide) (by decide))
    obtain ⟨h2, R2, e2, f2, cs2, r2⟩ := d102 hM (Or.inr (Or.inr rfl)) (by decide) (by decide) hq b17 cs1 x1
    have xn2 := xn1.keep (h' := h2) (fun i i1 i2 => f2.2 i (by omega))
    have x2 := x1.keep (h' := h2) (fun i i1 i2 => f2.2 i (by omega))
    obtain ⟨h3, R3, e3, f3, cs3, xn3, xr3, mo3, so3, td3⟩ := ih (m + 1) h2 R2 (by omega) cs2 xn2 x2.x
    have mo2 : MO M R R2 := fun j hj e => (r2 j hj).mpr (Or.inl e)
    refine ⟨h3, R3, ?_, (f1.fz (Or.inr rfl)).trans (f2.fz.trans f3), cs3, xn3, xr3, mo2.trans mo3, fun j hj e => ?_, fun j j1 j2 => ?_⟩
    · have c0 := c1
      unfold CO at c0
      have k0 := cs1.1
      unfold CO at k0
      rw [← e3, H104_2]
      simp only [S104, gFs, pFs, okq, bls, bo_true, eUp_at, eUp_eUp, eKls, cl_some, Option.toList_some, Option.toList_none, List.cons_append, List.nil_append, c0]
      rw [if_neg (nI_ge hmM (by omega))]
      simp only [S104, gFs, pFs, okq, bls, bo_true, eUp_at, eUp_eUp, eKls, cl_some, Option.toList_some, Option.toList_none, List.cons_append, List.nil_append, c0, c2.get (show m < 14 by omega), e1, k0, e2]
      rw [nI_1]
    · rcases so3 j hj e with e | e
      · rcases (r2 j hj).mp e with e | e
        · exact Or.inl e
        · exact Or.inr ⟨_, e⟩
      · exact Or.inr e
    · by_cases qj : j = m
      · rw [qj]
        exact TD.mo (fun i hi o1 o2 => (r2 i hi).mpr (Or.inr ⟨o1, o2⟩)) mo3
      · exact td3 j (by omega) j2
theorem d104 {nv : Nat → Int} (hM : M ≤ 14) (hq : ∀ m, m < M → ∀ i, i < 3 → (q m i).natAbs < BB ^ 5) (hn : ∀ i, i < 3 → (nv i).natAbs < BB ^ 11) (cs : CS h M q R) (xn : TR h 62 36 nv) (xr : TX h 70 36) : ∃ h' R', den 104 [.ref 60] h = some (none, h') ∧ FZ h h' ∧ CS h' M q R' ∧ TR h' 62 36 nv ∧ TX h' 70 36 ∧ MO M R R' ∧ SO q M R' R ∧ ∀ j, j < M → TD q M R' (crs nv (q j)) := by
  obtain ⟨h1, R1, e1, f1, a1, a2, a3, a4, a5, a6⟩ := d104_loop hM hq hn M 0 h R (by omega) cs xn xr
  refine ⟨h1, R1, ?_, f1, a1, a2, a3, a4, a5, fun j hj => a6 j (Nat.zero_le _) hj⟩
  rw [E104 60 cs.1, ← e1]
  simp only [S104, gFs, pFs, okq, bls, bo_true, eUp_at, eUp_eUp, eKls, cl_some, Option.toList_some, Option.toList_none, List.cons_append, List.nil_append]
/-- what has been tried of the pairs up to (a, b) -/
def PL (q : Nat → Nat → Int) (M a b : Nat) (R : Nat → Bool) (pt : Bool) : Prop := (∀ a' b', b' < a' → (a' < a ∨ (a' = a ∧ b' < b)) → TD q M R (crs (q a') (q b'))) ∧ (pt = true → ∃ a' b', a' < M ∧ b' < M ∧ n0t (crs (q a') (q b')) = false ∧ ∀ j, j < M → TD q M R (crs (crs (q a') (q b')) (q j))) ∧ (pt = false → ∀ a' b', b' < a' → (a' < a ∨ (a' = a ∧ b' < b)) → n0t (crs (q a') (q b')) = true)
theorem d105_b {a : Nat} {R0 : Nat → Bool} {n1 n2 : Nat} (hM : M ≤ 14) (hq : ∀ m, m < M → ∀ i, i < 3 → (q m i).natAbs < BB ^ 5) (ha : a < M) : ∀ r b h R pt, b + r = a → CS h M q R → TX h 62 36 → TX h 70 36 → SO q M R R0 → PL q M a b R pt → (∀ a', a' ≤ a → TD q M R (q a')) → ∃ h' R' pt', ru 105 41 [some (.ref 60), some (.ref n1), some (.ref n2), some (.int (ldI pt)), some (.int (nI a)), some (.int (nI b))] [] h = ru 105 11 [some (.ref 60), some (.ref n1), some (.ref n2), some (.int (ldI pt')), some (.int (nI (a + 1))), some (.int (nI a))] [] h' ∧ FZ h h' ∧ CS h' M q R' ∧ TX h' 62 36 ∧ TX h' 70 36 ∧ MO M R R' ∧ SO q M R' R0 ∧ PL q M (a + 1) 0 R' pt' ∧ (∀ a', a' ≤ a → TD q M R' (q a')) := by
  intro r
  induction r with
  | zero =>
    intro b h R pt hb cs xn xr so pl td
    have : b = a := by omega
    subst this
    refine ⟨h, R, pt, ?_, FZ.refl _, cs, xn, xr, fun j hj e => e, so, ?_, td⟩
    · rw [H105_41]
      simp only [S105, gFs, pFs, okq, bls, bo_true, eUp_at, eUp_eUp, eKls, cl_some, Option.toList_some, Option.toList_none, List.cons_append, List.nil_append]
      rw [if_pos (nI_le (Nat.le_refl _) (by omega)), H105_107]
      simp only [S105, gFs, pFs, okq, bls, bo_true, eUp_at, eUp_eUp, eKls, cl_some, Option.toList_some, Option.toList_none, List.cons_append, List.nil_append]
      rw [nI_1]
    · exact ⟨fun a' b' h1 h2 => pl.1 a' b' h1 (by omega), pl.2.1, fun h0 a' b' h1 h2 => pl.2.2 h0 a' b' h1 (by omega)⟩
  | succ r ih =>
    intro b h R pt hb cs xn xr so pl td
    have hbM : b < M := by omega
    obtain ⟨c1, c2, c3, c4, c5, c6, c7⟩ := id cs
    obtain ⟨h1, e1, f1, x1, w1⟩ := d103 (t := 62) (s := 84 + 8 * a) (u := 84 + 8 * b) (Or.inl rfl) (Or.inl (by omega)) (Or.inl (by omega)) (by omega) (by omega) xn (c3 a ha) (c3 b hbM) c5 (by decide) (by decide) (hq a ha) (hq b hbM) (by decide)
    have cs1 := cs.ft f1 (Or.inl rfl) w1
    have xr1 := xr.keep (h' := h1) (fun i i1 i2 => f1.2 i (by omega) (by omega) (by omega))
    have b11 : ∀ i, i < 3 → (crs (q a) (q b) i).natAbs < BB ^ 11 := fun i hi => crs_lt (hq a ha) (hq b hbM) i
    have b18 : ∀ i, i < 3 → (crs (q a) (q b) i).natAbs < BB ^ 18 := fun i hi => Nat.lt_of_lt_of_le (b11 i hi) (Nat.pow_le_pow_right (by decide) (by decide))
    obtain ⟨h2, R2, e2, f2, cs2, r2⟩ := d102 hM (Or.inr (Or.inl rfl)) (by decide) (by decide) hq b18 cs1 x1
    have x2 := x1.keep (h' := h2) (fun i i1 i2 => f2.2 i (by omega))
    have xr2 := xr1.keep (h' := h2) (fun i i1 i2 => f2.2 i (by omega))
    have mo2 : MO M R R2 := fun j hj e => (r2 j hj).mpr (Or.inl e)
    have so2 : SO q M R2 R0 := fun j hj e => by
      rcases (r2 j hj).mp e with e | e
      · exact so j hj e
      · exact Or.inr ⟨_, e⟩
    have td2 : TD q M R2 (crs (q a) (q b)) := fun i hi o1 o2 => (r2 i hi).mpr (Or.inr ⟨o1, o2⟩)
    have tda2 : ∀ a', a' ≤ a → TD q M R2 (q a') := fun a' h' => (td a' h').mo mo2
    have c0 := c1
    unfold CO at c0
    have k0 := cs1.1
    unfold CO at k0
    have g0 := cs2.1
    unfold CO at g0
    have e93 := d93 x2 (by decide)
    have split2 : ∀ {P : Nat → Nat → Prop}, (∀ a' b', b' < a' → (a' < a ∨ (a' = a ∧ b' < b)) → P a' b') → P a b → ∀ a' b', b' < a' → (a' < a ∨ (a' = a ∧ b' < b + 1)) → P a' b' := by
      intro P h1 h2 a' b' h3 h4
      by_cases qq : a' = a ∧ b' = b
      · rw [qq.1, qq.2]; exact h2
      · exact h1 a' b' h3 (by omega)
    have fz2 : FZ h h2 := (f1.fz (Or.inl rfl)).trans f2.fz
    have head : ru 105 41 [some (.ref 60), some (.ref n1), some (.ref n2), some (.int (ldI pt)), some (.int (nI a)), some (.int (nI b))] [] h = if ldI pt = 0 then (if ldI (n0t (crs (q a) (q b))) = 0 then cl (den 104 [.ref 60] h2) (fun v h' => ru 105 41 [some (.ref 60), some (.ref n1), some (.ref n2), some (.int (nI 1)), some (.int (nI a)), some (.int (nI (b + 1)))] (v.toList ++ []) h') else ru 105 41 [some (.ref 60), some (.ref n1), some (.ref n2), some (.int (ldI pt)), some (.int (nI a)), some (.int (nI (b + 1)))] [] h2) else ru 105 41 [some (.ref 60), some (.ref n1), some (.ref n2), some (.int (ldI pt)), some (.int (nI a)), some (.int (nI (b + 1)))] [] h2 := by
      rw [H105_41]
      simp only [S105, gFs, pFs, okq, bls, bo_true, eUp_at, eUp_eUp, eKls, cl_some, Option.toList_some, Option.toList_none, List.cons_append, List.nil_append]
      rw [if_neg (nI_ge (by omega) (by omega))]
      simp only [S105, gFs, pFs, okq, bls, bo_true, eUp_at, eUp_eUp, eKls, cl_some, Option.toList_some, Option.toList_none, List.cons_append, List.nil_append, c0, c2.get (show a < 14 by omega), c2.get (show b < 14 by omega), e1, k0, e2, g0, e93]
      simp only [nI_1]
    have go : ∀ h3 R3 pt3, ru 105 41 [some (.ref 60), some (.ref n1), some (.ref n2), some (.int (ldI pt)), some (.int (nI a)), some (.int (nI b))] [] h = ru 105 41 [some (.ref 60), some (.ref n1), some (.ref n2), some (.int (ldI pt3)), some (.int (nI a)), some (.int (nI (b + 1)))] [] h3 → FZ h h3 → CS h3 M q R3 → TX h3 62 36 → TX h3 70 36 → MO M R R3 → SO q M R3 R0 → PL q M a (b + 1) R3 pt3 → (∀ a', a' ≤ a → TD q M R3 (q a')) → ∃ h' R' pt', ru 105 41 [some (.ref 60), some (.ref n1), some (.ref n2), some (.int (ldI pt)), some (.int (nI a)), some (.int (nI b))] [] h = ru 105 11 [some (.ref 60), some (.ref n1), some (.ref n2), some (.int (ldI pt')), some (.int (nI (a + 1))), some (.int (nI a))] [] h' ∧ FZ h h' ∧ CS h' M q R' ∧ TX h' 62 36 ∧ TX h' 70 36 ∧ MO M R R' ∧ SO q M R' R0 ∧ PL q M (a + 1) 0 R' pt' ∧ (∀ a', a' ≤ a → TD q M R' (q a')) := by
      intro h3 R3 pt3 a1 a2 a3 a4 a5 am a6 a7 a8
      obtain ⟨h4, R4, pt4, b1, b2, b3, b4, b5, bm, b6⟩ := ih (b + 1) h3 R3 pt3 (by omega) a3 a4 a5 a6 a7 a8
      exact ⟨h4, R4, pt4, a1.trans b1, a2.trans b2, b3, b4, b5, am.trans bm, b6⟩
    cases pt with
    | true =>
      refine go h2 R2 true ?_ fz2 cs2 x2.x xr2 mo2 so2 ⟨split2 (fun a' b' g1 g2 => (pl.1 a' b' g1 g2).mo mo2) td2, fun _ => ?_, fun e => by cases e⟩ tda2
      · rw [head, if_neg (show ¬ ldI true = 0 by decide)]
      · obtain ⟨a', b', g1, g2, g3, g4⟩ := pl.2.1 rfl
        exact ⟨a', b', g1, g2, g3, fun j hj => (g4 j hj).mo mo2⟩
    | false =>
      cases hn : n0t (crs (q a) (q b)) with
      | true =>
        refine go h2 R2 false ?_ fz2 cs2 x2.x xr2 mo2 so2 ⟨split2 (fun a' b' g1 g2 => (pl.1 a' b' g1 g2).mo mo2) td2, (fun e => by cases e), fun _ => split2 (fun a' b' g1 g2 => pl.2.2 rfl a' b' g1 g2) hn⟩ tda2
        rw [head, hn, if_pos (show ldI false = 0 by decide), if_neg (show ¬ ldI true = 0 by decide)]
      | false =>
        obtain ⟨h3, R3, e3, f3, cs3, xn3, xr3, mo3, so3, td3⟩ := d104 hM hq b11 cs2 x2 xr2
        refine go h3 R3 true ?_ (fz2.trans f3) cs3 xn3.x xr3 (mo2.trans mo3) (fun j hj e => ?_) ⟨split2 (fun a' b' g1 g2 => (pl.1 a' b' g1 g2).mo (mo2.trans mo3)) (td2.mo mo3), fun _ => ⟨a, b, ha, hbM, hn, td3⟩, fun e => by cases e⟩ (fun a' h' => (tda2 a' h').mo mo3)
        · rw [head, hn, if_pos (show ldI false = 0 by decide), if_pos (show ldI false = 0 by decide), e3, cl_some]
          rfl
        · rcases so3 j hj e with e | e
          · exact so2 j hj e
          · exact Or.inr e
theorem d105_a {R0 : Nat → Bool} {n1 n2 : Nat} {x5 : Option Value} (hM : M ≤ 14) (hq : ∀ m, m < M → ∀ i, i < 3 → (q m i).natAbs < BB ^ 5) : ∀ r a h R pt x5, a + r = M → CS h M q R → TX h 62 36 → TX h 70 36 → SO q M R R0 → PL q M a 0 R pt → (∀ a', a' < a → TD q M R (q a')) → ∃ h' R', ru 105 11 [some (.ref 60), some (.ref n1), some (.ref n2), some (.int (ldI pt)), some (.int (nI a)), x5] [] h = some (some (.int (ldI (alr R' M))), h') ∧ FZ h h' ∧ CS h' M q R' ∧ TX h' 62 36 ∧ TX h' 70 36 ∧ MO M R R' ∧ SO q M R' R0 ∧ (alr R' M = true ∨ ((∀ a', a' < M → TD q M R' (q a')) ∧ ∃ pt', PL q M M 0 R' pt')) := by
  intro r
  induction r with
  | zero =>
    intro a h R pt x5 hb cs xn xr so pl td
    have : a = M := by omega
    subst this
    refine ⟨h, R, ?_, FZ.refl _, cs, xn, xr, fun j hj e => e, so, Or.inr ⟨td, pt, pl⟩⟩
    have e81 := d81 cs.1 cs.2.2.2.2.2.2 hM
    have c0 := cs.1
    unfold CO at c0
    rw [H105_11]
    simp only [S105, gFs, pFs, okq, bls, bo_true, eUp_at, eUp_eUp, eKls, cl_some, Option.toList_some, Option.toList_none, List.cons_append, List.nil_append, c0]
    rw [if_pos (nI_le (Nat.le_refl _) (by omega)), H105_113]
    simp only [S105, gFs, pFs, okq, bls, bo_true, eUp_at, eUp_eUp, eKls, cl_some, Option.toList_some, Option.toList_none, List.cons_append, List.nil_append, e81]
    rw [ldI01, bo_true]
  | succ r ih =>
    intro a h R pt x5 hb cs xn xr so pl td
    have haM : a < M := by omega
    obtain ⟨c1, c2, c3, c4, c5, c6, c7⟩ := id cs
    have e81 := d81 c1 c7 hM
    have c0 := c1
    unfold CO at c0
    cases hal : alr R M with
    | true =>
      rw [hal] at e81
      refine ⟨h, R, ?_, FZ.refl _, cs, xn, xr, fun j hj e => e, so, Or.inl hal⟩
      rw [H105_11]
      simp only [S105, gFs, pFs, okq, bls, bo_true, eUp_at, eUp_eUp, eKls, cl_some, Option.toList_some, Option.toList_none, List.cons_append, List.nil_append, c0]
      rw [if_neg (nI_ge haM (by omega))]
      simp only [S105, gFs, pFs, okq, bls, bo_true, eUp_at, eUp_eUp, eKls, cl_some, Option.toList_some, Option.toList_none, List.cons_append, List.nil_append, e81]
      rw [if_neg (show ¬ ldI true = 0 by decide), H105_113]
      simp only [S105, gFs, pFs, okq, bls, bo_true, eUp_at, eUp_eUp, eKls, cl_some, Option.toList_some, Option.toList_none, List.cons_append, List.nil_append, e81]
      rw [ldI01, bo_true, hal]
    | false =>
      rw [hal] at e81
      have b18 : ∀ i, i < 3 → (q a i).natAbs < BB ^ 18 := fun i hi => Nat.lt_of_lt_of_le (hq a haM i hi) (Nat.pow_le_pow_right (by decide) (by decide))
      obtain ⟨h2, R2, e2, f2, cs2, r2⟩ := d102 (u := 84 + 8 * a) hM (Or.inl (by omega)) (by omega) (by decide) hq b18 cs (c3 a haM)
      have mo2 : MO M R R2 := fun j hj e => (r2 j hj).mpr (Or.inl e)
      have so2 : SO q M R2 R0 := fun j hj e => by
        rcases (r2 j hj).mp e with e | e
        · exact so j hj e
        · exact Or.inr ⟨_, e⟩
      have pl2 : PL q M a 0 R2 pt := ⟨fun a' b' g1 g2 => (pl.1 a' b' g1 g2).mo mo2, fun e => by
        obtain ⟨a', b', g1, g2, g3, g4⟩ := pl.2.1 e
        exact ⟨a', b', g1, g2, g3, fun j hj => (g4 j hj).mo mo2⟩, pl.2.2⟩
      have td2 : ∀ a', a' ≤ a → TD q M R2 (q a') := fun a' h' => by
        by_cases qa : a' = a
        · rw [qa]
          exact fun i hi o1 o2 => (r2 i hi).mpr (Or.inr ⟨o1, o2⟩)
        · exact (td a' (by omega)).mo mo2
      obtain ⟨h3, R3, pt3, e3, f3, cs3, xn3, xr3, mo3, so3, pl3, td3⟩ := d105_b (n1 := n1) (n2 := n2) hM hq haM a 0 h2 R2 pt (by omega) cs2 (xn.keep (fun i i1 i2 => f2.2 i (by omega))) (xr.keep (fun i i1 i2 => f2.2 i (by omega))) so2 pl2 td2
      obtain ⟨h4, R4, e4, f4, r41, r42, r43, mo4, r4⟩ := ih (a + 1) h3 R3 pt3 _ (by omega) cs3 xn3 xr3 so3 pl3 (fun a' h' => td3 a' (by omega))
      refine ⟨h4, R4, ?_, f2.fz.trans (f3.trans f4), r41, r42, r43, mo2.trans (mo3.trans mo4), r4⟩
      rw [← e4, ← e3, H105_11]
      simp only [S105, gFs, pFs, okq, bls, bo_true, eUp_at, eUp_eUp, eKls, cl_some, Option.toList_some, Option.toList_none, List.cons_append, List.nil_append, c0]
      rw [if_neg (nI_ge haM (by omega))]
      simp only [S105, gFs, pFs, okq, bls, bo_true, eUp_at, eUp_eUp, eKls, cl_some, Option.toList_some, Option.toList_none, List.cons_append, List.nil_append, e81]
      rw [if_pos (show ldI false = 0 by decide)]
      simp only [S105, gFs, pFs, okq, bls, bo_true, eUp_at, eUp_eUp, eKls, cl_some, Option.toList_some, Option.toList_none, List.cons_append, List.nil_append, c0, c2.get (show a < 14 by omega), e2]
end CP
