/-! NET: readFrom, purely -/
section RDP
variable (k : Nat) (num : Nat → Int64)
def rdJ : Nat := (nx k num 1 8 (0, 0)).1.toNat
def tJ : Nat → Nat × Int
  | 0 => (nx k num 1 8 (0, 0)).2
  | j + 1 => (nx k num 0 1 (nx k num (-20) 20 (nx k num (-20) 20 (tJ j)).2).2).2
def rdP (ax j : Nat) : Int := if ax = 0 then (nx k num (-20) 20 (tJ k num j)).1 else (nx k num (-20) 20 (nx k num (-20) 20 (tJ k num j)).2).1
def rdF (j : Nat) : Bool := decide ((nx k num 0 1 (nx k num (-20) 20 (nx k num (-20) 20 (tJ k num j)).2).2).1 = 1)
def rdM : Nat := (nx k num 0 14 (tJ k num (rdJ k num))).1.toNat
def rdA (t : Nat × Int) : Nat := (nx k num 0 ((rdJ k num : Int) - 1) t).1.toNat
def rdB (t : Nat × Int) : Nat := (nx k num 0 ((rdJ k num : Int) - 1) (nx k num 0 ((rdJ k num : Int) - 1) t).2).1.toNat
def rdT (t : Nat × Int) : Nat × Int := if rdP k num 0 (rdB k num t) - rdP k num 0 (rdA k num t) = 0 ∧ rdP k num 1 (rdB k num t) - rdP k num 1 (rdA k num t) = 0 then rfs (nx k num 0 ((rdJ k num : Int) - 1) (nx k num 0 ((rdJ k num : Int) - 1) t).2).2 else (nx k num 0 ((rdJ k num : Int) - 1) (nx k num 0 ((rdJ k num : Int) - 1) t).2).2
def rdS (t : Nat × Int) : Nat := (nx k num 0 2 (rdT k num t)).1.toNat
def tM : Nat → Nat × Int
  | 0 => (nx k num 0 14 (tJ k num (rdJ k num))).2
  | m + 1 => (nx k num 0 2 (rdT k num (tM m))).2
def rdN : NT := (rdJ k num, rdM k num, rdP k num, rdF k num, fun _ _ => 0, fun m => rdA k num (tM k num m), fun m => rdB k num (tM k num m), fun m => rdS k num (tM k num m), fun _ => 0)
def rdR : Int := (tM k num (rdM k num)).2
end RDP
theorem rdJ_bd (k : Nat) (num : Nat → Int64) : 1 ≤ rdJ k num ∧ rdJ k num ≤ 8 ∧ (rdJ k num : Int) = (nx k num 1 8 (0, 0)).1 := by
  have := nx_bd (sz := k) (num := num) (t := (0, 0)) (show (1 : Int) ≤ 8 by decide)
  unfold rdJ
  omega
theorem rdM_bd (k : Nat) (num : Nat → Int64) : rdM k num ≤ 14 ∧ (rdM k num : Int) = (nx k num 0 14 (tJ k num (rdJ k num))).1 := by
  have := nx_bd (sz := k) (num := num) (t := tJ k num (rdJ k num)) (show (0 : Int) ≤ 14 by decide)
  unfold rdM
  omega
theorem tJ_ok (k : Nat) (num : Nat → Int64) : ∀ j, (tJ k num j).1 ≤ k ∧ rfo (tJ k num j).2 := by
  intro j
  induction j with
  | zero => exact ⟨nx_at (Nat.zero_le _), nx_rf (Or.inl rfl)⟩
  | succ j ih => exact ⟨nx_at (nx_at (nx_at ih.1)), nx_rf (nx_rf (nx_rf ih.2))⟩
theorem rfs_ok {k : Nat} {t : Nat × Int} (h : t.1 ≤ k ∧ rfo t.2) : (rfs t).1 ≤ k ∧ rfo (rfs t).2 := by
  unfold rfs
  split
  · exact ⟨h.1, Or.inr (Or.inl rfl)⟩
  · exact h
theorem rdT_ok (k : Nat) (num : Nat → Int64) {t : Nat × Int} (h : t.1 ≤ k ∧ rfo t.2) : (rdT k num t).1 ≤ k ∧ rfo (rdT k num t).2 := by
  unfold rdT
  split
  · exact rfs_ok ⟨nx_at (nx_at h.1), nx_rf (nx_rf h.2)⟩
  · exact ⟨nx_at (nx_at h.1), nx_rf (nx_rf h.2)⟩
theorem tM_ok (k : Nat) (num : Nat → Int64) : ∀ j, (tM k num j).1 ≤ k ∧ rfo (tM k num j).2 := by
  intro j
  induction j with
  | zero => exact ⟨nx_at (tJ_ok k num _).1, nx_rf (tJ_ok k num _).2⟩
  | succ j ih => exact ⟨nx_at (rdT_ok k num ih).1, nx_rf (rdT_ok k num ih).2⟩
theorem rdP_bd (k : Nat) (num : Nat → Int64) (ax j : Nat) : -20 ≤ rdP k num ax j ∧ rdP k num ax j ≤ 20 := by
  unfold rdP
  split
  · exact nx_bd (by decide)
  · exact nx_bd (by decide)
theorem rdA_bd (k : Nat) (num : Nat → Int64) (t : Nat × Int) : rdA k num t < rdJ k num ∧ (rdA k num t : Int) = (nx k num 0 ((rdJ k num : Int) - 1) t).1 := by
  have h1 := rdJ_bd k num
  have := nx_bd (sz := k) (num := num) (t := t) (show (0 : Int) ≤ (rdJ k num : Int) - 1 by omega)
  unfold rdA
  omega
theorem rdB_bd (k : Nat) (num : Nat → Int64) (t : Nat × Int) : rdB k num t < rdJ k num ∧ (rdB k num t : Int) = (nx k num 0 ((rdJ k num : Int) - 1) (nx k num 0 ((rdJ k num : Int) - 1) t).2).1 := rdA_bd k num _
theorem rdS_bd (k : Nat) (num : Nat → Int64) (t : Nat × Int) : rdS k num t ≤ 2 ∧ (rdS k num t : Int) = (nx k num 0 2 (rdT k num t)).1 := by
  have := nx_bd (sz := k) (num := num) (t := rdT k num t) (show (0 : Int) ≤ 2 by decide)
  unfold rdS
  omega
/-! NET: the reading -/
theorem AR.put {h : eH} {i L m : Nat} {v : Nat → Int32} {z : Int32} (x : AR h i L m v) (hm : m < L) (hL : L < 2 ^ 31) (hz : z = v m) {α : Type} : ∃ e, (∀ F : va_E → Option α, wI (h.1 i) (nI m) z F = F e) ∧ ∀ h' : eH, h'.1 i = e → AR h' i L (m + 1) v := by
  obtain ⟨f, x1, x2⟩ := x
  refine ⟨.inl (0, L, .inl (upd f m z)), fun F => ?_, fun h' e => ⟨_, e, fun j hj => ?_⟩⟩
  · rw [x1, wI_nI hm hL]
  · unfold upd
    by_cases q : j = m
    · rw [if_pos q, hz, q]
    · rw [if_neg q]
      exact x2 j (by omega)
def NX (h : eH) (a : Nat) : Prop := (∃ x y z, h.1 a = .inr (6, [.int x, .int y, .int z, .ref (a + 1), .ref (a + 4), .ref (a + 7), .ref (a + 8), .ref (a + 9), .ref (a + 10), .ref (a + 11)])) ∧ RW h (a + 1) (a + 2) ∧ (∀ ax, ax < 2 → AR h (a + 2 + ax) 8 0 (fun _ => 0)) ∧ RW h (a + 4) (a + 5) ∧ (∀ ax, ax < 2 → AR h (a + 5 + ax) 8 0 (fun _ => 0)) ∧ AR h (a + 7) 8 0 (fun _ => 0) ∧ AR h (a + 8) 14 0 (fun _ => 0) ∧ AR h (a + 9) 14 0 (fun _ => 0) ∧ AR h (a + 10) 14 0 (fun _ => 0) ∧ AR h (a + 11) 14 0 (fun _ => 0)
theorem AR.z {h : eH} {i L k : Nat} {v w : Nat → Int32} (x : AR h i L k v) : AR h i L 0 w := by
  obtain ⟨f, x1, -⟩ := x
  exact ⟨f, x1, fun j hj => absurd hj (Nat.not_lt_zero _)⟩
theorem NO.x {h : eH} {a : Nat} {n : NT} (o : NO h a n) : NX h a := by
  obtain ⟨x0, x1, x2, x3, x4, x5, x6, x7, x8, x9⟩ := o
  exact ⟨⟨_, _, _, x0⟩, x1, fun ax hx => (x2 ax hx).z, x3, fun ax hx => (x4 ax hx).z, x5.z, x6.z, x7.z, x8.z, x9.z⟩
theorem NX.keep {h h' : eH} {a : Nat} (x : NX h a) (e : ∀ i, a ≤ i → i ≤ a + 11 → h'.1 i = h.1 i) : NX h' a := by
  obtain ⟨⟨u, v, w, x0⟩, x1, x2, x3, x4, x5, x6, x7, x8, x9⟩ := x
  exact ⟨⟨u, v, w, (e _ (by omega) (by omega)).trans x0⟩, x1.keep (e _ (by omega) (by omega)), fun ax hx => (x2 ax hx).keep (e _ (by omega) (by omega)), x3.keep (e _ (by omega) (by omega)), fun ax hx => (x4 ax hx).keep (e _ (by omega) (by omega)), x5.keep (e _ (by omega) (by omega)), x6.keep (e _ (by omega) (by omega)), x7.keep (e _ (by omega) (by omega)), x8.keep (e _ (by omega) (by omega)), x9.keep (e _ (by omega) (by omega))⟩
/-- the net while its joints are read -/
def RJ (h : eH) (a J : Nat) (mm : Int32) (j : Nat) (P : Nat → Nat → Int) (F : Nat → Bool) : Prop := h.1 a = .inr (6, [.int (nI J), .int (nI (cnt F j)), .int mm, .ref (a + 1), .ref (a + 4), .ref (a + 7), .ref (a + 8), .ref (a + 9), .ref (a + 10), .ref (a + 11)]) ∧ RW h (a + 1) (a + 2) ∧ (∀ ax, ax < 2 → AR h (a + 2 + ax) 8 j (fun i => iI (P ax i))) ∧ RW h (a + 4) (a + 5) ∧ (∀ ax, ax < 2 → AR h (a + 5 + ax) 8 0 (fun _ => 0)) ∧ AR h (a + 7) 8 j (fun i => roI (if F i = true then none else some (cnt F i))) ∧ AR h (a + 8) 14 0 (fun _ => 0) ∧ AR h (a + 9) 14 0 (fun _ => 0) ∧ AR h (a + 10) 14 0 (fun _ => 0) ∧ AR h (a + 11) 14 0 (fun _ => 0)
theorem RJ.keep {h h' : eH} {a J j : Nat} {mm : Int32} {P : Nat → Nat → Int} {F : Nat → Bool} (x : RJ h a J mm j P F) (e : ∀ i, a ≤ i → i ≤ a + 11 → h'.1 i = h.1 i) : RJ h' a J mm j P F := by
  obtain ⟨x0, x1, x2, x3, x4, x5, x6, x7, x8, x9⟩ := x
  exact ⟨(e _ (by omega) (by omega)).trans x0, x1.keep (e _ (by omega) (by omega)), fun ax hx => (x2 ax hx).keep (e _ (by omega) (by omega)), x3.keep (e _ (by omega) (by omega)), fun ax hx => (x4 ax hx).keep (e _ (by omega) (by omega)), x5.keep (e _ (by omega) (by omega)), x6.keep (e _ (by omega) (by omega)), x7.keep (e _ (by omega) (by omega)), x8.keep (e _ (by omega) (by omega)), x9.keep (e _ (by omega) (by omega))⟩
/-- the frame of reading into the net at a -/
def FN (a : Nat) (h h' : eH) : Prop := h'.2 = h.2 ∧ ∀ i, i ≠ 1 → ¬ (a ≤ i ∧ i ≤ a + 11) → h'.1 i = h.1 i
theorem FN.trans {a : Nat} {h h' h'' : eH} (x : FN a h h') (y : FN a h' h'') : FN a h h'' := ⟨y.1.trans x.1, fun i h1 h2 => (y.2 i h1 h2).trans (x.2 i h1 h2)⟩
theorem F1.fn {a : Nat} {h h' : eH} (x : F1 h h') : FN a h h' := ⟨x.1, fun i h1 _ => x.2 i h1⟩
section RD
variable {h : eH} {st : ST} {s k a : Nat} {mm : Int32}
theorem d164_step {j : Nat} {x3 : Option Value} (sv : SV st) (hs : s < 8) (hk : st.1 s = some k) (ha : 213 ≤ a) (o : SLO h st s (tJ k (st.2.2 s) j).1 (tJ k (st.2.2 s) j).2) (r : RJ h a (rdJ k (st.2.2 s)) mm j (rdP k (st.2.2 s)) (rdF k (st.2.2 s))) (hj : j < rdJ k (st.2.2 s)) : ∃ h' y3, ru 164 18 [some (.ref a), some (.ref 1), some (.int (nI j)), x3] [] h = ru 164 18 [some (.ref a), some (.ref 1), some (.int (nI (j + 1))), y3] [] h' ∧ FN a h h' ∧ SLO h' st s (tJ k (st.2.2 s) (j + 1)).1 (tJ k (st.2.2 s) (j + 1)).2 ∧ RJ h' a (rdJ k (st.2.2 s)) mm (j + 1) (rdP k (st.2.2 s)) (rdF k (st.2.2 s)) := by
  have hJ := rdJ_bd k (st.2.2 s)
  obtain ⟨t1, t2⟩ := tJ_ok k (st.2.2 s) j
  obtain ⟨x0, x1, x2, x3', x4, x5, x6, x7, x8, x9⟩ := id r
  obtain ⟨h1, e1, f1, o1⟩ := d163 (lo := -20) (hi := 20) o sv hs hk t1 t2 (by unfold iok; omega) (by unfold iok; omega)
  obtain ⟨ea, wa, va⟩ := (((x2 0 (by decide)).keep (f1.2 _ (by omega)) : AR h1 (a + 2 + 0) 8 j _)).put (show j < 8 by omega) (by decide) (z := iI (nx k (st.2.2 s) (-20) 20 (tJ k (st.2.2 s) j)).1) rfl (α := eR)
  obtain ⟨h2, hh2⟩ : ∃ h2, h2 = eUp h1 (a + 2 + 0) ea := ⟨_, rfl⟩
  have n2 : ∀ i, i ≠ a + 2 → h2.1 i = h1.1 i := fun i hi => by rw [hh2]; exact eUp_ne hi
  have va2 := va h2 (by rw [hh2]; exact eUp_at ..)
  have o2 := o1.keep (h' := h2) (fun i i1 i2 => n2 i (by omega))
  obtain ⟨h3, e3, f3, o3⟩ := d163 (lo := -20) (hi := 20) (t := (nx k (st.2.2 s) (-20) 20 (tJ k (st.2.2 s) j)).2) o2 sv hs hk (nx_at t1) (nx_rf t2) (by unfold iok; omega) (by unfold iok; omega)
  obtain ⟨eb, wb, vb⟩ := ((((x2 1 (by decide)).keep (f1.2 _ (by omega))).keep (n2 _ (by omega))).keep (f3.2 _ (by omega)) : AR h3 (a + 2 + 1) 8 j _).put (show j < 8 by omega) (by decide) (z := iI (nx k (st.2.2 s) (-20) 20 (nx k (st.2.2 s) (-20) 20 (tJ k (st.2.2 s) j)).2).1) rfl (α := eR)
  obtain ⟨h4, hh4⟩ : ∃ h4, h4 = eUp h3 (a + 2 + 1) eb := ⟨_, rfl⟩
  have n4 : ∀ i, i ≠ a + 3 → h4.1 i = h3.1 i := fun i hi => by rw [hh4]; exact eUp_ne (by omega)
  have vb4 := vb h4 (by rw [hh4]; exact eUp_at ..)
  have o4 := o3.keep (h' := h4) (fun i i1 i2 => n4 i (by omega))
  obtain ⟨h5, e5, f5, o5⟩ := d163 (lo := 0) (hi := 1) (t := (nx k (st.2.2 s) (-20) 20 (nx k (st.2.2 s) (-20) 20 (tJ k (st.2.2 s) j)).2).2) o4 sv hs hk (nx_at (nx_at t1)) (nx_rf (nx_rf t2)) (by unfold iok; omega) (by unfold iok; omega)
  have nn : ∀ i, i ≠ 1 → i ≠ a + 2 → i ≠ a + 3 → h5.1 i = h.1 i := fun i i1 i2 i3 => (f5.2 i i1).trans ((n4 i i3).trans ((f3.2 i i1).trans ((n2 i i2).trans (f1.2 i i1))))
  have bF := nx_bd (sz := k) (num := st.2.2 s) (t := (nx k (st.2.2 s) (-20) 20 (nx k (st.2.2 s) (-20) 20 (tJ k (st.2.2 s) j)).2).2) (show (0 : Int) ≤ 1 by decide)
  obtain ⟨ec, wc, vc⟩ := (x5.keep (nn _ (by omega) (by omega) (by omega)) : AR h5 (a + 7) 8 j _).put (show j < 8 by omega) (by decide) (z := roI (if rdF k (st.2.2 s) j = true then none else some (cnt (rdF k (st.2.2 s)) j))) rfl (α := eR)
  obtain ⟨h6, hh6⟩ : ∃ h6, h6 = eUp h5 (a + 7) ec := ⟨_, rfl⟩
  have n6 : ∀ i, i ≠ a + 7 → h6.1 i = h5.1 i := fun i hi => by rw [hh6]; exact eUp_ne hi
  have vc6 := vc h6 (by rw [hh6]; exact eUp_at ..)
  have cs : cnt (rdF k (st.2.2 s)) (j + 1) = cnt (rdF k (st.2.2 s)) j + (if rdF k (st.2.2 s) j = true then 0 else 1) := rfl
  obtain ⟨h7, hh7⟩ : ∃ h7, h7 = eUp h6 a (.inr (6, [.int (nI (rdJ k (st.2.2 s))), .int (nI (cnt (rdF k (st.2.2 s)) (j + 1))), .int mm, .ref (a + 1), .ref (a + 4), .ref (a + 7), .ref (a + 8), .ref (a + 9), .ref (a + 10), .ref (a + 11)])) := ⟨_, rfl⟩
  have n7 : ∀ i, i ≠ a → h7.1 i = h6.1 i := fun i hi => by rw [hh7]; exact eUp_ne hi
  have mm7 : ∀ i, i ≠ 1 → i ≠ a → i ≠ a + 2 → i ≠ a + 3 → i ≠ a + 7 → h7.1 i = h.1 i := fun i i0 i1 i2 i3 i4 => (n7 i i1).trans ((n6 i i4).trans (nn i i0 i2 i3))
  refine ⟨h7, some (.int (ldI (rdF k (st.2.2 s) j))), ?_, ⟨?_, fun i i1 i2 => mm7 i i1 (by omega) (by omega) (by omega) (by omega)⟩, o5.keep (fun i i1 i2 => (n7 i (by omega)).trans (n6 i (by omega))), ?_⟩
  · have y0 : h2.1 a = h.1 a := (n2 a (by omega)).trans (f1.2 a (by omega))
    have y1 : RW h2 (a + 1) (a + 2) := x1.keep ((n2 _ (by omega)).trans (f1.2 _ (by omega)))
    have z0 : h5.1 a = h.1 a := nn a (by omega) (by omega) (by omega)
    have w0 : h6.1 a = h.1 a := (n6 a (by omega)).trans z0
    have q0 := y0.trans x0
    have q1 := z0.trans x0
    have q2 := w0.trans x0
    rw [show iI (-20) = -20 from by decide, show iI 20 = nI 20 from rfl] at e1 e3
    rw [show iI 0 = nI 0 from rfl, show iI 1 = nI 1 from rfl] at e5
    rw [H164_18]
    simp only [S164, gFs, pFs, okq, bls, bo_true, eUp_at, eUp_eUp, eKls, cl_some, Option.toList_some, Option.toList_none, List.cons_append, List.nil_append, x0]
    rw [if_neg (nI_ge hj (by omega))]
    simp only [S164, gFs, pFs, okq, bls, bo_true, eUp_at, eUp_eUp, eKls, cl_some, Option.toList_some, Option.toList_none, List.cons_append, List.nil_append, x0, x1.get (j := 0) (by decide), e1, wa]
    rw [← hh2]
    simp only [S164, gFs, pFs, okq, bls, bo_true, eUp_at, eUp_eUp, eKls, cl_some, Option.toList_some, Option.toList_none, List.cons_append, List.nil_append, q0, y1.get (j := 1) (by decide), e3, wb]
    rw [← hh4]
    simp only [S164, gFs, pFs, okq, bls, bo_true, eUp_at, eUp_eUp, eKls, cl_some, Option.toList_some, Option.toList_none, List.cons_append, List.nil_append, e5]
    by_cases hF : rdF k (st.2.2 s) j = true
    · have hv : (nx k (st.2.2 s) 0 1 (nx k (st.2.2 s) (-20) 20 (nx k (st.2.2 s) (-20) 20 (tJ k (st.2.2 s) j)).2).2).1 = 1 := of_decide_eq_true hF
      rw [hF, if_pos rfl, show roI none = -1 from rfl] at wc
      rw [hF, if_pos rfl, Nat.add_zero] at cs
      rw [if_pos (by rw [hv]; rfl)]
      simp only [S164, gFs, pFs, okq, bls, bo_true, eUp_at, eUp_eUp, eKls, cl_some, Option.toList_some, Option.toList_none, List.cons_append, List.nil_append, q1]
      rw [if_neg (show ¬ nI 1 = 0 by decide)]
      simp only [S164, gFs, pFs, okq, bls, bo_true, eUp_at, eUp_eUp, eKls, cl_some, Option.toList_some, Option.toList_none, List.cons_append, List.nil_append, wc]
      rw [← hh6]
      simp only [S164, gFs, pFs, okq, bls, bo_true, eUp_at, eUp_eUp, eKls, cl_some, Option.toList_some, Option.toList_none, List.cons_append, List.nil_append, q2]
      rw [if_neg (show ¬ nI 1 = 0 by decide)]
      simp only [S164, gFs, pFs, okq, bls, bo_true, eUp_at, eUp_eUp, eKls, cl_some, Option.toList_some, Option.toList_none, List.cons_append, List.nil_append, nI_add, q2, Nat.add_zero]
      rw [hh7, cs, nI_1, hF]
      rfl
    · have hv : ¬ (nx k (st.2.2 s) 0 1 (nx k (st.2.2 s) (-20) 20 (nx k (st.2.2 s) (-20) 20 (tJ k (st.2.2 s) j)).2).2).1 = 1 := fun e => hF (decide_eq_true e)
      rw [if_neg hF, show roI (some (cnt (rdF k (st.2.2 s)) j)) = nI (cnt (rdF k (st.2.2 s)) j) from rfl] at wc
      rw [if_neg hF] at cs
      have hF' : rdF k (st.2.2 s) j = false := by cases hq : rdF k (st.2.2 s) j with | true => exact absurd hq hF | false => rfl
      have hne : ¬ iI (nx k (st.2.2 s) 0 1 (nx k (st.2.2 s) (-20) 20 (nx k (st.2.2 s) (-20) 20 (tJ k (st.2.2 s) j)).2).2).1 = nI 1 := fun e => hv ((iI_eq (b := 1) (by unfold iok; omega) (by unfold iok; omega)).mp e)
      rw [if_neg hne]
      simp only [S164, gFs, pFs, okq, bls, bo_true, eUp_at, eUp_eUp, eKls, cl_some, Option.toList_some, Option.toList_none, List.cons_append, List.nil_append, q1]
      rw [if_pos (show nI 0 = 0 by decide)]
      simp only [S164, gFs, pFs, okq, bls, bo_true, eUp_at, eUp_eUp, eKls, cl_some, Option.toList_some, Option.toList_none, List.cons_append, List.nil_append, q1, wc]
      rw [← hh6]
      simp only [S164, gFs, pFs, okq, bls, bo_true, eUp_at, eUp_eUp, eKls, cl_some, Option.toList_some, Option.toList_none, List.cons_append, List.nil_append, q2]
      rw [if_pos (show nI 0 = 0 by decide)]
      simp only [S164, gFs, pFs, okq, bls, bo_true, eUp_at, eUp_eUp, eKls, cl_some, Option.toList_some, Option.toList_none, List.cons_append, List.nil_append, nI_add, q2]
      rw [hh7, cs, nI_1, hF']
      rfl
  · rw [hh7, hh6]
    exact f5.1.trans (by rw [hh4]; exact f3.1.trans (by rw [hh2]; exact f1.1))
  · refine ⟨by rw [hh7]; exact eUp_at .., x1.keep (mm7 _ (by omega) (by omega) (by omega) (by omega) (by omega)), fun ax hx => ?_, x3'.keep (mm7 _ (by omega) (by omega) (by omega) (by omega) (by omega)), fun ax hx => (x4 ax hx).keep (mm7 _ (by omega) (by omega) (by omega) (by omega) (by omega)), vc6.keep (n7 _ (by omega)), x6.keep (mm7 _ (by omega) (by omega) (by omega) (by omega) (by omega)), x7.keep (mm7 _ (by omega) (by omega) (by omega) (by omega) (by omega)), x8.keep (mm7 _ (by omega) (by omega) (by omega) (by omega) (by omega)), x9.keep (mm7 _ (by omega) (by omega) (by omega) (by omega) (by omega))⟩
    rcases (by omega : ax = 0 ∨ ax = 1) with q | q
    · subst q
      exact va2.keep ((n7 _ (by omega)).trans ((n6 _ (by omega)).trans ((f5.2 _ (by omega)).trans ((n4 _ (by omega)).trans (f3.2 _ (by omega))))))
    · subst q
      exact vb4.keep ((n7 _ (by omega)).trans ((n6 _ (by omega)).trans (f5.2 _ (by omega))))
end RD
