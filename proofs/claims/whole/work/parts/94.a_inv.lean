/-! THE REFERENCE: its invariant; what reads a reduced table -/
def enO (o : Option Nat) : Nat := match o with
  | none => 0
  | some k => k + 1
def MSl (h : eH) (st : ST) : Prop := AR h 241 8 8 (fun s => nI (enO (st.1 s))) ∧ AR h 242 8 8 (fun s => nI (st.2.1 s)) ∧ ∃ f, h.1 243 = .inl (1, 480, .inr (.inl f)) ∧ ∀ s i, s < 8 → i < szo st s → f (60 * s + i) = st.2.2 s i
theorem MSl.keep {h h' : eH} {st : ST} (x : MSl h st) (e : ∀ i, 241 ≤ i → i ≤ 243 → h'.1 i = h.1 i) : MSl h' st := by
  obtain ⟨x1, x2, f, x3, x4⟩ := x
  exact ⟨x1.keep (e _ (by omega) (by omega)), x2.keep (e _ (by omega) (by omega)), f, (e _ (by omega) (by omega)).trans x3, x4⟩
def MRw (h : eH) : Prop := ∃ f, h.1 256 = .inl (0, 60, .inl f)
def FJ (h h' : eH) : Prop := h'.2 = h.2 ∧ ∀ i, i < 239 → h'.1 i = h.1 i
theorem FJ.refl (h : eH) : FJ h h := ⟨rfl, fun _ _ => rfl⟩
theorem FJ.trans {h h' h'' : eH} (x : FJ h h') (y : FJ h' h'') : FJ h h'' := ⟨y.1.trans x.1, fun i hi => (y.2 i hi).trans (x.2 i hi)⟩
def n23z (z : Int) : Prop := n23 z ∧ z ≠ 0
/-- the reference's invariant -/
def MI (h : eH) (g : SG) : Prop := ∃ hi wi rk co ro R s, h = hK h (nI (nJ g.2.1)) (nI (nM g.2.1)) hi wi rk co ro R s ∧ R 0 = g.2.2.1 ∧ R 1 = g.2.2.2 ∧ n23 g.2.2.1 ∧ n23z g.2.2.2 ∧ MNt h g.2.1 ∧ NV g.2.1 ∧ MSl h g.1 ∧ SV g.1 ∧ MRw h
section IV1
variable {h : eH} {jt mb hi wi rk co jt' mb' hi' wi' rk' co' : Int32} {ro ro' : Nat → Int32} {R R' : Nat → Int} {s s' : SC}
theorem FJ.k : FJ (hK h jt mb hi wi rk co ro R s) (hK h jt' mb' hi' wi' rk' co' ro' R' s') := ⟨rfl, fun i hi => by rw [hK_ne (Or.inl hi), hK_ne (Or.inl hi)]⟩
theorem FJ.up {i : Nat} {e : va_E} (hi' : 238 < i) (h : eH) : FJ h (eUp h i e) := ⟨rfl, fun j hj => eUp_ne (by omega)⟩
theorem FJ.kk {h' : eH} (f : FJ h h') : FJ (hK h jt mb hi wi rk co ro R s) (hK h' jt' mb' hi' wi' rk' co' ro' R' s') := ⟨f.1, fun i hi => by rw [hK_ne (Or.inl hi), hK_ne (Or.inl hi)]; exact f.2 i hi⟩
theorem MI.of {n : NT} {st : ST} {t : Int × Int} (mn : MNt h n) (hv : NV n) (ms : MSl h st) (sv : SV st) (mr : MRw h) (r0 : R 0 = t.1) (r1 : R 1 = t.2) (b0 : n23 t.1) (b1 : n23z t.2) : MI (hK h (nI (nJ n)) (nI (nM n)) hi wi rk co ro R s) (st, n, t) := by
  refine ⟨hi, wi, rk, co, ro, R, s, ?_, r0, r1, b0, b1, mn.keep (fun i i1 i2 => hK_ne (by omega)), hv, ms.keep (fun i i1 i2 => hK_ne (by omega)), sv, ?_⟩
  · exact hK_hK.symm
  · obtain ⟨f, e⟩ := mr
    exact ⟨f, (hK_ne (by omega)).trans e⟩
end IV1
theorem frac_n23 {x y : Int} (hx : n23 x) (hy : n23 y) (y0 : y ≠ 0) : n23 (frac x y).1 ∧ n23z (frac x y).2 := by
  rw [frac_eq]
  refine ⟨?_, ?_⟩
  · have h1 := Nat.div_le_self x.natAbs (Nat.gcd x.natAbs y.natAbs)
    have h2 : n23 ((x.natAbs / Nat.gcd x.natAbs y.natAbs : Nat) : Int) := n23_nat (Nat.lt_of_le_of_lt h1 hx)
    show n23 (if _ then _ else _)
    split
    · exact h2
    · exact n23_neg h2
  · have h1 := Nat.div_le_self y.natAbs (Nat.gcd x.natAbs y.natAbs)
    have h2 : 0 < y.natAbs / Nat.gcd x.natAbs y.natAbs := Nat.div_pos (Nat.gcd_le_right _ (by omega)) (Nat.gcd_pos_of_pos_right _ (by omega))
    exact ⟨n23_nat (Nat.lt_of_le_of_lt h1 hy), by show ((y.natAbs / Nat.gcd x.natAbs y.natAbs : Nat) : Int) ≠ 0; omega⟩
theorem frac_1 (v : Int) : frac v 1 = (v, 1) := by
  unfold frac
  rw [if_neg (by decide), show (1 : Int).natAbs = 1 from rfl, Nat.gcd_one_right]
  refine Prod.ext ?_ rfl
  exact Int.tdiv_one v
theorem bsc_ffr {R : Nat → Int} {s : RS} {hh w u f c : Nat} {i : Int} (kc : KC R s.1 hh w) (h8 : R 8 = s.2.2.1) (hf : fcl s.2.2.2.1 i u 0 0 = some f) (hc : c < u) (hu : u ≤ w) (hr : ∀ c r, s.2.2.2.1 c = some r → r < hh) : bsc R s.2.2.2.1 f c = ffr s u i c := by
  have := fcl_some hf
  unfold ffr
  rw [hf]
  dsimp only
  rw [if_pos (by omega), Int.toNat_natCast]
  unfold bsc
  by_cases q : c = f
  · rw [if_pos q, if_pos (by omega), h8]
  · rw [if_neg q, if_neg (by omega)]
    cases hq : s.2.2.2.1 c with
    | none => rfl
    | some r =>
      dsimp only
      rw [show 20 + 17 * r + f = cel r f from rfl, kc r f (hr c r hq) (by omega)]
/-- what a call comes to: the answer, the fraction kept -/
def RT (h : eH) (n : NT) (o : Option eR) (ret : Option Value) (t : Int × Int) : Prop := ∃ hi wi rk co ro R s, o = some (ret, hK h (nI (nJ n)) (nI (nM n)) hi wi rk co ro R s) ∧ R 0 = t.1 ∧ R 1 = t.2
theorem RT.fin {h : eH} {n : NT} {hi wi rk co : Int32} {ro : Nat → Int32} {R : Nat → Int} {s : SC} {ret : Option Value} {t : Int × Int} (r0 : R 0 = t.1) (r1 : R 1 = t.2) : RT h n (some (ret, hK h (nI (nJ n)) (nI (nM n)) hi wi rk co ro R s)) ret t := ⟨hi, wi, rk, co, ro, R, s, rfl, r0, r1⟩
theorem MI.lift {h : eH} {g : SG} {k : Nat} {as : List Value} {ret : Option Value} {t : Int × Int} (mi : MI h g) (b0 : n23 t.1) (b1 : n23z t.2) (F : ∀ hi wi rk co ro R s, R 0 = g.2.2.1 → R 1 = g.2.2.2 → MNt h g.2.1 → NV g.2.1 → MSl h g.1 → RT h g.2.1 (den k as (hK h (nI (nJ g.2.1)) (nI (nM g.2.1)) hi wi rk co ro R s)) ret t) : ∃ h', den k as h = some (ret, h') ∧ FJ h h' ∧ MI h' (g.1, g.2.1, t) := by
  obtain ⟨hi, wi, rk, co, ro, R, s, eh, r0, r1, -, -, mn, hv, ms, sv, mr⟩ := mi
  obtain ⟨hi', wi', rk', co', ro', R', s', e, q0, q1⟩ := F hi wi rk co ro R s r0 r1 mn hv ms
  refine ⟨hK h (nI (nJ g.2.1)) (nI (nM g.2.1)) hi' wi' rk' co' ro' R' s', ?_, ?_, MI.of mn hv ms sv mr q0 q1 b0 b1⟩
  · rw [← eh] at e
    exact e
  · have f : FJ (hK h (nI (nJ g.2.1)) (nI (nM g.2.1)) hi wi rk co ro R s) (hK h (nI (nJ g.2.1)) (nI (nM g.2.1)) hi' wi' rk' co' ro' R' s') := FJ.k
    rw [← eh] at f
    exact f
theorem MI.b {h : eH} {g : SG} (mi : MI h g) : n23 g.2.2.1 ∧ n23z g.2.2.2 ∧ NV g.2.1 ∧ SV g.1 := by
  obtain ⟨hi, wi, rk, co, ro, R, s, eh, r0, r1, b0, b1, mn, hv, ms, sv, mr⟩ := mi
  exact ⟨b0, b1, hv, sv⟩
theorem sN_rk (n : NT) : (sN n).2.1 = (sM n).2.1 := by obtain ⟨e, -, g⟩ := sN_ng n; exact g.1
section IV2
variable {h : eH} {g : SG}
theorem r74 (hb : ∀ n, NV n → HB n) (mi : MI h g) : ∃ h', den 74 [.ref 239] h = some (some (.int (nI (nM g.2.1 - (sF g.2.1).2.1))), h') ∧ FJ h h' ∧ MI h' g := by
  refine mi.lift (t := g.2.2) mi.b.1 mi.b.2.1 (fun hi wi rk co ro R s r0 r1 mn hv ms => ?_)
  obtain ⟨R', s', ro', e1, k1, k2, k3, k4⟩ := m32 (h := h) (hi := hi) (wi := wi) (rk := rk) (co := co) (ro := ro) (s := s) (R := R) hv mn (hb _ hv)
  rw [E74 239 hK_o]
  simp only [S74, gFs, pFs, okq, bls, bo_true, eUp_at, eUp_eUp, eKls, cl_some, Option.toList_some, Option.toList_none, List.cons_append, List.nil_append, e1, hK_o]
  rw [nI_sub (sF_rk _).1]
  exact RT.fin ((pc1 k4 0 (by decide)).trans r0) ((pc1 k4 1 (by decide)).trans r1)
theorem r79 (hb : ∀ n, NV n → HB n) (mi : MI h g) : ∃ h', den 79 [.ref 239] h = some (some (.int (nI (2 * nFr g.2.1 - (sM g.2.1).2.1))), h') ∧ FJ h h' ∧ MI h' g := by
  refine mi.lift (t := g.2.2) mi.b.1 mi.b.2.1 (fun hi wi rk co ro R s r0 r1 mn hv ms => ?_)
  obtain ⟨R', s', ro', e1, k1, k2, k3, k4⟩ := m65 (h := h) (hi := hi) (wi := wi) (rk := rk) (co := co) (ro := ro) (s := s) (R := R) hv mn (hb _ hv)
  rw [E79 239 hK_o]
  simp only [S79, gFs, pFs, okq, bls, bo_true, eUp_at, eUp_eUp, eKls, cl_some, Option.toList_some, Option.toList_none, List.cons_append, List.nil_append, e1, hK_o, sN_rk]
  rw [nI_sub (sM_rk _).1]
  exact RT.fin ((pc1 k4 0 (by decide)).trans r0) ((pc1 k4 1 (by decide)).trans r1)
theorem r71 (hb : ∀ n, NV n → HB n) (mi : MI h g) : ∃ h', den 71 [.ref 239] h = some (some (.int (ldI (decide ((sP g.2.1).2.1 = nFr g.2.1)))), h') ∧ FJ h h' ∧ MI h' g := by
  refine mi.lift (t := g.2.2) mi.b.1 mi.b.2.1 (fun hi wi rk co ro R s r0 r1 mn hv ms => ?_)
  obtain ⟨R', s', ro', e1, k1, k2, k3, k4⟩ := m56 (h := h) (hi := hi) (wi := wi) (rk := rk) (co := co) (ro := ro) (s := s) (R := R) hv mn (hb _ hv)
  rw [E71 239 hK_o]
  simp only [S71, gFs, pFs, okq, bls, bo_true, eUp_at, eUp_eUp, eKls, cl_some, Option.toList_some, Option.toList_none, List.cons_append, List.nil_append, e1, hK_o]
  rw [ldI01]
  exact RT.fin ((k4 0 (by decide)).trans r0) ((k4 1 (by decide)).trans r1)
end IV2
