/-! GRID: what is read of a reduced one -/
def KG (h : eH) (g H W C rows unk cols : Nat) (s : RS) : Prop := GO h g H W C rows unk cols s.2.1 (ldI s.2.2.2.2) ∧ WV h (g + 1) 36 s.2.2.1 ∧ GC h g H W C rows cols (fun _ _ => True) s.1 ∧ RO h g W unk s.2.2.2.1
theorem KG.keep {h h' : eH} {g H W C rows unk cols : Nat} {s : RS} (k : KG h g H W C rows unk cols s) (x : ∀ i, g ≤ i → i ≤ g + 5 → h'.1 i = h.1 i) : KG h' g H W C rows unk cols s := ⟨k.1.k (x g (by omega) (by omega)), k.2.1.keep (x _ (by omega) (by omega)) (x _ (by omega) (by omega)), k.2.2.1.k (x _ (by omega) (by omega)) (x _ (by omega) (by omega)), k.2.2.2.k (x _ (by omega) (by omega))⟩
def fcl (ro : Nat → Option Nat) (i : Int) : Nat → Nat → Nat → Option Nat
  | 0, _, _ => none
  | n + 1, c, seen => if ro c = none then (if (seen : Int) = i then some c else fcl ro i n (c + 1) (seen + 1)) else fcl ro i n (c + 1) seen
theorem fcl_some {ro : Nat → Option Nat} {i : Int} {f : Nat} : ∀ {n c seen : Nat}, fcl ro i n c seen = some f → c ≤ f ∧ f < c + n ∧ ro f = none := by
  intro n
  induction n with
  | zero => intro c seen h; cases h
  | succ n ih =>
    intro c seen h
    unfold fcl at h
    by_cases h0 : ro c = none
    · rw [if_pos h0] at h
      by_cases h1 : (seen : Int) = i
      · rw [if_pos h1] at h
        cases h
        exact ⟨Nat.le_refl _, by omega, h0⟩
      · rw [if_neg h1] at h
        obtain ⟨a, b, d⟩ := ih h
        exact ⟨by omega, by omega, d⟩
    · rw [if_neg h0] at h
      obtain ⟨a, b, d⟩ := ih h
      exact ⟨by omega, by omega, d⟩
def ffr (s : RS) (unk : Nat) (i c : Int) : Int := match fcl s.2.2.2.1 i unk 0 0 with
  | none => 0
  | some f => if 0 ≤ c ∧ c < unk then (if c = f then s.2.2.1 else match s.2.2.2.1 c.toNat with
    | none => 0
    | some r => - s.1 r f) else 0
def fso (s : RS) (unk : Nat) (c : Int) (side : Nat) : Int := if 0 ≤ c ∧ c < unk then (match s.2.2.2.1 c.toNat with
    | none => 0
    | some r => s.1 r side) else 0
theorem roI_m1 {o : Option Nat} (h : ∀ r, o = some r → r < 2 ^ 31) : roI o = -1 ↔ o = none := by
  cases o with
  | none => exact ⟨fun _ => rfl, fun _ => rfl⟩
  | some r => exact ⟨fun e => absurd e (nI_nm1 (h r rfl)), fun e => by cases e⟩
section GR8
variable {h : eH} {g H W C rows unk cols : Nat} {s : RS}
theorem d83_loop {i : Int} (k : KG h g H W C rows unk cols s) (b : GB H W C rows cols) (hu : unk ≤ cols) (hro : ∀ c r, s.2.2.2.1 c = some r → r < rows) (hi : iok i) : ∀ n c seen, c + n = unk → seen ≤ c → ru 83 4 [some (.ref g), some (.int (iI i)), some (.int (nI seen)), some (.int (nI c))] [] h = some (some (.int (roI (fcl s.2.2.2.1 i n c seen))), h) := by
  obtain ⟨o, wb, gc, f5, r5, q5⟩ := k
  obtain ⟨b1, b2, b3, b4, b5, b6⟩ := id b
  unfold GO at o
  intro n
  induction n with
  | zero =>
    intro c seen hc hs
    rw [H83_4]
    simp only [S83, gFs, pFs, okq, bls, bo_true, eUp_at, eUp_eUp, eKls, cl_some, Option.toList_some, Option.toList_none, List.cons_append, List.nil_append, o]
    rw [if_pos (nI_le (by omega) (by omega)), H83_38]
    simp only [S83, gFs, pFs, okq, bls, bo_true, eUp_at, eUp_eUp, eKls, cl_some, Option.toList_some, Option.toList_none, List.cons_append, List.nil_append]
    rfl
  | succ n ih =>
    intro c seen hc hs
    rw [H83_4]
    simp only [S83, gFs, pFs, okq, bls, bo_true, eUp_at, eUp_eUp, eKls, cl_some, Option.toList_some, Option.toList_none, List.cons_append, List.nil_append, o]
    rw [if_neg (nI_ge (by omega) (by omega))]
    simp only [S83, gFs, pFs, okq, bls, bo_true, eUp_at, eUp_eUp, eKls, cl_some, Option.toList_some, Option.toList_none, List.cons_append, List.nil_append, o, r5]
    rw [aI_nI (by omega) (by omega), q5 c (by omega)]
    unfold fcl
    have hm := roI_m1 (o := s.2.2.2.1 c) (fun r hr => by have := hro c r hr; omega)
    by_cases h0 : s.2.2.2.1 c = none
    · rw [if_pos (hm.mpr h0), if_pos h0]
      have hse : nI seen = iI i ↔ (seen : Int) = i := by rw [nI_I]; exact iI_eq (iok_nI (by omega)) hi
      by_cases h1 : (seen : Int) = i
      · rw [if_pos (hse.mpr h1), if_pos h1]
        rfl
      · rw [if_neg (fun e => h1 (hse.mp e)), if_neg h1, nI_1, nI_1]
        exact ih (c + 1) (seen + 1) (by omega) (by omega)
    · rw [if_neg (fun e => h0 (hm.mp e)), if_neg h0, nI_1]
      exact ih (c + 1) seen (by omega) (by omega)
theorem d83 {i : Int} (k : KG h g H W C rows unk cols s) (b : GB H W C rows cols) (hu : unk ≤ cols) (hro : ∀ c r, s.2.2.2.1 c = some r → r < rows) (hi : iok i) : den 83 [.ref g, .int (iI i)] h = some (some (.int (roI (fcl s.2.2.2.1 i unk 0 0))), h) := by
  rw [E83 g _ k.1]
  simp only [S83, gFs, pFs, okq, bls, bo_true, eUp_at, eUp_eUp, eKls, cl_some, Option.toList_some, Option.toList_none, List.cons_append, List.nil_append]
  exact d83_loop k b hu hro hi unk 0 0 (by omega) (Nat.le_refl _)
theorem d88 {i c : Int} {a N : Nat} (k : KG h g H W C rows unk cols s) (b : GB H W C rows cols) (hu : unk ≤ cols) (hro : ∀ c r, s.2.2.2.1 c = some r → r < rows) (hi : iok i) (hc : iok c) (w : WX h a N) (hN : N ≤ 36) (hCN : C ≤ N) (hbo : nd s.2.2.1.natAbs ≤ N) (hag : a + 1 < g ∨ g + 5 < a) : ∃ h', den 88 [.ref g, .ref a, .int (iI i), .int (iI c)] h = some (none, h') ∧ F2 a h h' ∧ WV h' a N (ffr s unk i c) := by
  obtain ⟨b1, b2, b3, b4, b5, b6⟩ := id b
  obtain ⟨s0, c0, f0, w⟩ := w
  obtain ⟨h1, e1, f1, w1⟩ := d82 w
  have k1 : KG h1 g H W C rows unk cols s := k.keep (fun i i1 i2 => f1.2 i (by omega) (by omega))
  have e2 := d83 k1 b hu hro hi
  obtain ⟨o1, wb1, gc1, f5, r5, q5⟩ := id k1
  have oo1 := o1
  unfold GO at oo1
  rw [E88 g _ _ _ k.1]
  simp only [S88, gFs, pFs, okq, bls, bo_true, eUp_at, eUp_eUp, eKls, cl_some, Option.toList_some, Option.toList_none, List.cons_append, List.nil_append, e1, e2, oo1]
  unfold ffr
  cases hf : fcl s.2.2.2.1 i unk 0 0 with
  | none =>
    rw [if_pos (show roI none = -1 from rfl)]
    exact ⟨h1, rfl, f1, w1⟩
  | some f =>
    obtain ⟨z1, z2, z3⟩ := fcl_some hf
    rw [if_neg (show ¬ roI (some f) = -1 from nI_nm1 (by omega))]
    have l0 : iI c < 0 ↔ c < 0 := by rw [show (0 : Int32) = iI 0 from by decide]; exact iI_lt hc iok_0
    have l1 : iI c < nI unk ↔ c < unk := by rw [nI_I]; exact iI_lt hc (iok_nI (by omega))
    have l2 : iI c = roI (some f) ↔ c = f := by rw [show roI (some f) = iI f from rfl]; exact iI_eq hc (iok_nI (by omega))
    by_cases q0 : c < 0
    · rw [if_pos (l0.mpr q0)]
      dsimp only
      rw [if_neg (by omega)]
      exact ⟨h1, rfl, f1, w1⟩
    · rw [if_neg (fun e => q0 (l0.mp e))]
      by_cases q1 : c < unk
      · rw [if_pos (l1.mpr q1)]
        dsimp only
        rw [if_pos (show 0 ≤ c ∧ c < unk by omega)]
        by_cases q2 : c = f
        · rw [if_pos (l2.mpr q2), if_pos q2]
          obtain ⟨u1, v1, -, -⟩ := id w1
          obtain ⟨h2, e3, f2, w2⟩ := d84 v1 wb1 (by omega) (by omega) (by omega) hbo
          simp only [S88, gFs, pFs, okq, bls, bo_true, eUp_at, eUp_eUp, eKls, cl_some, Option.toList_some, Option.toList_none, List.cons_append, List.nil_append, e3]
          exact ⟨h2, rfl, f1.trans f2, w2⟩
        · rw [if_neg (fun e => q2 (l2.mp e)), if_neg q2]
          obtain ⟨cn, hcn⟩ : ∃ n : Nat, c = n := ⟨c.toNat, by omega⟩
          subst hcn
          rw [Int.toNat_natCast]
          simp only [S88, gFs, pFs, okq, bls, bo_true, eUp_at, eUp_eUp, eKls, cl_some, Option.toList_some, Option.toList_none, List.cons_append, List.nil_append, r5]
          rw [show iI (cn : Int) = nI cn from rfl, aI_nI (by omega) (by omega), q5 cn (by omega)]
          cases hr : s.2.2.2.1 cn with
          | none =>
            rw [if_pos (show roI none = -1 from rfl)]
            exact ⟨h1, rfl, f1, w1⟩
          | some r =>
            rw [if_neg (show ¬ roI (some r) = -1 from nI_nm1 (by have := hro cn r hr; omega))]
            simp only [S88, gFs, pFs, okq, bls, bo_true, eUp_at, eUp_eUp, eKls, cl_some, Option.toList_some, Option.toList_none, List.cons_append, List.nil_append, oo1, r5]
            rw [aI_nI (by omega) (by omega), q5 cn (by omega), hr]
            have t1 := gc1.fit (r := r) (c := f) trivial (hro cn r hr) (by omega)
            obtain ⟨h2, e3, f2, w2, o2, gc2⟩ := d86c (a := a) (N := N) (r := r) (c := f) o1 b gc1 trivial w1.x hN (by omega) (hro cn r hr) (by omega) hag
            obtain ⟨h3, e4, f3, w3⟩ := d87 w2 (by omega)
            rw [show roI (some r) = nI r from rfl, show roI (some f) = nI f from rfl]
            simp only [S88, gFs, pFs, okq, bls, bo_true, eUp_at, eUp_eUp, eKls, cl_some, Option.toList_some, Option.toList_none, List.cons_append, List.nil_append, e3, e4]
            exact ⟨h3, rfl, f1.trans (f2.trans f3), w3⟩
      · rw [if_neg (fun e => q1 (l1.mp e))]
        dsimp only
        rw [if_neg (by omega)]
        exact ⟨h1, rfl, f1, w1⟩
theorem d125_loop {side : Nat} (k : KG h g H W C rows unk cols s) (b : GB H W C rows cols) (hsd : side < cols) : ∀ n r, r + n = rows → ru 125 5 [some (.ref g), some (.int (nI side)), some (.int (nI r))] [] h = some (some (.int (if fr s.1 side n r = none then nI 1 else nI 0)), h) := by
  obtain ⟨o, wb, ⟨P, Z, ga, q⟩, -⟩ := k
  obtain ⟨bw1, bw2⟩ := b.w
  obtain ⟨b1, b2, b3, b4, b5, b6⟩ := id b
  have o1 := o
  unfold GO at o1
  intro n
  induction n with
  | zero =>
    intro r hr
    rw [H125_5]
    simp only [S125, gFs, pFs, okq, bls, bo_true, eUp_at, eUp_eUp, eKls, cl_some, Option.toList_some, Option.toList_none, List.cons_append, List.nil_append, o1]
    rw [if_pos (nI_le (by omega) (by omega)), H125_46]
    simp only [S125, gFs, pFs, okq, bls, bo_true, eUp_at, eUp_eUp, eKls, cl_some, Option.toList_some, Option.toList_none, List.cons_append, List.nil_append]
    rfl
  | succ n ih =>
    intro r hr
    have hk : r * W + side < H * W := ix (by omega) (by omega)
    obtain ⟨c1, c2, -⟩ := q r side trivial (by omega) hsd
    rw [H125_5]
    simp only [S125, gFs, pFs, okq, bls, bo_true, eUp_at, eUp_eUp, eKls, cl_some, Option.toList_some, Option.toList_none, List.cons_append, List.nil_append, o1]
    rw [if_neg (nI_ge (by omega) (by omega))]
    simp only [S125, gFs, pFs, okq, bls, bo_true, eUp_at, eUp_eUp, eKls, cl_some, Option.toList_some, Option.toList_none, List.cons_append, List.nil_append, d85i o b (show r < rows by omega) hsd]
    rw [if_neg (by decide)]
    simp only [S125, gFs, pFs, okq, bls, bo_true, eUp_at, eUp_eUp, eKls, cl_some, Option.toList_some, Option.toList_none, List.cons_append, List.nil_append, o1, nI_at, ga.2]
    rw [aI_nI hk (by omega), c2]
    unfold fr
    by_cases h0 : s.1 r side = 0
    · rw [if_pos ((szg_eq0 (by omega)).mpr h0), if_pos h0, nI_1]
      exact ih (r + 1) (by omega)
    · rw [if_neg (fun e => h0 ((szg_eq0 (by omega)).mp e)), if_neg h0, if_neg (fun e => by cases e)]
theorem d125 {side : Nat} (k : KG h g H W C rows unk cols s) (b : GB H W C rows cols) (hsd : side < cols) (hrk : s.2.1 ≤ rows) : den 125 [.ref g, .int (nI side)] h = some (some (.int (if fr s.1 side (rows - s.2.1) s.2.1 = none then nI 1 else nI 0)), h) := by
  have o1 := k.1
  unfold GO at o1
  rw [E125 g _ k.1]
  simp only [S125, gFs, pFs, okq, bls, bo_true, eUp_at, eUp_eUp, eKls, cl_some, Option.toList_some, Option.toList_none, List.cons_append, List.nil_append, o1]
  exact d125_loop k b hsd (rows - s.2.1) s.2.1 (by omega)
theorem d126 {c : Int} {side a N : Nat} (k : KG h g H W C rows unk cols s) (b : GB H W C rows cols) (hu : unk ≤ cols) (hro : ∀ c r, s.2.2.2.1 c = some r → r < rows) (hc : iok c) (hsd : side < cols) (w : WX h a N) (hN : N ≤ 36) (hCN : C ≤ N) (hag : a + 1 < g ∨ g + 5 < a) : ∃ h', den 126 [.ref g, .ref a, .int (iI c), .int (nI side)] h = some (none, h') ∧ F2 a h h' ∧ WV h' a N (fso s unk c side) := by
  obtain ⟨b1, b2, b3, b4, b5, b6⟩ := id b
  obtain ⟨s0, c0, f0, w⟩ := w
  obtain ⟨h1, e1, f1, w1⟩ := d82 w
  have k1 : KG h1 g H W C rows unk cols s := k.keep (fun i i1 i2 => f1.2 i (by omega) (by omega))
  obtain ⟨o1, wb1, gc1, f5, r5, q5⟩ := id k1
  have oo1 := o1
  unfold GO at oo1
  rw [E126 g _ _ _ k.1]
  simp only [S126, gFs, pFs, okq, bls, bo_true, eUp_at, eUp_eUp, eKls, cl_some, Option.toList_some, Option.toList_none, List.cons_append, List.nil_append, e1, oo1]
  unfold fso
  have l0 : iI c < 0 ↔ c < 0 := by rw [show (0 : Int32) = iI 0 from by decide]; exact iI_lt hc iok_0
  have l1 : nI unk ≤ iI c ↔ (unk : Int) ≤ c := by rw [nI_I]; exact iI_le (iok_nI (by omega)) hc
  by_cases q0 : c < 0
  · rw [if_pos (l0.mpr q0), if_neg (by omega)]
    exact ⟨h1, rfl, f1, w1⟩
  · rw [if_neg (fun e => q0 (l0.mp e))]
    by_cases q1 : (unk : Int) ≤ c
    · rw [if_pos (l1.mpr q1), if_neg (by omega)]
      exact ⟨h1, rfl, f1, w1⟩
    · rw [if_neg (fun e => q1 (l1.mp e)), if_pos (show 0 ≤ c ∧ c < unk by omega)]
      obtain ⟨cn, hcn⟩ : ∃ n : Nat, c = n := ⟨c.toNat, by omega⟩
      subst hcn
      rw [Int.toNat_natCast]
      simp only [S126, gFs, pFs, okq, bls, bo_true, eUp_at, eUp_eUp, eKls, cl_some, Option.toList_some, Option.toList_none, List.cons_append, List.nil_append, r5]
      rw [show iI (cn : Int) = nI cn from rfl, aI_nI (by omega) (by omega), q5 cn (by omega)]
      cases hr : s.2.2.2.1 cn with
      | none =>
        obtain ⟨h2, e3, f2, w2⟩ := d86o (r := -1) (c := (side : Int)) (a := a) (N := N) o1 b w1.x (by unfold iok; omega) (iok_nI (by omega)) (by omega) hag
        rw [show iI (-1) = roI none from by decide, ← nI_I side] at e3
        simp only [S126, gFs, pFs, okq, bls, bo_true, eUp_at, eUp_eUp, eKls, cl_some, Option.toList_some, Option.toList_none, List.cons_append, List.nil_append, e3]
        exact ⟨h2, rfl, f1.trans f2, w2⟩
      | some r =>
        have t1 := gc1.fit (r := r) (c := side) trivial (hro cn r hr) (by omega)
        obtain ⟨h2, e3, f2, w2, o2, gc2⟩ := d86c (a := a) (N := N) (r := r) (c := side) o1 b gc1 trivial w1.x hN (by omega) (hro cn r hr) (by omega) hag
        rw [show roI (some r) = nI r from rfl]
        simp only [S126, gFs, pFs, okq, bls, bo_true, eUp_at, eUp_eUp, eKls, cl_some, Option.toList_some, Option.toList_none, List.cons_append, List.nil_append, e3]
        exact ⟨h2, rfl, f1.trans f2, w2⟩
theorem nI_sub {a b : Nat} (h : b ≤ a) : nI a - nI b = nI (a - b) := by
  rw [nI_I, nI_I, iI_sub, nI_I]
  congr 1
  omega
theorem d132 {rank : Nat} {ld : Int32} (o : GO h g H W C rows unk cols rank ld) (hrk : rank ≤ unk) : den 132 [.ref g] h = some (some (.int (nI (unk - rank))), h) := by
  have o1 := o
  unfold GO at o1
  rw [E132 g o]
  simp only [S132, gFs, pFs, okq, bls, bo_true, eUp_at, eUp_eUp, eKls, cl_some, Option.toList_some, Option.toList_none, List.cons_append, List.nil_append, o1, nI_sub hrk]
end GR8
/-! FRACTION: become -/
def FRX (h : eH) : Prop := FRo h ∧ WX h 14 36 ∧ WX h 16 36 ∧ WX h 18 36
theorem d158 {h : eH} (hF : FRX h) (v : Int32) (hv : v.toInt.natAbs < BB) : ∃ h', den 158 [.ref 13, .int v] h = some (none, h') ∧ FF h h' ∧ (∀ i, 17 < i → h'.1 i = h.1 i) ∧ FRX h' ∧ WV h' 14 36 v.toInt ∧ WV h' 16 36 1 := by
  obtain ⟨hF, ⟨s1, c1, f1, w1⟩, w2, w3⟩ := hF
  obtain ⟨h1, e1, q1, v1⟩ := d112 w1 (by decide) (by decide) v hv
  obtain ⟨s2, c2, f2, w2'⟩ := w2.kept q1 (by decide) (by decide) (by decide)
  obtain ⟨h2, e2, q2, v2⟩ := d112 w2' (by decide) (by decide) (nI 1) (by decide)
  have hF1 : h1.1 13 = .inr (4, [.ref 14, .ref 16, .ref 18]) := (q1.2 13 (by decide) (by decide)).trans hF
  have hF2 : h2.1 13 = .inr (4, [.ref 14, .ref 16, .ref 18]) := (q2.2 13 (by decide) (by decide)).trans hF1
  have v1' := v1.kept q2 (by decide) (by decide) (by decide)
  refine ⟨h2, ?_, (q1.ff (by omega)).trans (q2.ff (by omega)), fun i hi => (q2.2 i (by omega) (by omega)).trans (q1.2 i (by omega) (by omega)), ⟨hF2, v1'.x, v2.x, (w3.kept q1 (by decide) (by decide) (by decide)).kept q2 (by decide) (by decide) (by decide)⟩, v1', v2⟩
  have hF' := hF
  unfold FRo at hF'
  rw [E158 13 _ hF]
  simp only [S158, gFs, pFs, okq, bls, bo_true, eUp_at, eUp_eUp, eKls, cl_some, Option.toList_some, Option.toList_none, List.cons_append, List.nil_append, hF', e1, hF1, e2]
theorem tdiv_1 (x : Int) : x.tdiv 1 = x := Int.tdiv_one x
theorem d130 {h : eH} {a b Na Nb : Nat} {x y : Int} (hF : FRX h) (hD : DD h) (wa : WV h a Na x) (wb : WV h b Nb y) (hNa : Na ≤ 36) (hNb : Nb ≤ 36) (ha : a < 12 ∨ 29 < a) (hb : b < 12 ∨ 29 < b) (hx : x.natAbs < BB ^ 30) (hy : y.natAbs < BB ^ 30) : ∃ h', den 130 [.ref 13, .ref a, .ref b, .ref 21] h = some (none, h') ∧ FF h h' ∧ FRX h' ∧ DD h' ∧ WV h' 14 36 ((if y < 0 then -x else x).tdiv (Nat.gcd x.natAbs y.natAbs : Int)) ∧ WV h' 16 36 ((y.natAbs : Int).tdiv (Nat.gcd x.natAbs y.natAbs : Int)) := by
  obtain ⟨hF, ⟨s1, c1, f1, w1⟩, w2, w3⟩ := hF
  obtain ⟨-, -, wa3, -⟩ := id wa
  obtain ⟨-, -, wb3, -⟩ := id wb
  obtain ⟨h1, e1, q1, v1⟩ := d84 w1 wa (by omega) (by decide) (by omega) (by omega)
  obtain ⟨s2, c2, f2, w2'⟩ := w2.kept q1 (by decide) (by decide) (by decide)
  obtain ⟨h2, e2, q2, v2⟩ := d84 w2' (wb.kept q1 (by omega) (by omega) (by omega)) (by omega) (by decide) (by omega) (by omega)
  have v1' := v1.kept q2 (by decide) (by decide) (by decide)
  have w3' := (w3.kept q1 (by decide) (by decide) (by decide)).kept q2 (by decide) (by decide) (by decide)
  have kD : ∀ {h h' : eH} {a : Nat}, DD h → F2 a h h' → a ≤ 18 → DD h' := by
    intro h h' a d x ha
    obtain ⟨d1, d2, d3, d4, d5⟩ := d
    exact ⟨(x.2 21 (by omega) (by omega)).trans d1, d2.kept x (by omega) (by omega) (by omega), d3.kept x (by omega) (by omega) (by omega), d4.kept x (by omega) (by omega) (by omega), d5.kept x (by omega) (by omega) (by omega)⟩
  have D2 : DD h2 := kD (kD hD q1 (by decide)) q2 (by decide)
  have hF1 : h1.1 13 = .inr (4, [.ref 14, .ref 16, .ref 18]) := (q1.2 13 (by decide) (by decide)).trans hF
  have hF2 : h2.1 13 = .inr (4, [.ref 14, .ref 16, .ref 18]) := (q2.2 13 (by decide) (by decide)).trans hF1
  have ff2 : FF h h2 := (q1.ff (by omega)).trans (q2.ff (by omega))
  have hF' := hF
  unfold FRo at hF'
  have tl : ∀ (H : eH) (x' y' : Int), FF h H → H.1 13 = .inr (4, [.ref 14, .ref 16, .ref 18]) → DD H → WX H 18 36 → WV H 14 36 x' → WV H 16 36 y' → x'.natAbs = x.natAbs → y'.natAbs = y.natAbs → ∃ h', ru 130 40 [some (.ref 13), some (.ref a), some (.ref b), some (.ref 21), none] [] H = some (none, h') ∧ FF h h' ∧ FRX h' ∧ DD h' ∧ WV h' 14 36 (x'.tdiv (Nat.gcd x.natAbs y.natAbs : Int)) ∧ WV h' 16 36 (y'.tdiv (Nat.gcd x.natAbs y.natAbs : Int)) := by
    intro H x' y' ff hH hDH w18 wx wy ex ey
    obtain ⟨h3, p, e3, hp, fd, D3, vg⟩ := d127 hDH wx wy (by decide) (by decide) (by decide) (by decide) (by omega) (by omega)
    rw [ex, ey] at vg
    have n3 : ∀ i, i < 22 → h3.1 i = H.1 i := fun i hi => fd.2 i (by omega)
    have hH3 : h3.1 13 = .inr (4, [.ref 14, .ref 16, .ref 18]) := (n3 13 (by decide)).trans hH
    have e4 := d128 vg (by decide)
    have wx3 := wx.keptD fd (by decide)
    have wy3 := wy.keptD fd (by decide)
    have w183 := w18.keptD fd (by decide)
    by_cases hg1 : ((Nat.gcd x.natAbs y.natAbs : Int)).natAbs = 1
    · rw [if_pos hg1] at e4
      have hg1' : (Nat.gcd x.natAbs y.natAbs : Int) = 1 := by omega
      rw [hg1', tdiv_1, tdiv_1]
      refine ⟨h3, ?_, ff.trans fd.ff, ⟨hH3, wx3.x, wy3.x, w183⟩, D3, wx3, wy3⟩
      simp only [S130, gFs, pFs, okq, bls, bo_true, eUp_at, eUp_eUp, eKls, cl_some, Option.toList_some, Option.toList_none, List.cons_append, List.nil_append, hH, e3, e4]
      rw [if_neg (by decide)]
    · rw [if_neg hg1] at e4
      have p34 : BB ^ 30 < BB ^ 34 := Nat.pow_lt_pow_right (by decide) (by decide)
      obtain ⟨h4, e5, s4, n4, y18, y22, y24, u14, y21⟩ := d129 (a := 14) (c := p) hH3 D3 w183 wx3 vg (Or.inl rfl) hp (by omega)
      have D4 : DD h4 := by
        obtain ⟨d1, d2, d3, d4, d5⟩ := D3
        exact ⟨y21.trans d1, y22, y24, d4.keep (n4 _ (by decide) (by decide) (by decide) (by decide)) (n4 _ (by decide) (by decide) (by decide) (by decide)), d5.keep (n4 _ (by decide) (by decide) (by decide) (by decide)) (n4 _ (by decide) (by decide) (by decide) (by decide))⟩
      have hH4 : h4.1 13 = .inr (4, [.ref 14, .ref 16, .ref 18]) := (n4 13 (by decide) (by decide) (by decide) (by decide)).trans hH3
      have np : h4.1 p = h3.1 p ∧ h4.1 (p + 1) = h3.1 (p + 1) := by
        rcases hp with e | e <;> rw [e] <;> exact ⟨n4 _ (by decide) (by decide) (by decide) (by decide), n4 _ (by decide) (by decide) (by decide) (by decide)⟩
      have vg4 := vg.keep np.1 np.2
      have wy4 := wy3.keep (n4 _ (by decide) (by decide) (by decide) (by decide)) (n4 _ (by decide) (by decide) (by decide) (by decide))
      obtain ⟨h5, e6, s5, n5, z18, z22, z24, u16, z21⟩ := d129 (a := 16) (c := p) hH4 D4 y18 wy4 vg4 (Or.inr rfl) hp (by omega)
      have D5 : DD h5 := by
        obtain ⟨d1, d2, d3, d4, d5⟩ := D4
        exact ⟨z21.trans d1, z22, z24, d4.keep (n5 _ (by decide) (by decide) (by decide) (by decide)) (n5 _ (by decide) (by decide) (by decide) (by decide)), d5.keep (n5 _ (by decide) (by decide) (by decide) (by decide)) (n5 _ (by decide) (by decide) (by decide) (by decide))⟩
      have hH5 : h5.1 13 = .inr (4, [.ref 14, .ref 16, .ref 18]) := (n5 13 (by decide) (by decide) (by decide) (by decide)).trans hH4
      have u14' := u14.keep (n5 _ (by decide) (by decide) (by decide) (by decide)) (n5 _ (by decide) (by decide) (by decide) (by decide))
      have ff4 : FF h3 h4 := ⟨s4, fun i hi => n4 i (by omega) (by omega) (by omega) (by omega)⟩
      have ff5 : FF h4 h5 := ⟨s5, fun i hi => n5 i (by omega) (by omega) (by omega) (by omega)⟩
      refine ⟨h5, ?_, ff.trans (fd.ff.trans (ff4.trans ff5)), ⟨hH5, u14'.x, u16.x, z18⟩, D5, u14', u16⟩
      simp only [S130, gFs, pFs, okq, bls, bo_true, eUp_at, eUp_eUp, eKls, cl_some, Option.toList_some, Option.toList_none, List.cons_append, List.nil_append, hH, e3, e4]
      rw [if_pos (by decide)]
      simp only [S130, gFs, pFs, okq, bls, bo_true, eUp_at, eUp_eUp, eKls, cl_some, Option.toList_some, Option.toList_none, List.cons_append, List.nil_append, hH3, e5, hH4, e6]
  obtain ⟨f16, r16, -, -⟩ := id v2
  rw [E130 13 _ _ _ hF]
  simp only [S130, gFs, pFs, okq, bls, bo_true, eUp_at, eUp_eUp, eKls, cl_some, Option.toList_some, Option.toList_none, List.cons_append, List.nil_append, hF', e1, hF1, e2, hF2, r16.1]
  by_cases hy0 : y < 0
  · obtain ⟨h3, e3, q3, v3⟩ := d87 v1' (by decide)
    obtain ⟨h4, e4, q4, v4⟩ := d87 (v2.kept q3 (by decide) (by decide) (by decide)) (by decide)
    have hF3 : h3.1 13 = .inr (4, [.ref 14, .ref 16, .ref 18]) := (q3.2 13 (by decide) (by decide)).trans hF2
    have hF4 : h4.1 13 = .inr (4, [.ref 14, .ref 16, .ref 18]) := (q4.2 13 (by decide) (by decide)).trans hF3
    obtain ⟨h', e5, r⟩ := tl h4 (-x) (-y) (ff2.trans ((q3.ff (by omega)).trans (q4.ff (by omega)))) hF4 (kD (kD D2 q3 (by decide)) q4 (by decide)) ((w3'.kept q3 (by decide) (by decide) (by decide)).kept q4 (by decide) (by decide) (by decide)) (v3.kept q4 (by decide) (by decide) (by decide)) v4 (Int.natAbs_neg _) (Int.natAbs_neg _)
    rw [if_neg (by unfold sb; rw [if_pos hy0]; decide), if_pos hy0, show (y.natAbs : Int) = -y from by omega]
    refine ⟨h', ?_, r⟩
    rw [← e5]
    simp only [S130, gFs, pFs, okq, bls, bo_true, eUp_at, eUp_eUp, eKls, cl_some, Option.toList_some, Option.toList_none, List.cons_append, List.nil_append, e3, hF3, e4]
  · obtain ⟨h', e5, r⟩ := tl h2 x y ff2 hF2 D2 w3' v1' v2 rfl rfl
    rw [if_pos (by unfold sb; rw [if_neg hy0]), if_neg hy0, show (y.natAbs : Int) = y from by omega]
    refine ⟨h', ?_, r⟩
    rw [← e5]
    simp only [S130, gFs, pFs, okq, bls, bo_true, eUp_at, eUp_eUp, eKls, cl_some, Option.toList_some, Option.toList_none, List.cons_append, List.nil_append, hF2]
