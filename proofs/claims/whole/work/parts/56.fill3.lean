/-! NET: addHold, fillPlaces -/
def hc (n : NT) (k o : Nat) (p : Int) (c : Nat) : Int := (if ordr n k = some c then p else 0) - (if ordr n o = some c then p else 0) + (if nF n o = true then (if c = nFr n then p * nP n 0 o else if c = nFr n + 1 then p * nP n 1 o else 0) else 0)
def hm (n : NT) (k c m : Nat) : Int := (if nA n m = k then hc n k (nB n m) (nU n m) c else 0) + (if nB n m = k then hc n k (nA n m) (nU n m) c else 0)
def ldp (n : NT) (k c : Nat) : Int := if c = nFr n then nL n 0 k else if c = nFr n + 1 then nL n 1 k else 0
def pM (n : NT) (r c : Nat) : Int := su (hm n (jo n r) c) (nM n) + ldp n (jo n r) c
def pp (n : NT) (t u : Nat) (r c : Nat) : Int := su (hm n (jo n r) c) t + (if jo n r < u then ldp n (jo n r) c else 0)
theorem adm_yes {M : Nat → Nat → Int} {ro co : Option Nat} {v : Int} {r c : Nat} (h : ro = some r) : adm M ro co v r c = M r c + (if co = some c then v else 0) := by
  unfold adm
  by_cases q : co = some c
  · rw [if_pos ⟨h, q⟩, if_pos q]
  · rw [if_neg (fun e => q e.2), if_neg q, Int.add_zero]
theorem adm_no {M : Nat → Nat → Int} {ro co : Option Nat} {v : Int} {r c : Nat} (h : ¬ ro = some r) : adm M ro co v r c = M r c := by
  unfold adm
  rw [if_neg (fun e => h e.1)]
theorem adm_le {M : Nat → Nat → Int} {ro co : Option Nat} {v : Int} {r c K L : Nat} (h : (M r c).natAbs ≤ K) (hv : v.natAbs ≤ L) : (adm M ro co v r c).natAbs ≤ K + L := by
  unfold adm
  split
  · have := Int.natAbs_add_le (M r c) v; omega
  · omega
theorem ordr_iff {n : NT} {j r : Nat} (hj : j < nJ n) (hr : r < nFr n) : ordr n j = some r ↔ j = jo n r := by
  have hs := jof_spec (fx := nF n) (J := nJ n) (i := r) hr
  constructor
  · intro e
    obtain ⟨-, q1, q2⟩ := ordr_lt hj e
    exact cnt_inj q1 hs.2.1 (by rw [← q2]; exact hs.2.2.symm)
  · intro e
    unfold ordr
    have e1 : ¬ nF n j = true := by rw [e]; exact hs.2.1
    have e2 : cnt (nF n) j = r := by rw [e]; exact hs.2.2
    rw [if_neg e1, e2]
theorem mulle {u s : Int} (h1 : -1000 ≤ u ∧ u ≤ 1000) (h2 : -20 ≤ s ∧ s ≤ 20) : (u * s).natAbs ≤ 20000 := by
  rw [Int.natAbs_mul]
  exact Nat.mul_le_mul (show u.natAbs ≤ 1000 by omega) (show s.natAbs ≤ 20 by omega)
section FK
variable {h : eH} {a g H W C rows unk cols rank : Nat} {ld : Int32} {n : NT}
theorem hc_le (hv : NV n) {k o c : Nat} {p : Int} (ho : o < nJ n) (hp : -1000 ≤ p ∧ p ≤ 1000) : (hc n k o p c).natAbs ≤ 22000 := by
  have h1 := mulle hp (hv.2.1 0 o ho)
  have h2 := mulle hp (hv.2.1 1 o ho)
  have a1 : ((if ordr n k = some c then p else 0) : Int).natAbs ≤ 1000 := by split <;> omega
  have a2 : ((if ordr n o = some c then p else 0) : Int).natAbs ≤ 1000 := by split <;> omega
  have a3 : ((if nF n o = true then (if c = nFr n then p * nP n 0 o else if c = nFr n + 1 then p * nP n 1 o else 0) else 0) : Int).natAbs ≤ 20000 := by
    repeat' split
    · exact h1
    · exact h2
    · decide
    · decide
  unfold hc
  omega
theorem hm_le (hv : NV n) {k c m : Nat} (hm' : m < nM n) : (hm n k c m).natAbs ≤ 44000 := by
  obtain ⟨m1, m2, m3, -, u1, u2⟩ := hv.2.2.2 m hm'
  have h1 := hc_le hv (k := k) (c := c) m1 ⟨u1, u2⟩
  have h2 := hc_le hv (k := k) (c := c) m2 ⟨u1, u2⟩
  unfold hm
  split <;> split <;> omega
theorem hms_le (hv : NV n) (k c : Nat) : ∀ t, t ≤ nM n → (su (hm n k c) t).natAbs ≤ 44000 * t := by
  intro t
  induction t with
  | zero => intro _; exact Nat.zero_le _
  | succ t ih =>
    intro ht
    have h1 := ih (by omega)
    have h2 := hm_le hv (k := k) (c := c) (m := t) (by omega)
    show (su (hm n k c) t + hm n k c t).natAbs ≤ _
    omega
theorem pp_le (hv : NV n) {t u r c : Nat} (ht : t ≤ nM n) (hr : r < nFr n) : (pp n t u r c).natAbs ≤ 700000 := by
  have h1 := hms_le hv (jo n r) c t ht
  have h2 := hv.1
  have hs := jof_spec (fx := nF n) (J := nJ n) (i := r) hr
  have l0 := hv.2.2.1 0 (jo n r) hs.1
  have l1 := hv.2.2.1 1 (jo n r) hs.1
  have h3 : (ldp n (jo n r) c).natAbs ≤ 1000 := by
    unfold ldp
    repeat' split
    all_goals omega
  unfold pp
  split <;> omega
theorem d154 {M : Nat → Nat → Int} {k o : Nat} {p : Int} {K : Nat} (hv : NV n) (hga : g + 5 < a) (no : NO h a n) (go : GO h g H W C (nFr n) unk (nFr n + 2) rank ld) (b : GB H W C (nFr n) (nFr n + 2)) (gc : GC h g H W C (nFr n) (nFr n + 2) (fun _ _ => True) M) (hk : k < nJ n) (ho : o < nJ n) (hp : -1000 ≤ p ∧ p ≤ 1000) (hK : ∀ r c, r < nFr n → c < nFr n + 2 → (M r c).natAbs ≤ K) (hKb : K ≤ 900000) : ∃ h', den 154 [.ref a, .ref g, .int (nI k), .int (nI o), .int (iI p)] h = some (none, h') ∧ FA g h h' ∧ GO h' g H W C (nFr n) unk (nFr n + 2) rank ld ∧ GC h' g H W C (nFr n) (nFr n + 2) (fun _ _ => True) (fun r c => if ordr n k = some r then M r c + hc n k o p c else M r c) := by
  have v1 := hv.1
  have hBB : BB = 1000000000 := rfl
  obtain ⟨h1, e1, f1, go1, gc1⟩ := d110m (ro := ordr n k) (co := ordr n k) (v := p) (K := K) go b gc (fun r hr => (ordr_lt hk hr).1) (fun c hc => by have := (ordr_lt hk hc).1; omega) hK (by omega)
  have o1 := no.keep (h' := h1) (fun i i1 i2 => f1.2 i (by omega) (by omega))
  obtain ⟨h2, e2, f2, go2, gc2⟩ := d110m (ro := ordr n k) (co := ordr n o) (v := - p) (K := K + 1000) go1 b gc1 (fun r hr => (ordr_lt hk hr).1) (fun c hc => by have := (ordr_lt ho hc).1; omega) (fun r c hr hc => adm_le (hK r c hr hc) (by omega)) (by omega)
  have o2 := o1.keep (h' := h2) (fun i i1 i2 => f2.2 i (by omega) (by omega))
  have i3 := d107 o2 hv ho
  obtain ⟨x0, x1, x2, x3, x4, x5, x6, x7, x8, x9⟩ := id no
  obtain ⟨y0, y1, y2, y3, y4, y5, y6, y7, y8, y9⟩ := id o1
  obtain ⟨z0, z1, z2, z3, z4, z5, z6, z7, z8, z9⟩ := id o2
  by_cases q : nF n o = true
  · rw [if_pos q] at i3
    have m1 := mulle hp (hv.2.1 0 o ho)
    have m2 := mulle hp (hv.2.1 1 o ho)
    obtain ⟨h3, e3, f3, go3, gc3⟩ := d110m (ro := ordr n k) (co := some (nFr n)) (v := p * nP n 0 o) (K := K + 1000 + 1000) go2 b gc2 (fun r hr => (ordr_lt hk hr).1) (fun c hc => by cases hc; omega) (fun r c hr hc => adm_le (adm_le (hK r c hr hc) (by omega)) (by omega)) (by omega)
    have o3 := o2.keep (h' := h3) (fun i i1 i2 => f3.2 i (by omega) (by omega))
    obtain ⟨h4, e4, f4, go4, gc4⟩ := d110m (ro := ordr n k) (co := some (nFr n + 1)) (v := p * nP n 1 o) (K := K + 1000 + 1000 + 20000) go3 b gc3 (fun r hr => (ordr_lt hk hr).1) (fun c hc => by cases hc; omega) (fun r c hr hc => adm_le (adm_le (adm_le (hK r c hr hc) (by omega)) (by omega)) m1) (by omega)
    obtain ⟨w0, w1, w2, w3, w4, w5, w6, w7, w8, w9⟩ := id o3
    refine ⟨h4, ?_, f1.trans (f2.trans (f3.trans f4)), go4, gc4.mono (fun r c _ r2 r3 => ⟨trivial, ?_⟩)⟩
    · rw [show roI (some (nFr n)) = nI (nFr n) from rfl] at e3
      rw [show roI (some (nFr n + 1)) = nI (nFr n + 1) from rfl] at e4
      have zz := z2 0 (by decide)
      have ww := w2 1 (by decide)
      rw [E154 a _ _ _ _ x0]
      simp only [S154, gFs, pFs, okq, bls, bo_true, eUp_at, eUp_eUp, eKls, cl_some, Option.toList_some, Option.toList_none, List.cons_append, List.nil_append, x0, x5.get hk v1.2.1 (by decide), e1, y0, y5.get hk v1.2.1 (by decide), y5.get ho v1.2.1 (by decide), iI_neg, e2, i3]
      rw [if_neg (by decide)]
      simp only [S154, gFs, pFs, okq, bls, bo_true, eUp_at, eUp_eUp, eKls, cl_some, Option.toList_some, Option.toList_none, List.cons_append, List.nil_append, z0, z5.get hk v1.2.1 (by decide), z1.get (j := 0) (by decide), zz.get ho v1.2.1 (by decide), iI_mul, e3, w0, w5.get hk v1.2.1 (by decide), w1.get (j := 1) (by decide), ww.get ho v1.2.1 (by decide), nI_add, e4]
    · by_cases qr : ordr n k = some r
      · rw [if_pos qr, adm_yes qr, adm_yes qr, adm_yes qr, adm_yes qr]
        unfold hc
        have on : ordr n o = none := by unfold ordr; rw [if_pos q]
        rw [on, if_pos q, if_neg (show ¬ (none : Option Nat) = some c from fun e => by cases e), if_neg (show ¬ (none : Option Nat) = some c from fun e => by cases e)]
        have s1 : (some (nFr n) = some c) ↔ c = nFr n := ⟨fun e => by cases e; rfl, fun e => by rw [e]⟩
        have s2 : (some (nFr n + 1) = some c) ↔ c = nFr n + 1 := ⟨fun e => by cases e; rfl, fun e => by rw [e]⟩
        simp only [s1, s2]
        by_cases c1 : c = nFr n
        · rw [if_pos c1, if_neg (show ¬ c = nFr n + 1 by omega), if_pos c1]
          omega
        · rw [if_neg c1, if_neg c1]
          by_cases c2 : c = nFr n + 1
          · rw [if_pos c2]
            omega
          · rw [if_neg c2]
            omega
      · rw [if_neg qr, adm_no qr, adm_no qr, adm_no qr, adm_no qr]
  · rw [if_neg q] at i3
    refine ⟨h2, ?_, f1.trans f2, go2, gc2.mono (fun r c _ r2 r3 => ⟨trivial, ?_⟩)⟩
    · rw [E154 a _ _ _ _ x0]
      simp only [S154, gFs, pFs, okq, bls, bo_true, eUp_at, eUp_eUp, eKls, cl_some, Option.toList_some, Option.toList_none, List.cons_append, List.nil_append, x0, x5.get hk v1.2.1 (by decide), e1, y0, y5.get hk v1.2.1 (by decide), y5.get ho v1.2.1 (by decide), iI_neg, e2, i3]
      rw [if_pos (by decide)]
    · by_cases qr : ordr n k = some r
      · rw [if_pos qr, adm_yes qr, adm_yes qr]
        unfold hc
        rw [if_neg q]
        by_cases c1 : ordr n o = some c
        · rw [if_pos c1, if_pos c1]
          omega
        · rw [if_neg c1, if_neg c1]
          omega
      · rw [if_neg qr, adm_no qr, adm_no qr]
theorem d155_mem (hv : NV n) (hga : g + 5 < a) (b : GB H W C (nFr n) (nFr n + 2)) : ∀ r t h, t + r = nM n → NO h a n → GO h g H W C (nFr n) unk (nFr n + 2) rank ld → GC h g H W C (nFr n) (nFr n + 2) (fun _ _ => True) (pp n t 0) → ∃ h', ru 155 15 [some (.ref a), some (.ref g), some (.int (nI t))] [] h = ru 155 77 [some (.ref a), some (.ref g), some (.int (nI 0))] [] h' ∧ FA g h h' ∧ GO h' g H W C (nFr n) unk (nFr n + 2) rank ld ∧ GC h' g H W C (nFr n) (nFr n + 2) (fun _ _ => True) (pp n (nM n) 0) := by
  intro r
  have v1 := hv.1
  induction r with
  | zero =>
    intro t h ht o go gc
    have : t = nM n := by omega
    subst this
    refine ⟨h, ?_, FA.refl _ _, go, gc⟩
    rw [H155_15]
    simp only [S155, gFs, pFs, okq, bls, bo_true, eUp_at, eUp_eUp, eKls, cl_some, Option.toList_some, Option.toList_none, List.cons_append, List.nil_append, o.1]
    rw [if_pos (nI_le (Nat.le_refl _) (by omega)), H155_75]
    simp only [S155, gFs, pFs, okq, bls, bo_true, eUp_at, eUp_eUp, eKls, cl_some, Option.toList_some, Option.toList_none, List.cons_append, List.nil_append]
  | succ r ih =>
    intro t h ht o go gc
    have htm : t < nM n := by omega
    obtain ⟨m1, m2, m3, -, u1, u2⟩ := hv.2.2.2 t htm
    obtain ⟨h1, e1, f1, go1, gc1⟩ := d154 (k := nA n t) (o := nB n t) (p := nU n t) (K := 700000) hv hga o go b gc m1 m2 ⟨u1, u2⟩ (fun r c hr hc => pp_le hv (by omega) hr) (by decide)
    have o1 := o.keep (h' := h1) (fun i i1 i2 => f1.2 i (by omega) (by omega))
    obtain ⟨h2, e2, f2, go2, gc2⟩ := d154 (k := nB n t) (o := nA n t) (p := nU n t) (K := 722000) hv hga o1 go1 b gc1 m2 m1 ⟨u1, u2⟩ (fun r c hr hc' => by
      have l1 := pp_le hv (t := t) (u := 0) (c := c) (by omega) hr
      have l2 := hc_le hv (k := nA n t) (c := c) m2 ⟨u1, u2⟩
      show (if ordr n (nA n t) = some r then pp n t 0 r c + hc n (nA n t) (nB n t) (nU n t) c else pp n t 0 r c).natAbs ≤ 722000
      split <;> omega) (by decide)
    have o2 := o1.keep (h' := h2) (fun i i1 i2 => f2.2 i (by omega) (by omega))
    obtain ⟨h3, e3, f3, r3⟩ := ih (t + 1) h2 (by omega) o2 go2 (gc2.mono (fun r' c' _ x2 x3 => ⟨trivial, by
      have i1 := ordr_iff (r := r') m1 x2
      have i2 := ordr_iff (r := r') m2 x2
      unfold pp
      show su (hm n (jo n r') c') t + hm n (jo n r') c' t + _ = _
      unfold hm
      simp only [i1, i2]
      by_cases q1 : nA n t = jo n r'
      · rw [if_pos q1, if_pos q1, if_neg (by omega), if_neg (by omega), if_neg (by omega), q1]
        omega
      · rw [if_neg q1, if_neg q1]
        by_cases q2 : nB n t = jo n r'
        · rw [if_pos q2, if_pos q2, if_neg (by omega), q2]
          omega
        · rw [if_neg q2, if_neg q2, if_neg (by omega)]
          omega⟩))
    refine ⟨h3, ?_, f1.trans (f2.trans f3), r3⟩
    rw [← e3]
    obtain ⟨x0, -, -, -, -, -, x6, x7, -, x9⟩ := id o
    obtain ⟨y0, -, -, -, -, -, y6, y7, -, y9⟩ := id o1
    rw [H155_15]
    simp only [S155, gFs, pFs, okq, bls, bo_true, eUp_at, eUp_eUp, eKls, cl_some, Option.toList_some, Option.toList_none, List.cons_append, List.nil_append, x0]
    rw [if_neg (nI_ge htm (by omega))]
    simp only [S155, gFs, pFs, okq, bls, bo_true, eUp_at, eUp_eUp, eKls, cl_some, Option.toList_some, Option.toList_none, List.cons_append, List.nil_append, x0, x6.get htm v1.2.2 (by decide), x7.get htm v1.2.2 (by decide), x9.get htm v1.2.2 (by decide), e1, y0, y6.get htm v1.2.2 (by decide), y7.get htm v1.2.2 (by decide), y9.get htm v1.2.2 (by decide), e2]
    rw [nI_1]
theorem d155_jnt (hv : NV n) (hga : g + 5 < a) (b : GB H W C (nFr n) (nFr n + 2)) : ∀ r u h, u + r = nJ n → NO h a n → GO h g H W C (nFr n) unk (nFr n + 2) rank ld → GC h g H W C (nFr n) (nFr n + 2) (fun _ _ => True) (pp n (nM n) u) → ∃ h', ru 155 77 [some (.ref a), some (.ref g), some (.int (nI u))] [] h = some (none, h') ∧ FA g h h' ∧ GO h' g H W C (nFr n) unk (nFr n + 2) rank ld ∧ GC h' g H W C (nFr n) (nFr n + 2) (fun _ _ => True) (pM n) := by
  intro r
  have v1 := hv.1
  have hBB : BB = 1000000000 := rfl
  induction r with
  | zero =>
    intro u h ht o go gc
    have : u = nJ n := by omega
    subst this
    refine ⟨h, ?_, FA.refl _ _, go, gc.mono (fun r' c' _ x2 x3 => ⟨trivial, ?_⟩)⟩
    · rw [H155_77]
      simp only [S155, gFs, pFs, okq, bls, bo_true, eUp_at, eUp_eUp, eKls, cl_some, Option.toList_some, Option.toList_none, List.cons_append, List.nil_append, o.1]
      rw [if_pos (nI_le (Nat.le_refl _) (by omega))]
    · have hs := jof_spec (fx := nF n) (J := nJ n) (i := r') x2
      unfold pp pM
      rw [if_pos (show jo n r' < nJ n from hs.1)]
  | succ r ih =>
    intro u h ht o go gc
    have hum : u < nJ n := by omega
    have l0 := hv.2.2.1 0 u hum
    have l1 := hv.2.2.1 1 u hum
    obtain ⟨h1, e1, f1, go1, gc1⟩ := d110m (ro := ordr n u) (co := some (nFr n)) (v := nL n 0 u) (K := 700000) go b gc (fun r hr => (ordr_lt hum hr).1) (fun c hc => by cases hc; omega) (fun r c hr hc => pp_le hv (Nat.le_refl _) hr) (by omega)
    have o1 := o.keep (h' := h1) (fun i i1 i2 => f1.2 i (by omega) (by omega))
    obtain ⟨h2, e2, f2, go2, gc2⟩ := d110m (ro := ordr n u) (co := some (nFr n + 1)) (v := nL n 1 u) (K := 700000 + 1000) go1 b gc1 (fun r hr => (ordr_lt hum hr).1) (fun c hc => by cases hc; omega) (fun r c hr hc => adm_le (pp_le hv (Nat.le_refl _) hr) (by omega)) (by omega)
    have o2 := o1.keep (h' := h2) (fun i i1 i2 => f2.2 i (by omega) (by omega))
    obtain ⟨h3, e3, f3, r3⟩ := ih (u + 1) h2 (by omega) o2 go2 (gc2.mono (fun r' c' _ x2 x3 => ⟨trivial, by
      have i1 := ordr_iff (r := r') hum x2
      by_cases q : u = jo n r'
      · rw [adm_yes (i1.mpr q), adm_yes (i1.mpr q)]
        have s1 : (some (nFr n) = some c') ↔ c' = nFr n := ⟨fun e => by cases e; rfl, fun e => by rw [e]⟩
        have s2 : (some (nFr n + 1) = some c') ↔ c' = nFr n + 1 := ⟨fun e => by cases e; rfl, fun e => by rw [e]⟩
        simp only [s1, s2]
        unfold pp
        rw [if_pos (show jo n r' < u + 1 by omega), if_neg (show ¬ jo n r' < u by omega)]
        unfold ldp
        rw [← q]
        by_cases c1 : c' = nFr n
        · rw [if_pos c1, if_pos c1, if_neg (show ¬ c' = nFr n + 1 by omega)]
          omega
        · rw [if_neg c1, if_neg c1]
          by_cases c2 : c' = nFr n + 1
          · rw [if_pos c2]
            omega
          · rw [if_neg c2]
            omega
      · rw [adm_no (fun e => q (i1.mp e)), adm_no (fun e => q (i1.mp e))]
        unfold pp
        by_cases q1 : jo n r' < u
        · rw [if_pos q1, if_pos (by omega)]
        · rw [if_neg q1, if_neg (by omega)]⟩))
    refine ⟨h3, ?_, f1.trans (f2.trans f3), r3⟩
    rw [← e3]
    rw [show roI (some (nFr n)) = nI (nFr n) from rfl] at e1
    rw [show roI (some (nFr n + 1)) = nI (nFr n + 1) from rfl] at e2
    obtain ⟨x0, -, -, x3, x4, x5, -, -, -, -⟩ := id o
    obtain ⟨y0, -, -, y3, y4, y5, -, -, -, -⟩ := id o1
    have xx := x4 0 (by decide)
    have yy := y4 1 (by decide)
    rw [H155_77]
    simp only [S155, gFs, pFs, okq, bls, bo_true, eUp_at, eUp_eUp, eKls, cl_some, Option.toList_some, Option.toList_none, List.cons_append, List.nil_append, x0]
    rw [if_neg (nI_ge hum (by omega))]
    simp only [S155, gFs, pFs, okq, bls, bo_true, eUp_at, eUp_eUp, eKls, cl_some, Option.toList_some, Option.toList_none, List.cons_append, List.nil_append, x0, x5.get hum v1.2.1 (by decide), x3.get (j := 0) (by decide), xx.get hum v1.2.1 (by decide), e1, y0, y5.get hum v1.2.1 (by decide), y3.get (j := 1) (by decide), yy.get hum v1.2.1 (by decide), nI_add, e2]
    rw [nI_1]
theorem d155 {P Z : Nat → Int32} {cols' : Nat} (hv : NV n) (hga : g + 5 < a) (o : NO h a n) (go : GO h g H W C rows unk cols' rank ld) (ga : GA h g H W C P Z) (b : GB H W C (nFr n) (nFr n + 2)) : ∃ h', den 155 [.ref a, .ref g] h = some (none, h') ∧ h'.2 = h.2 ∧ (∀ i, i ≠ g → i ≠ g + 3 → i ≠ g + 4 → h'.1 i = h.1 i) ∧ GO h' g H W C (nFr n) (nFr n) (nFr n + 2) rank ld ∧ GC h' g H W C (nFr n) (nFr n + 2) (fun _ _ => True) (pM n) := by
  have v1 := hv.1
  obtain ⟨h1, e1, fb1, go1, gc1⟩ := d106 (rc := nFr n) (uc := nFr n) (s := 2) go ga b
  have o1 := o.keep (h' := h1) (fun i i1 i2 => fb1.2 i (by omega) (by omega))
  obtain ⟨h2, e2, f2, go2, gc2⟩ := d155_mem hv hga b (nM n) 0 h1 (by omega) o1 go1 (gc1.mono (fun r c _ _ _ => ⟨trivial, by
    unfold pp
    rw [if_neg (by omega)]
    rfl⟩))
  have o2 := o1.keep (h' := h2) (fun i i1 i2 => f2.2 i (by omega) (by omega))
  obtain ⟨h3, e3, f3, go3, gc3⟩ := d155_jnt hv hga b (nJ n) 0 h2 (by omega) o2 go2 gc2
  have fa := f2.trans f3
  refine ⟨h3, ?_, fa.1.trans fb1.1, fun i i1 i2 i3 => (fa.2 i i2 i3).trans (fb1.2 i i1 i3), go3, gc3⟩
  have x0 := o.1
  rw [E155 a _ x0, ← e3, ← e2]
  simp only [S155, gFs, pFs, okq, bls, bo_true, eUp_at, eUp_eUp, eKls, cl_some, Option.toList_some, Option.toList_none, List.cons_append, List.nil_append, x0, e1]
end FK
