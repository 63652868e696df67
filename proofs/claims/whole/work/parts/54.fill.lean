/-! NET: fillForces, fillMoves -/
def jof (fx : Nat → Bool) : Nat → Nat → Nat
  | 0, _ => 0
  | j + 1, i => if ¬ fx j = true ∧ cnt fx j = i then j else jof fx j i
theorem jof_spec {fx : Nat → Bool} : ∀ {J i : Nat}, i < cnt fx J → jof fx J i < J ∧ ¬ fx (jof fx J i) = true ∧ cnt fx (jof fx J i) = i := by
  intro J
  induction J with
  | zero => intro i h; exact absurd h (Nat.not_lt_zero _)
  | succ J ih =>
    intro i h
    unfold jof
    by_cases q : ¬ fx J = true ∧ cnt fx J = i
    · rw [if_pos q]
      exact ⟨Nat.lt_succ_self _, q⟩
    · rw [if_neg q]
      have h' : i < cnt fx J + (if fx J = true then 0 else 1) := h
      have : i < cnt fx J := by
        by_cases q1 : fx J = true
        · rw [if_pos q1] at h'; omega
        · rw [if_neg q1] at h'
          have : cnt fx J ≠ i := fun e => q ⟨q1, e⟩
          omega
      obtain ⟨r1, r2⟩ := ih this
      exact ⟨by omega, r2⟩
theorem jof_cnt {fx : Nat → Bool} {J k : Nat} (hk : k < J) (hf : ¬ fx k = true) : jof fx J (cnt fx k) = k := by
  obtain ⟨-, r2, r3⟩ := jof_spec (cnt_lt hk hf)
  exact cnt_inj r2 hf r3
def jo (n : NT) (i : Nat) : Nat := jof (nF n) (nJ n) i
theorem mov_iff {n : NT} {j ax r : Nat} (hj : j < nJ n) (hx : ax < 2) (hr : r < 2 * nFr n) : mov n j ax = some r ↔ r % 2 = ax ∧ j = jo n (r / 2) := by
  have hs := jof_spec (fx := nF n) (J := nJ n) (i := r / 2) (by unfold nFr at hr; omega)
  unfold mov jo
  by_cases q : nF n j = true
  · rw [if_pos q]
    refine ⟨fun e => (by cases e), fun e => ?_⟩
    rw [e.2] at q
    exact absurd q hs.2.1
  · rw [if_neg q]
    constructor
    · intro e
      have e' : 2 * cnt (nF n) j + ax = r := by cases e; rfl
      refine ⟨by omega, cnt_inj q hs.2.1 ?_⟩
      rw [hs.2.2]
      omega
    · intro ⟨e1, e2⟩
      have : cnt (nF n) j = r / 2 := by rw [e2]; exact hs.2.2
      rw [this]
      congr 1
      omega
theorem mov_lt {n : NT} {j ax r : Nat} (hj : j < nJ n) (hx : ax < 2) (h : mov n j ax = some r) : r < 2 * nFr n := by
  unfold mov at h
  by_cases q : nF n j = true
  · rw [if_pos q] at h; cases h
  · rw [if_neg q] at h
    have := cnt_lt hj q
    cases h
    unfold nFr
    omega
theorem nFr_le {n : NT} (hv : NV n) : nFr n ≤ 8 := by
  have h1 := cnt_le (nF n) (nJ n)
  have h2 := hv.1
  unfold nFr
  omega
def fM (n : NT) (r c : Nat) : Int := if c < nM n then far n c (jo n (r / 2)) (r % 2) else - nL n (r % 2) (jo n (r / 2))
def mM (n : NT) (r c : Nat) : Int := - far n r (jo n (c / 2)) (c % 2)
def adm (M : Nat → Nat → Int) (ro co : Option Nat) (v : Int) : Nat → Nat → Int := fun r c => if ro = some r ∧ co = some c then M r c + v else M r c
section FI
variable {h : eH} {a g H W C rows unk cols rank : Nat} {ld : Int32} {n : NT}
theorem d110m {M : Nat → Nat → Int} {ro co : Option Nat} {v : Int} {K : Nat} (o : GO h g H W C rows unk cols rank ld) (b : GB H W C rows cols) (gc : GC h g H W C rows cols (fun _ _ => True) M) (hr : ∀ r, ro = some r → r < rows) (hc : ∀ c, co = some c → c < cols) (hK : ∀ r c, r < rows → c < cols → (M r c).natAbs ≤ K) (hv : K + v.natAbs < BB) : ∃ h', den 110 [.ref g, .int (roI ro), .int (roI co), .int (iI v)] h = some (none, h') ∧ FA g h h' ∧ GO h' g H W C rows unk cols rank ld ∧ GC h' g H W C rows cols (fun _ _ => True) (adm M ro co v) := by
  obtain ⟨b1, b2, b3, b4, b5, b6⟩ := id b
  have out : ∀ r c : Int, iok r → iok c → ¬ (0 ≤ r ∧ r < rows ∧ 0 ≤ c ∧ c < cols) → roI ro = iI r → roI co = iI c → (ro = none ∨ co = none) → ∃ h', den 110 [.ref g, .int (roI ro), .int (roI co), .int (iI v)] h = some (none, h') ∧ FA g h h' ∧ GO h' g H W C rows unk cols rank ld ∧ GC h' g H W C rows cols (fun _ _ => True) (adm M ro co v) := by
    intro r c k1 k2 k3 e1 e2 hn
    refine ⟨h, ?_, FA.refl _ _, o, gc.mono (fun r' c' _ x2 x3 => ⟨trivial, ?_⟩)⟩
    · rw [e1, e2]
      exact d110o o b k1 k2 k3
    · unfold adm
      rw [if_neg]
      intro e
      rcases hn with hn | hn
      · rw [hn] at e; cases e.1
      · rw [hn] at e; cases e.2
  cases ro with
  | none =>
    cases co with
    | none => exact out (-1) (-1) (by unfold iok; omega) (by unfold iok; omega) (by omega) (by decide) (by decide) (Or.inl rfl)
    | some c => exact out (-1) c (by unfold iok; omega) (iok_nI (by have := hc c rfl; omega)) (by omega) (by decide) rfl (Or.inl rfl)
  | some r =>
    have hr' := hr r rfl
    cases co with
    | none => exact out r (-1) (iok_nI (by omega)) (by unfold iok; omega) (by omega) rfl (by decide) (Or.inr rfl)
    | some c =>
      have hc' := hc c rfl
      have hk := hK r c hr' hc'
      obtain ⟨h', e, fa, gc'⟩ := d110 (v := v) o b gc trivial (by omega) (by have := Int.natAbs_add_le (M r c) v; omega) hr' hc'
      refine ⟨h', e, fa, o.k (fa.2 g (by omega) (by omega)), gc'.mono (fun r' c' _ x2 x3 => ⟨trivial, ?_⟩)⟩
      unfold adm up2
      by_cases q : r' = r ∧ c' = c
      · rw [if_pos q, if_pos ⟨by rw [q.1], by rw [q.2]⟩, q.1, q.2]
      · rw [if_neg q, if_neg]
        intro e
        refine q ⟨?_, ?_⟩
        · have := e.1; cases this; rfl
        · have := e.2; cases this; rfl
def pf (n : NT) (ax t u : Nat) (r c : Nat) : Int := if r % 2 < ax then fM n r c else if r % 2 = ax then (if c < nM n then (if c < t then fM n r c else 0) else if jo n (r / 2) < u then fM n r c else 0) else 0
theorem far_le (hv : NV n) {m k ax : Nat} (hm : m < nM n) : (far n m k ax).natAbs ≤ 40 := by
  have h2 := spn_le hv (ax := ax) hm
  unfold far
  split
  · omega
  · split
    · omega
    · decide
theorem fM_le (hv : NV n) {r c : Nat} (hr : r < 2 * nFr n) : (fM n r c).natAbs ≤ 1000 := by
  unfold fM
  split
  · next hc => have := far_le hv (k := jo n (r / 2)) (ax := r % 2) hc; omega
  · have hs := jof_spec (fx := nF n) (J := nJ n) (i := r / 2) (by unfold nFr at hr; omega)
    have := hv.2.2.1 (r % 2) (jo n (r / 2)) hs.1
    omega
theorem pf_le (hv : NV n) {ax t u r c : Nat} (hr : r < 2 * nFr n) : (pf n ax t u r c).natAbs ≤ 1000 := by
  have := fM_le hv (c := c) hr
  unfold pf
  repeat' split
  all_goals omega
theorem pf_mem (hv : NV n) {ax t u r c : Nat} (hr : r < 2 * nFr n) (hx : ax < 2) (ht : t < nM n) : pf n ax (t + 1) u r c = adm (adm (pf n ax t u) (mov n (nA n t) ax) (some t) (spn n t ax)) (mov n (nB n t) ax) (some t) (- spn n t ax) r c := by
  obtain ⟨m1, m2, m3, -⟩ := hv.2.2.2 t ht
  have i1 := mov_iff (r := r) m1 hx hr
  have i2 := mov_iff (r := r) m2 hx hr
  unfold adm
  by_cases qc : c = t
  · subst qc
    have e0 : pf n ax c u r c = if r % 2 < ax then fM n r c else 0 := by
      unfold pf
      by_cases q1 : r % 2 < ax
      · rw [if_pos q1, if_pos q1]
      · rw [if_neg q1, if_neg q1]
        by_cases q2 : r % 2 = ax
        · rw [if_pos q2, if_pos ht, if_neg (Nat.lt_irrefl _)]
        · rw [if_neg q2]
    have e1 : pf n ax (c + 1) u r c = if r % 2 < ax then fM n r c else if r % 2 = ax then far n c (jo n (r / 2)) ax else 0 := by
      unfold pf
      by_cases q1 : r % 2 < ax
      · rw [if_pos q1, if_pos q1]
      · rw [if_neg q1, if_neg q1]
        by_cases q2 : r % 2 = ax
        · rw [if_pos q2, if_pos q2, if_pos ht, if_pos (Nat.lt_succ_self _)]
          unfold fM
          rw [if_pos ht, q2]
        · rw [if_neg q2, if_neg q2]
    rw [e0, e1]
    by_cases q1 : r % 2 < ax
    · rw [if_pos q1, if_pos q1, if_neg (fun e => by have := (i2.mp e.1).1; omega), if_neg (fun e => by have := (i1.mp e.1).1; omega)]
    · rw [if_neg q1, if_neg q1]
      by_cases q2 : r % 2 = ax
      · rw [if_pos q2]
        unfold far
        by_cases k1 : nA n c = jo n (r / 2)
        · rw [if_pos k1, if_neg (fun e => by have := (i2.mp e.1).2; omega), if_pos ⟨i1.mpr ⟨q2, k1⟩, rfl⟩, Int.zero_add]
        · rw [if_neg k1]
          by_cases k2 : nB n c = jo n (r / 2)
          · rw [if_pos k2, if_pos ⟨i2.mpr ⟨q2, k2⟩, rfl⟩, if_neg (fun e => k1 (i1.mp e.1).2), Int.zero_add]
          · rw [if_neg k2, if_neg (fun e => k2 (i2.mp e.1).2), if_neg (fun e => k1 (i1.mp e.1).2)]
      · rw [if_neg q2, if_neg (fun e => q2 (i2.mp e.1).1), if_neg (fun e => q2 (i1.mp e.1).1)]
  · rw [if_neg (fun e => by have := e.2; cases this; exact qc rfl), if_neg (fun e => by have := e.2; cases this; exact qc rfl)]
    unfold pf
    by_cases q1 : r % 2 < ax
    · rw [if_pos q1, if_pos q1]
    · rw [if_neg q1, if_neg q1]
      by_cases q2 : r % 2 = ax
      · rw [if_pos q2, if_pos q2]
        by_cases q3 : c < nM n
        · rw [if_pos q3, if_pos q3]
          by_cases q4 : c < t
          · rw [if_pos q4, if_pos (by omega)]
          · rw [if_neg q4, if_neg (by omega)]
        · rw [if_neg q3, if_neg q3]
      · rw [if_neg q2, if_neg q2]
theorem pf_jnt (hv : NV n) {ax u r c : Nat} (hr : r < 2 * nFr n) (hc : c < nM n + 1) (hx : ax < 2) (hu : u < nJ n) : pf n ax (nM n) (u + 1) r c = adm (pf n ax (nM n) u) (mov n u ax) (some (nM n)) (- nL n ax u) r c := by
  have i1 := mov_iff (r := r) hu hx hr
  unfold adm
  by_cases q : mov n u ax = some r ∧ some (nM n) = some c
  · rw [if_pos q]
    obtain ⟨q1, q2⟩ := i1.mp q.1
    have hcM : c = nM n := by have := q.2; cases this; rfl
    unfold pf
    rw [if_neg (by omega), if_pos q1, if_neg (by omega), if_pos (by omega), if_neg (by omega), if_pos q1, if_neg (by omega), if_neg (by omega), Int.zero_add]
    unfold fM
    rw [if_neg (by omega), q1, ← q2]
  · rw [if_neg q]
    unfold pf
    by_cases q1 : r % 2 < ax
    · rw [if_pos q1, if_pos q1]
    · rw [if_neg q1, if_neg q1]
      by_cases q2 : r % 2 = ax
      · rw [if_pos q2, if_pos q2]
        by_cases q3 : c < nM n
        · simp only [if_pos q3]
        · rw [if_neg q3, if_neg q3]
          have : ¬ u = jo n (r / 2) := fun e => q ⟨i1.mpr ⟨q2, e⟩, by congr 1; omega⟩
          by_cases q4 : jo n (r / 2) < u
          · rw [if_pos q4, if_pos (by omega)]
          · rw [if_neg q4, if_neg (by omega)]
      · rw [if_neg q2, if_neg q2]
theorem pf_lo {ax t u r c : Nat} (h : r % 2 < ax) : pf n ax t u r c = fM n r c := by
  unfold pf
  rw [if_pos h]
theorem pf_hi {ax t u r c : Nat} (h : ax < r % 2) : pf n ax t u r c = 0 := by
  unfold pf
  rw [if_neg (by omega), if_neg (by omega)]
theorem pf_00 {ax r c : Nat} (h : r % 2 = ax) : pf n ax 0 0 r c = 0 := by
  unfold pf
  rw [if_neg (by omega), if_pos h]
  split
  · rw [if_neg (Nat.not_lt_zero _)]
  · rw [if_neg (Nat.not_lt_zero _)]
theorem pf_full {ax r c : Nat} (h : r % 2 = ax) (hj : jo n (r / 2) < nJ n) : pf n ax (nM n) (nJ n) r c = fM n r c := by
  unfold pf
  rw [if_neg (by omega), if_pos h]
  split
  · rfl
  · rfl
theorem d111_mem {ax : Nat} (hv : NV n) (hga : g + 5 < a) (hx : ax < 2) (b : GB H W C (2 * nFr n) (nM n + 1)) : ∀ r t h, t + r = nM n → NO h a n → GO h g H W C (2 * nFr n) unk (nM n + 1) rank ld → GC h g H W C (2 * nFr n) (nM n + 1) (fun _ _ => True) (pf n ax t 0) → ∃ h', ru 111 24 [some (.ref a), some (.ref g), some (.int (nI ax)), some (.int (nI t))] [] h = ru 111 85 [some (.ref a), some (.ref g), some (.int (nI ax)), some (.int (nI 0))] [] h' ∧ FA g h h' ∧ GO h' g H W C (2 * nFr n) unk (nM n + 1) rank ld ∧ GC h' g H W C (2 * nFr n) (nM n + 1) (fun _ _ => True) (pf n ax (nM n) 0) := by
  intro r
  have v1 := hv.1
  induction r with
  | zero =>
    intro t h ht o go gc
    have : t = nM n := by omega
    subst this
    refine ⟨h, ?_, FA.refl _ _, go, gc⟩
    rw [H111_24]
    simp only [S111, gFs, pFs, okq, bls, bo_true, eUp_at, eUp_eUp, eKls, cl_some, Option.toList_some, Option.toList_none, List.cons_append, List.nil_append, o.1]
    rw [if_pos (nI_le (Nat.le_refl _) (by omega)), H111_83]
    simp only [S111, gFs, pFs, okq, bls, bo_true, eUp_at, eUp_eUp, eKls, cl_some, Option.toList_some, Option.toList_none, List.cons_append, List.nil_append]
  | succ r ih =>
    intro t h ht o go gc
    have htm : t < nM n := by omega
    obtain ⟨m1, m2, m3, -⟩ := hv.2.2.2 t htm
    have hs := spn_le hv (ax := ax) htm
    obtain ⟨h1, e1, f1, go1, gc1⟩ := d110m (ro := mov n (nA n t) ax) (co := some t) (v := spn n t ax) (K := 1000) go b gc (fun r hr => mov_lt m1 hx hr) (fun c hc => by cases hc; omega) (fun r c hr hc => pf_le hv hr) (by have : BB = 1000000000 := rfl; omega)
    have o1 := o.keep (h' := h1) (fun i i1 i2 => f1.2 i (by omega) (by omega))
    obtain ⟨h2, e2, f2, go2, gc2⟩ := d110m (ro := mov n (nB n t) ax) (co := some t) (v := - spn n t ax) (K := 1040) go1 b gc1 (fun r hr => mov_lt m2 hx hr) (fun c hc => by cases hc; omega) (fun r c hr hc => by
      have := pf_le hv (ax := ax) (t := t) (u := 0) (c := c) hr
      unfold adm
      split
      · have := Int.natAbs_add_le (pf n ax t 0 r c) (spn n t ax); omega
      · omega) (by have : BB = 1000000000 := rfl; omega)
    have o2 := o1.keep (h' := h2) (fun i i1 i2 => f2.2 i (by omega) (by omega))
    obtain ⟨h3, e3, f3, r3⟩ := ih (t + 1) h2 (by omega) o2 go2 (gc2.mono (fun r' c' _ x2 x3 => ⟨trivial, pf_mem hv x2 hx htm⟩))
    refine ⟨h3, ?_, f1.trans (f2.trans f3), r3⟩
    rw [← e3]
    have s1 := d109 o hv htm hx
    have s2 := d109 o1 hv htm hx
    have p1 := d108 (ax := ax) o hv m1
    have p2 := d108 (ax := ax) o1 hv m2
    rw [show roI (some t) = nI t from rfl] at e1 e2
    obtain ⟨x0, -, -, -, -, -, x6, x7, -, -⟩ := id o
    obtain ⟨y0, -, -, -, -, -, y6, y7, -, -⟩ := id o1
    rw [H111_24]
    simp only [S111, gFs, pFs, okq, bls, bo_true, eUp_at, eUp_eUp, eKls, cl_some, Option.toList_some, Option.toList_none, List.cons_append, List.nil_append, x0]
    rw [if_neg (nI_ge htm (by omega))]
    simp only [S111, gFs, pFs, okq, bls, bo_true, eUp_at, eUp_eUp, eKls, cl_some, Option.toList_some, Option.toList_none, List.cons_append, List.nil_append, x0, x6.get htm v1.2.2 (by decide), p1, s1, e1, y0, y7.get htm v1.2.2 (by decide), p2, s2, iI_neg, e2]
    rw [nI_1]
theorem d111_jnt {ax : Nat} (hv : NV n) (hga : g + 5 < a) (hx : ax < 2) (b : GB H W C (2 * nFr n) (nM n + 1)) : ∀ r u h, u + r = nJ n → NO h a n → GO h g H W C (2 * nFr n) unk (nM n + 1) rank ld → GC h g H W C (2 * nFr n) (nM n + 1) (fun _ _ => True) (pf n ax (nM n) u) → ∃ h' x3, ru 111 85 [some (.ref a), some (.ref g), some (.int (nI ax)), some (.int (nI u))] [] h = ru 111 17 [some (.ref a), some (.ref g), some (.int (nI (ax + 1))), x3] [] h' ∧ FA g h h' ∧ GO h' g H W C (2 * nFr n) unk (nM n + 1) rank ld ∧ GC h' g H W C (2 * nFr n) (nM n + 1) (fun _ _ => True) (pf n ax (nM n) (nJ n)) := by
  intro r
  have v1 := hv.1
  induction r with
  | zero =>
    intro u h ht o go gc
    have : u = nJ n := by omega
    subst this
    refine ⟨h, some (.int (nI (nJ n))), ?_, FA.refl _ _, go, gc⟩
    rw [H111_85]
    simp only [S111, gFs, pFs, okq, bls, bo_true, eUp_at, eUp_eUp, eKls, cl_some, Option.toList_some, Option.toList_none, List.cons_append, List.nil_append, o.1]
    rw [if_pos (nI_le (Nat.le_refl _) (by omega)), H111_122]
    simp only [S111, gFs, pFs, okq, bls, bo_true, eUp_at, eUp_eUp, eKls, cl_some, Option.toList_some, Option.toList_none, List.cons_append, List.nil_append]
    rw [nI_1]
  | succ r ih =>
    intro u h ht o go gc
    have hum : u < nJ n := by omega
    have hl := hv.2.2.1 ax u hum
    obtain ⟨h1, e1, f1, go1, gc1⟩ := d110m (ro := mov n u ax) (co := some (nM n)) (v := - nL n ax u) (K := 1000) go b gc (fun r hr => mov_lt hum hx hr) (fun c hc => by cases hc; omega) (fun r c hr hc => pf_le hv hr) (by have : BB = 1000000000 := rfl; omega)
    have o1 := o.keep (h' := h1) (fun i i1 i2 => f1.2 i (by omega) (by omega))
    obtain ⟨h3, x3, e3, f3, r3⟩ := ih (u + 1) h1 (by omega) o1 go1 (gc1.mono (fun r' c' _ x2 x3 => ⟨trivial, pf_jnt hv x2 x3 hx hum⟩))
    refine ⟨h3, x3, ?_, f1.trans f3, r3⟩
    rw [← e3]
    have p1 := d108 (ax := ax) o hv hum
    rw [show roI (some (nM n)) = nI (nM n) from rfl] at e1
    obtain ⟨x0, -, -, z3, z4, -, -, -, -, -⟩ := id o
    rw [H111_85]
    simp only [S111, gFs, pFs, okq, bls, bo_true, eUp_at, eUp_eUp, eKls, cl_some, Option.toList_some, Option.toList_none, List.cons_append, List.nil_append, x0]
    rw [if_neg (nI_ge hum (by omega))]
    simp only [S111, gFs, pFs, okq, bls, bo_true, eUp_at, eUp_eUp, eKls, cl_some, Option.toList_some, Option.toList_none, List.cons_append, List.nil_append, x0, p1, z3.get hx, (z4 ax hx).get hum v1.2.1 (by decide), iI_neg, e1]
    rw [nI_1]
theorem d111 {P Z : Nat → Int32} {cols' : Nat} (hv : NV n) (hga : g + 5 < a) (o : NO h a n) (go : GO h g H W C rows unk cols' rank ld) (ga : GA h g H W C P Z) (b : GB H W C (2 * nFr n) (nM n + 1)) : ∃ h', den 111 [.ref a, .ref g] h = some (none, h') ∧ h'.2 = h.2 ∧ (∀ i, i ≠ g → i ≠ g + 3 → i ≠ g + 4 → h'.1 i = h.1 i) ∧ GO h' g H W C (2 * nFr n) (nM n) (nM n + 1) rank ld ∧ GC h' g H W C (2 * nFr n) (nM n + 1) (fun _ _ => True) (fM n) := by
  have v1 := hv.1
  obtain ⟨h1, e1, fb1, go1, gc1⟩ := d106 (rc := 2 * nFr n) (uc := nM n) (s := 1) go ga b
  have o1 := o.keep (h' := h1) (fun i i1 i2 => fb1.2 i (by omega) (by omega))
  have z0 : ∀ r c, pf n 0 0 0 r c = 0 := by
    intro r c
    by_cases q : r % 2 = 0
    · exact pf_00 q
    · exact pf_hi (by omega)
  obtain ⟨h2, e2, f2, go2, gc2⟩ := d111_mem (ax := 0) hv hga (by decide) b (nM n) 0 h1 (by omega) o1 go1 (gc1.mono (fun r c _ _ _ => ⟨trivial, z0 r c⟩))
  have o2 := o1.keep (h' := h2) (fun i i1 i2 => f2.2 i (by omega) (by omega))
  obtain ⟨h3, y3, e3, f3, go3, gc3⟩ := d111_jnt (ax := 0) hv hga (by decide) b (nJ n) 0 h2 (by omega) o2 go2 gc2
  have o3 := o2.keep (h' := h3) (fun i i1 i2 => f3.2 i (by omega) (by omega))
  obtain ⟨h4, e4, f4, go4, gc4⟩ := d111_mem (ax := 1) hv hga (by decide) b (nM n) 0 h3 (by omega) o3 go3 (gc3.mono (fun r c _ x2 x3 => ⟨trivial, by
    have hs := jof_spec (fx := nF n) (J := nJ n) (i := r / 2) (by unfold nFr at x2; omega)
    have hs1 : jo n (r / 2) < nJ n := hs.1
    by_cases q : r % 2 = 0
    · rw [pf_lo (by omega), pf_full q hs1]
    · rw [pf_00 (by omega), pf_hi (by omega)]⟩))
  have o4 := o3.keep (h' := h4) (fun i i1 i2 => f4.2 i (by omega) (by omega))
  obtain ⟨h5, y5, e5, f5, go5, gc5⟩ := d111_jnt (ax := 1) hv hga (by decide) b (nJ n) 0 h4 (by omega) o4 go4 gc4
  have fa := f2.trans (f3.trans (f4.trans f5))
  refine ⟨h5, ?_, fa.1.trans fb1.1, fun i i1 i2 i3 => (fa.2 i i2 i3).trans (fb1.2 i i1 i3), go5, gc5.mono (fun r c _ x2 x3 => ⟨trivial, ?_⟩)⟩
  · have x0 := o.1
    rw [E111 a _ x0]
    simp only [S111, gFs, pFs, okq, bls, bo_true, eUp_at, eUp_eUp, eKls, cl_some, Option.toList_some, Option.toList_none, List.cons_append, List.nil_append, x0, nI_mul, e1]
    rw [H111_17]
    simp only [S111, gFs, pFs, okq, bls, bo_true, eUp_at, eUp_eUp, eKls, cl_some, Option.toList_some, Option.toList_none, List.cons_append, List.nil_append]
    rw [if_neg (by decide), e2, e3, H111_17]
    simp only [S111, gFs, pFs, okq, bls, bo_true, eUp_at, eUp_eUp, eKls, cl_some, Option.toList_some, Option.toList_none, List.cons_append, List.nil_append]
    rw [if_neg (by decide), e4, e5, H111_17]
    simp only [S111, gFs, pFs, okq, bls, bo_true, eUp_at, eUp_eUp, eKls, cl_some, Option.toList_some, Option.toList_none, List.cons_append, List.nil_append]
    rw [if_pos (by decide)]
  · have hs := jof_spec (fx := nF n) (J := nJ n) (i := r / 2) (by unfold nFr at x2; omega)
    have hs1 : jo n (r / 2) < nJ n := hs.1
    by_cases q : r % 2 = 0
    · rw [pf_lo (by omega)]
    · rw [pf_full (by omega) hs1]
end FI
