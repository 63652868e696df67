/-! THE REFERENCE: carry, set, copy, more, turn, isBelow, isZero, sign -/
section RO1
variable {h : eH} {jt mb hi wi rk co : Int32} {f : Nat → Int64} {a : Nat}
theorem lokB {z : Int} (h1 : -4000000000000000 ≤ z) (h2 : z ≤ 4000000000000000) : lok z := by unfold lok; omega
theorem lN_Bi : lN 1000000000 = lI Bi := rfl
theorem lok_Bi : lok Bi := by unfold lok Bi; omega
theorem eUp_up {h : eH} {e e' : va_E} (b : Nat) : eUp (eUp h b e) b e' = eUp h b e' := eUp_eUp h b e e'
/-- the parts while they are carried -/
def CV (e : Nat → Int) (k : Nat) : Prop := (∀ j, j < k → 0 ≤ e j ∧ e j < Bi) ∧ (-2000000000000000 ≤ e k ∧ e k ≤ 2000000000000000) ∧ ∀ j, k < j → j < 24 → -1000000000000000 ≤ e j ∧ e j ≤ 1000000000000000
theorem CV.step {e : Nat → Int} {k : Nat} (c : CV e k) (hk : k < 23) : CV (cst e k) (k + 1) := by
  obtain ⟨c1, c2, c3⟩ := c
  have hB : Bi = 1000000000 := rfl
  have m1 := Int.emod_nonneg (e k) (Int.ne_of_gt Bi_pos)
  have m2 := Int.emod_lt_of_pos (e k) Bi_pos
  have m3 := Int.mul_ediv_add_emod (e k) Bi
  refine ⟨fun j hj => ?_, ?_, fun j j1 j2 => ?_⟩
  · unfold cst
    by_cases q : j = k
    · rw [if_pos q]; exact ⟨m1, m2⟩
    · rw [if_neg q, if_neg (by omega)]; exact c1 j (by omega)
  · unfold cst
    rw [if_neg (by omega), if_pos rfl]
    have := c3 (k + 1) (by omega) (by omega)
    rw [hB] at m1 m2 m3 ⊢
    omega
  · unfold cst
    rw [if_neg (by omega), if_neg (by omega)]
    exact c3 j (by omega) j2
theorem d11_loop (o : MOo h jt mb hi wi rk co) (ha : a < 412) : ∀ r k e x3 x4, k + r = 23 → CV e k → ru 11 2 [some (.ref 239), some (.int (nI a)), some (.int (nI k)), x3, x4] [] (eUp h 240 (.inl (1, 9888, .inr (.inl (upR f a e))))) = some (none, eUp h 240 (.inl (1, 9888, .inr (.inl (upR f a (fd (hor e 24 0))))))) := by
  intro r
  have n1 : (239 : Nat) ≠ 240 := by decide
  unfold MOo at o
  induction r with
  | zero =>
    intro k e x3 x4 hk c
    have : k = 23 := by omega
    subst this
    rw [H11_2]
    simp only [S11, gFs, pFs, okq, bls, bo_true, eUp_at, eUp_eUp, eKls, cl_some, Option.toList_some, Option.toList_none, List.cons_append, List.nil_append]
    rw [if_pos (by decide), upR_congr (hor_dig (fun j hj => c.1 j hj))]
  | succ r ih =>
    intro k e x3 x4 hk c
    have hk23 : k < 23 := by omega
    have cc := c
    obtain ⟨c1, c2, c3⟩ := c
    have hB : Bi = 1000000000 := rfl
    have m1 := Int.emod_nonneg (e k) (Int.ne_of_gt Bi_pos)
    have m2 := Int.emod_lt_of_pos (e k) Bi_pos
    have m3 := Int.mul_ediv_add_emod (e k) Bi
    have l1 := c3 (k + 1) (by omega) (by omega)
    have i1 : nI 24 * nI a + nI k = nI (24 * a + k) := by rw [nI_mul, nI_add]
    have i2 : nI (24 * a + k) + nI 1 = nI (24 * a + (k + 1)) := by rw [nI_add]; rfl
    have e7 := d7 (lokB (by omega : -4000000000000000 ≤ e k) (by omega)) lok_Bi Bi_pos
    have e6 := d6 (lokB (by omega : -4000000000000000 ≤ e k) (by omega)) lok_Bi Bi_pos
    rw [H11_2]
    simp only [S11, gFs, pFs, okq, bls, bo_true, eUp_at, eUp_eUp, eKls, cl_some, Option.toList_some, Option.toList_none, List.cons_append, List.nil_append, eUp_ne n1, o, i1]
    rw [if_neg (nI_ge hk23 (by decide)), aL_nI (by omega) (by decide), upR_get f a k e (by omega)]
    simp only [S11, gFs, pFs, okq, bls, bo_true, eUp_at, eUp_eUp, eKls, cl_some, Option.toList_some, Option.toList_none, List.cons_append, List.nil_append, eUp_ne n1, o, i1, lN_Bi, e7]
    rw [wL_nI (by omega) (by decide), upR_set f a k e _ (by omega)]
    simp only [S11, gFs, pFs, okq, bls, bo_true, eUp_at, eUp_eUp, eKls, cl_some, Option.toList_some, Option.toList_none, List.cons_append, List.nil_append, eUp_ne n1, o, i1, i2]
    rw [aL_nI (by omega) (by decide), upR_get f a (k + 1) _ (by omega), if_neg (by omega)]
    simp only [S11, gFs, pFs, okq, bls, bo_true, eUp_at, eUp_eUp, eKls, cl_some, Option.toList_some, Option.toList_none, List.cons_append, List.nil_append, lN_Bi, e6, lI_add]
    rw [wL_nI (by omega) (by decide), upR_set f a (k + 1) _ _ (by omega), nI_1]
    have st := ih (k + 1) (cst e k) (some (.long (lI (e k)))) none (by omega) (cc.step hk23)
    rw [hor_cst e k 24 0 (by omega) (by omega)] at st
    have ef : upR f a (fun j => if j = k + 1 then e (k + 1) + e k / Bi else if j = k then e k % Bi else e j) = upR f a (cst e k) := upR_congr (fun j hj => by
      unfold cst
      by_cases q1 : j = k + 1
      · rw [if_pos q1, if_neg (by omega), if_pos q1]
      · rw [if_neg q1]
        by_cases q2 : j = k
        · rw [if_pos q2, if_pos q2]
        · rw [if_neg q2, if_neg q2, if_neg q1])
    rw [ef]
    exact st
theorem d11 {p : Nat → Int} (o : MOo h jt mb hi wi rk co) (n : MN h f) (rg : RG f a p) (ha : a < 412) (hp : ∀ j, j < 24 → -1000000000000000 ≤ p j ∧ p j ≤ 1000000000000000) : den 11 [.ref 239, .int (nI a)] h = some (none, eUp h 240 (.inl (1, 9888, .inr (.inl (upR f a (fd (hor p 24 0))))))) := by
  have c : CV p 0 := ⟨fun j hj => absurd hj (Nat.not_lt_zero _), by have := hp 0 (by decide); omega, fun j _ j2 => hp j j2⟩
  have := d11_loop (f := f) o ha 23 0 p none none (by decide) c
  rw [upR_id rg, eUp_id n] at this
  rw [E11 239 _ o, ← this]
  simp only [S11, gFs, pFs, okq, bls, bo_true, eUp_at, eUp_eUp, eKls, cl_some, Option.toList_some, Option.toList_none, List.cons_append, List.nil_append]
def hW (h : eH) (f : Nat → Int64) : eH := eUp h 240 (.inl (1, 9888, .inr (.inl f)))
theorem hW_hW (h : eH) (f g : Nat → Int64) : hW (hW h f) g = hW h g := eUp_eUp ..
theorem hW_id (n : MN h f) : hW h f = h := eUp_id n
theorem hW_mn (h : eH) (f : Nat → Int64) : MN (hW h f) f := eUp_at ..
theorem hW_mo (o : MOo h jt mb hi wi rk co) (f : Nat → Int64) : MOo (hW h f) jt mb hi wi rk co := (eUp_ne (by decide)).trans o
theorem d11w {p : Nat → Int} (o : MOo h jt mb hi wi rk co) (rg : RG f a p) (ha : a < 412) (hp : ∀ j, j < 24 → -1000000000000000 ≤ p j ∧ p j ≤ 1000000000000000) : den 11 [.ref 239, .int (nI a)] (hW h f) = some (none, hW h (upR f a (fd (hor p 24 0)))) := by
  rw [d11 (hW_mo o f) (hW_mn h f) rg ha hp]
  rw [show eUp (hW h f) 240 _ = hW h (upR f a (fd (hor p 24 0))) from eUp_eUp ..]
theorem upR_raw (f : Nat → Int64) (a : Nat) : RG f a (fun k => (f (24 * a + k)).toInt) := fun k _ => (lI_of _).symm
theorem d12_loop {v : Int} {p0 : Nat → Int} (o : MOo h jt mb hi wi rk co) (ha : a < 412) : ∀ r k, k + r = 24 → ru 12 3 [some (.ref 239), some (.int (nI a)), some (.long (lI v)), none, some (.int (nI k))] [] (hW h (upR f a (fun j => if j < k then (if j = 0 then v else 0) else p0 j))) = ru 12 38 [some (.ref 239), some (.int (nI a)), some (.long (lI v)), none, some (.int (nI 24))] [] (hW h (upR f a (fun j => if j = 0 then v else 0))) := by
  intro r
  induction r with
  | zero =>
    intro k hk
    have : k = 24 := by omega
    subst this
    rw [H12_3]
    simp only [S12, gFs, pFs, okq, bls, bo_true, eUp_at, eUp_eUp, eKls, cl_some, Option.toList_some, Option.toList_none, List.cons_append, List.nil_append]
    rw [if_pos (by decide), upR_congr (q := fun j => if j = 0 then v else 0) (fun j hj => if_pos hj)]
  | succ r ih =>
    intro k hk
    have o' := hW_mo o (upR f a (fun j => if j < k then (if j = 0 then v else 0) else p0 j))
    have n' := hW_mn h (upR f a (fun j => if j < k then (if j = 0 then v else 0) else p0 j))
    unfold MOo at o'
    unfold MN at n'
    have i1 : nI 24 * nI a + nI k = nI (24 * a + k) := by rw [nI_mul, nI_add]
    rw [H12_3]
    simp only [S12, gFs, pFs, okq, bls, bo_true, eUp_at, eUp_eUp, eKls, cl_some, Option.toList_some, Option.toList_none, List.cons_append, List.nil_append, o', n', i1]
    rw [if_neg (nI_ge (by omega) (by decide))]
    have fin : ∀ z : Int, z = (if k = 0 then v else 0) → wL (.inl (1, 9888, .inr (.inl (upR f a (fun j => if j < k then (if j = 0 then v else 0) else p0 j))))) (nI (24 * a + k)) (lI z) (fun e => ru 12 3 [some (.ref 239), some (.int (nI a)), some (.long (lI v)), none, some (.int (nI k + 1))] [] (eUp (hW h (upR f a (fun j => if j < k then (if j = 0 then v else 0) else p0 j))) 240 e)) = ru 12 38 [some (.ref 239), some (.int (nI a)), some (.long (lI v)), none, some (.int (nI 24))] [] (hW h (upR f a (fun j => if j = 0 then v else 0))) := by
      intro z hz
      rw [wL_nI (by omega) (by decide), upR_set f a k _ _ (by omega), nI_1]
      rw [show eUp (hW h (upR f a (fun j => if j < k then (if j = 0 then v else 0) else p0 j))) 240 (.inl (1, 9888, .inr (.inl (upR f a (fun j => if j = k then z else if j < k then (if j = 0 then v else 0) else p0 j))))) = hW h (upR f a (fun j => if j < k + 1 then (if j = 0 then v else 0) else p0 j)) from by
        unfold hW
        rw [eUp_eUp, upR_congr (q := fun j => if j < k + 1 then (if j = 0 then v else 0) else p0 j)]
        intro j hj
        by_cases q : j = k
        · rw [if_pos q, if_pos (by omega), hz, q]
        · rw [if_neg q]
          by_cases q2 : j < k
          · rw [if_pos q2, if_pos (show j < k + 1 by omega)]
          · rw [if_neg q2, if_neg (show ¬ j < k + 1 by omega)]]
      exact ih (k + 1) (by omega)
    by_cases q : k = 0
    · rw [if_pos (by rw [q]; rfl)]
      exact fin v (by rw [if_pos q])
    · rw [if_neg (nI_ne0 (by omega) (by omega))]
      exact fin 0 (by rw [if_neg q])
theorem d12 {v : Int} (o : MOo h jt mb hi wi rk co) (ha : a < 412) (hv : -1000000000000000 ≤ v ∧ v ≤ 1000000000000000) : den 12 [.ref 239, .int (nI a), .long (lI v)] (hW h f) = some (none, hW h (upR f a (fd v))) := by
  have o' := hW_mo o f
  have l := d12_loop (f := f) (v := v) (p0 := fun k => (f (24 * a + k)).toInt) o ha 24 0 (by decide)
  rw [show (fun j => if j < 0 then (if j = 0 then v else 0) else (f (24 * a + j)).toInt) = (fun k => (f (24 * a + k)).toInt) from by funext j; rw [if_neg (Nat.not_lt_zero _)], upR_id (upR_raw f a)] at l
  rw [E12 239 _ _ o']
  simp only [S12, gFs, pFs, okq, bls, bo_true, eUp_at, eUp_eUp, eKls, cl_some, Option.toList_some, Option.toList_none, List.cons_append, List.nil_append]
  rw [l, H12_38]
  have c := d11w (f := upR f a (fun j => if j = 0 then v else 0)) o (upR_rg _ _ _) ha (fun j hj => by split <;> omega)
  rw [hor_set, upR_upR] at c
  simp only [S12, gFs, pFs, okq, bls, bo_true, eUp_at, eUp_eUp, eKls, cl_some, Option.toList_some, Option.toList_none, List.cons_append, List.nil_append, c]
end RO1
