/-! THE REFERENCE: copy, more, turn, isBelow, isZero, sign -/
def mx (k : Nat) (s p : Nat → Int) : Nat → Int := fun j => if j < k then s j else p j
theorem mx_0 (s p : Nat → Int) : mx 0 s p = p := by
  funext j
  unfold mx
  rw [if_neg (Nat.not_lt_zero _)]
theorem upR_mx24 (f : Nat → Int64) (a : Nat) (s p : Nat → Int) : upR f a (mx 24 s p) = upR f a s := upR_congr (fun j hj => by unfold mx; rw [if_pos hj])
theorem upR_mx (f : Nat → Int64) (a k : Nat) (s p : Nat → Int) (hk : k < 24) : vp_updL (upR f a (mx k s p)) (24 * a + k) (lI (s k)) = upR f a (mx (k + 1) s p) := by
  rw [upR_set f a k _ _ hk]
  refine upR_congr (fun j hj => ?_)
  unfold mx
  by_cases q : j = k
  · rw [if_pos q, if_pos (show j < k + 1 by omega), q]
  · rw [if_neg q]
    by_cases q2 : j < k
    · rw [if_pos q2, if_pos (show j < k + 1 by omega)]
    · rw [if_neg q2, if_neg (show ¬ j < k + 1 by omega)]
theorem mx_at (k : Nat) (s p : Nat → Int) : mx k s p k = p k := by
  unfold mx
  rw [if_neg (Nat.lt_irrefl _)]
theorem hW_up (h : eH) (f g : Nat → Int64) : eUp (hW h f) 240 (.inl (1, 9888, .inr (.inl g))) = hW h g := eUp_eUp ..
/-- numbers that fit -/
def vB (v : Int) : Prop := -(Bi ^ 23) ≤ v ∧ v < Bi ^ 23
theorem fd_top {v : Int} (h : vB v) : -1 ≤ fd v 23 ∧ fd v 23 ≤ 0 ∧ (fd v 23 < 0 ↔ v < 0) := by
  have hB := BiP_pos 23
  have e : fd v 23 = v / Bi ^ 23 := by unfold fd; rw [if_neg (by decide)]
  rw [e]
  by_cases q : 0 ≤ v
  · rw [Int.ediv_eq_zero_of_lt q h.2]
    refine ⟨by decide, by decide, ?_⟩
    omega
  · have h1 : v / Bi ^ 23 = -1 := by
      have h2 : (v + 1 * Bi ^ 23) / Bi ^ 23 = v / Bi ^ 23 + 1 := Int.add_mul_ediv_right v 1 (Int.ne_of_gt hB)
      have h3 : (v + 1 * Bi ^ 23) / Bi ^ 23 = 0 := Int.ediv_eq_zero_of_lt (by have := h.1; omega) (by omega)
      omega
    rw [h1]
    refine ⟨by decide, by decide, ?_⟩
    omega
theorem fd_bd {v : Int} (h : vB v) {k : Nat} (hk : k < 24) : -1 ≤ fd v k ∧ fd v k ≤ 999999999 := by
  by_cases q : k < 23
  · have e : fd v k = v / Bi ^ k % Bi := by unfold fd; rw [if_pos q]
    have m1 := Int.emod_nonneg (v / Bi ^ k) (Int.ne_of_gt Bi_pos)
    have m2 := Int.emod_lt_of_pos (v / Bi ^ k) Bi_pos
    rw [e]
    have hB : Bi = 1000000000 := rfl
    rw [hB] at m1 m2 ⊢
    omega
  · have : k = 23 := by omega
    subst this
    have := fd_top h
    omega
section RO2
variable {h : eH} {jt mb hi wi rk co : Int32} {f : Nat → Int64} {a b : Nat}
theorem d20_loop {q p : Nat → Int} (o : MOo h jt mb hi wi rk co) (ha : a < 412) (hb : b < 412) (hab : b ≠ a) (rg : RG f b q) : ∀ r k, k + r = 24 → ru 20 2 [some (.ref 239), some (.int (nI a)), some (.int (nI b)), some (.int (nI k))] [] (hW h (upR f a (mx k q p))) = some (none, hW h (upR f a q)) := by
  intro r
  induction r with
  | zero =>
    intro k hk
    have : k = 24 := by omega
    subst this
    rw [H20_2]
    simp only [S20, gFs, pFs, okq, bls, bo_true, eUp_at, eUp_eUp, eKls, cl_some, Option.toList_some, Option.toList_none, List.cons_append, List.nil_append]
    rw [if_pos (by decide), upR_mx24]
  | succ r ih =>
    intro k hk
    have o' := hW_mo o (upR f a (mx k q p))
    have n' := hW_mn h (upR f a (mx k q p))
    unfold MOo at o'
    unfold MN at n'
    have i1 : nI 24 * nI a + nI k = nI (24 * a + k) := by rw [nI_mul, nI_add]
    have i2 : nI 24 * nI b + nI k = nI (24 * b + k) := by rw [nI_mul, nI_add]
    rw [H20_2]
    simp only [S20, gFs, pFs, okq, bls, bo_true, eUp_at, eUp_eUp, eKls, cl_some, Option.toList_some, Option.toList_none, List.cons_append, List.nil_append, o', n', i1, i2]
    rw [if_neg (nI_ge (by omega) (by decide)), aL_nI (by omega) (by decide), upR_ne rg hab k (by omega), wL_nI (by omega) (by decide), upR_mx f a k q p (by omega), hW_up, nI_1]
    exact ih (k + 1) (by omega)
theorem d20 {q : Nat → Int} (o : MOo h jt mb hi wi rk co) (ha : a < 412) (hb : b < 412) (hab : b ≠ a) (rg : RG f b q) : den 20 [.ref 239, .int (nI a), .int (nI b)] (hW h f) = some (none, hW h (upR f a q)) := by
  have l := d20_loop (p := fun k => (f (24 * a + k)).toInt) o ha hb hab rg 24 0 (by decide)
  rw [mx_0, upR_id (upR_raw f a)] at l
  rw [E20 239 _ _ (hW_mo o f), ← l]
  simp only [S20, gFs, pFs, okq, bls, bo_true, eUp_at, eUp_eUp, eKls, cl_some, Option.toList_some, Option.toList_none, List.cons_append, List.nil_append]
theorem d15_loop {x y : Nat → Int} {t : Int} (o : MOo h jt mb hi wi rk co) (ha : a < 412) (hb : b < 412) (hab : b ≠ a) (rg : RG f b y) : ∀ r k, k + r = 24 → ru 15 3 [some (.ref 239), some (.int (nI a)), some (.int (nI b)), some (.long (lI t)), none, some (.int (nI k))] [] (hW h (upR f a (mx k (fun j => x j + y j * t) x))) = ru 15 45 [some (.ref 239), some (.int (nI a)), some (.int (nI b)), some (.long (lI t)), none, some (.int (nI 24))] [] (hW h (upR f a (fun j => x j + y j * t))) := by
  intro r
  induction r with
  | zero =>
    intro k hk
    have : k = 24 := by omega
    subst this
    rw [H15_3]
    simp only [S15, gFs, pFs, okq, bls, bo_true, eUp_at, eUp_eUp, eKls, cl_some, Option.toList_some, Option.toList_none, List.cons_append, List.nil_append]
    rw [if_pos (by decide), upR_mx24]
  | succ r ih =>
    intro k hk
    have o' := hW_mo o (upR f a (mx k (fun j => x j + y j * t) x))
    have n' := hW_mn h (upR f a (mx k (fun j => x j + y j * t) x))
    unfold MOo at o'
    unfold MN at n'
    have i1 : nI 24 * nI a + nI k = nI (24 * a + k) := by rw [nI_mul, nI_add]
    have i2 : nI 24 * nI b + nI k = nI (24 * b + k) := by rw [nI_mul, nI_add]
    rw [H15_3]
    simp only [S15, gFs, pFs, okq, bls, bo_true, eUp_at, eUp_eUp, eKls, cl_some, Option.toList_some, Option.toList_none, List.cons_append, List.nil_append, o', n', i1, i2]
    rw [if_neg (nI_ge (by omega) (by decide)), aL_nI (by omega) (by decide), aL_nI (by omega) (by decide), upR_ne rg hab k (by omega), upR_get f a k _ (by omega), mx_at, lI_mul, lI_add, wL_nI (by omega) (by decide), upR_mx f a k (fun j => x j + y j * t) x (by omega), hW_up, nI_1]
    exact ih (k + 1) (by omega)
theorem d15 {u v t : Int} (o : MOo h jt mb hi wi rk co) (ha : a < 412) (hb : b < 412) (hab : b ≠ a) (ru' : RG f a (fd u)) (rv : RG f b (fd v)) (bu : vB u) (bv : vB v) (bt : -1000 ≤ t ∧ t ≤ 1000) : den 15 [.ref 239, .int (nI a), .int (nI b), .long (lI t)] (hW h f) = some (none, hW h (upR f a (fd (u + v * t)))) := by
  have l := d15_loop (x := fd u) (y := fd v) (t := t) o ha hb hab rv 24 0 (by decide)
  rw [mx_0, upR_id ru'] at l
  have bd : ∀ j, j < 24 → -1000000000000000 ≤ fd u j + fd v j * t ∧ fd u j + fd v j * t ≤ 1000000000000000 := fun j hj => by
    have h1 := fd_bd bu hj
    have h2 := fd_bd bv hj
    have h3 : (fd v j * t).natAbs ≤ 1000000000 * 1000 := by
      rw [Int.natAbs_mul]
      exact Nat.mul_le_mul (by omega) (by omega)
    omega
  have c := d11w (f := upR f a (fun j => fd u j + fd v j * t)) o (upR_rg _ _ _) ha bd
  rw [hor_lin, hor_fd0, hor_fd0, upR_upR] at c
  rw [E15 239 _ _ _ (hW_mo o f)]
  simp only [S15, gFs, pFs, okq, bls, bo_true, eUp_at, eUp_eUp, eKls, cl_some, Option.toList_some, Option.toList_none, List.cons_append, List.nil_append]
  rw [l, H15_45]
  simp only [S15, gFs, pFs, okq, bls, bo_true, eUp_at, eUp_eUp, eKls, cl_some, Option.toList_some, Option.toList_none, List.cons_append, List.nil_append, c]
theorem d18_loop {x : Nat → Int} (o : MOo h jt mb hi wi rk co) (ha : a < 412) : ∀ r k, k + r = 24 → ru 18 2 [some (.ref 239), some (.int (nI a)), some (.int (nI k))] [] (hW h (upR f a (mx k (fun j => - x j) x))) = ru 18 37 [some (.ref 239), some (.int (nI a)), some (.int (nI 24))] [] (hW h (upR f a (fun j => - x j))) := by
  intro r
  induction r with
  | zero =>
    intro k hk
    have : k = 24 := by omega
    subst this
    rw [H18_2]
    simp only [S18, gFs, pFs, okq, bls, bo_true, eUp_at, eUp_eUp, eKls, cl_some, Option.toList_some, Option.toList_none, List.cons_append, List.nil_append]
    rw [if_pos (by decide), upR_mx24]
  | succ r ih =>
    intro k hk
    have o' := hW_mo o (upR f a (mx k (fun j => - x j) x))
    have n' := hW_mn h (upR f a (mx k (fun j => - x j) x))
    unfold MOo at o'
    unfold MN at n'
    have i1 : nI 24 * nI a + nI k = nI (24 * a + k) := by rw [nI_mul, nI_add]
    rw [H18_2]
    simp only [S18, gFs, pFs, okq, bls, bo_true, eUp_at, eUp_eUp, eKls, cl_some, Option.toList_some, Option.toList_none, List.cons_append, List.nil_append, o', n', i1]
    rw [if_neg (nI_ge (by omega) (by decide)), aL_nI (by omega) (by decide), upR_get f a k _ (by omega), mx_at, lI_neg, wL_nI (by omega) (by decide), upR_mx f a k (fun j => - x j) x (by omega), hW_up, nI_1]
    exact ih (k + 1) (by omega)
theorem d18 {u : Int} (o : MOo h jt mb hi wi rk co) (ha : a < 412) (ru' : RG f a (fd u)) (bu : vB u) : den 18 [.ref 239, .int (nI a)] (hW h f) = some (none, hW h (upR f a (fd (-u)))) := by
  have l := d18_loop (f := f) (x := fd u) o ha 24 0 (by decide)
  rw [mx_0, upR_id ru'] at l
  have c := d11w (f := upR f a (fun j => - fd u j)) o (upR_rg _ _ _) ha (fun j hj => by have h1 := fd_bd bu hj; omega)
  rw [hor_neg, hor_fd0, upR_upR] at c
  rw [E18 239 _ (hW_mo o f)]
  simp only [S18, gFs, pFs, okq, bls, bo_true, eUp_at, eUp_eUp, eKls, cl_some, Option.toList_some, Option.toList_none, List.cons_append, List.nil_append]
  rw [l, H18_37]
  simp only [S18, gFs, pFs, okq, bls, bo_true, eUp_at, eUp_eUp, eKls, cl_some, Option.toList_some, Option.toList_none, List.cons_append, List.nil_append, c]
theorem d17 {u : Int} (o : MOo h jt mb hi wi rk co) (ha : a < 412) (ru' : RG f a (fd u)) (bu : vB u) : den 17 [.ref 239, .int (nI a)] (hW h f) = some (some (.int (ldI (decide (u < 0)))), hW h f) := by
  have o' := hW_mo o f
  have n' := hW_mn h f
  unfold MOo at o'
  unfold MN at n'
  have i1 : nI 24 * nI a + nI 24 - nI 1 = nI (24 * a + 23) := by rw [nI_mul, nI_add, nI_sub (by omega)]; rfl
  have ft := fd_top bu
  rw [E17 239 _ o']
  simp only [S17, gFs, pFs, okq, bls, bo_true, eUp_at, eUp_eUp, eKls, cl_some, Option.toList_some, Option.toList_none, List.cons_append, List.nil_append, o', n', i1]
  rw [aL_nI (by omega) (by decide), ru' 23 (by decide)]
  have c1 : 0 ≤ lg_cmp (lI (fd u 23)) (lN 0) ↔ ¬ u < 0 := by
    rw [lg_ge0, lN_I, lI_le (by unfold lok; omega) (by unfold lok; omega), ← ft.2.2]
    omega
  by_cases q : u < 0
  · rw [if_neg (fun e => (c1.mp e) q), decide_eq_true q]
    rfl
  · rw [if_pos (c1.mpr q), decide_eq_false q]
    rfl
theorem d25_loop {u : Int} (o : MOo h jt mb hi wi rk co) (ha : a < 412) (ru' : RG f a (fd u)) (bu : vB u) : ∀ r k, k + r = 24 → (∀ j, j < k → fd u j = 0) → ru 25 2 [some (.ref 239), some (.int (nI a)), some (.int (nI k))] [] (hW h f) = some (some (.int (ldI (decide (u = 0)))), hW h f) := by
  have o' := hW_mo o f
  have n' := hW_mn h f
  unfold MOo at o'
  unfold MN at n'
  intro r
  induction r with
  | zero =>
    intro k hk hz
    have : k = 24 := by omega
    subst this
    have u0 : u = 0 := by
      rw [← hor_fd0 u, hor_congr (e := fun _ => 0) (fun j _ j2 => hz j (by omega)), hor_0]
    rw [H25_2]
    simp only [S25, gFs, pFs, okq, bls, bo_true, eUp_at, eUp_eUp, eKls, cl_some, Option.toList_some, Option.toList_none, List.cons_append, List.nil_append]
    rw [if_pos (by decide), H25_32, decide_eq_true u0]
    simp only [S25, gFs, pFs, okq, bls, bo_true, eUp_at, eUp_eUp, eKls, cl_some, Option.toList_some, Option.toList_none, List.cons_append, List.nil_append]
    rfl
  | succ r ih =>
    intro k hk hz
    have i1 : nI 24 * nI a + nI k = nI (24 * a + k) := by rw [nI_mul, nI_add]
    have bk := fd_bd bu (show k < 24 by omega)
    rw [H25_2]
    simp only [S25, gFs, pFs, okq, bls, bo_true, eUp_at, eUp_eUp, eKls, cl_some, Option.toList_some, Option.toList_none, List.cons_append, List.nil_append, o', n', i1]
    rw [if_neg (nI_ge (by omega) (by decide)), aL_nI (by omega) (by decide), ru' k (by omega)]
    have c1 : lg_cmp (lI (fd u k)) (lN 0) = 0 ↔ fd u k = 0 := by
      rw [lg_eq0, lN_I, lI_eq (by unfold lok; omega) (by unfold lok; omega)]
      rfl
    by_cases q : fd u k = 0
    · rw [if_pos (c1.mpr q), nI_1]
      exact ih (k + 1) (by omega) (fun j hj => by
        by_cases qj : j = k
        · rw [qj]; exact q
        · exact hz j (by omega))
    · have u0 : ¬ u = 0 := fun e => by
        subst e
        refine q ?_
        unfold fd
        split
        · rw [Int.zero_ediv, Int.zero_emod]
        · rw [Int.zero_ediv]
      rw [if_neg (fun e => q (c1.mp e)), decide_eq_false u0]
      rfl
theorem d25 {u : Int} (o : MOo h jt mb hi wi rk co) (ha : a < 412) (ru' : RG f a (fd u)) (bu : vB u) : den 25 [.ref 239, .int (nI a)] (hW h f) = some (some (.int (ldI (decide (u = 0)))), hW h f) := by
  rw [E25 239 _ (hW_mo o f)]
  simp only [S25, gFs, pFs, okq, bls, bo_true, eUp_at, eUp_eUp, eKls, cl_some, Option.toList_some, Option.toList_none, List.cons_append, List.nil_append]
  exact d25_loop o ha ru' bu 24 0 (by decide) (fun j hj => absurd hj (Nat.not_lt_zero _))
theorem d42 {u : Int} (o : MOo h jt mb hi wi rk co) (ha : a < 412) (ru' : RG f a (fd u)) (bu : vB u) : den 42 [.ref 239, .int (nI a)] (hW h f) = some (some (.int (iI u.sign)), hW h f) := by
  rw [E42 239 _ (hW_mo o f)]
  simp only [S42, gFs, pFs, okq, bls, bo_true, eUp_at, eUp_eUp, eKls, cl_some, Option.toList_some, Option.toList_none, List.cons_append, List.nil_append, d25 o ha ru' bu, d17 o ha ru' bu]
  rcases sgn_cases u with ⟨z0, z1⟩ | ⟨z0, z1⟩ | ⟨z0, z1⟩
  · rw [decide_eq_true z0, if_neg (show ¬ ldI true = 0 by decide), z1]
    rfl
  · rw [decide_eq_false (show ¬ u = 0 by omega), if_pos (show ldI false = 0 by decide), decide_eq_false (show ¬ u < 0 by omega), if_pos (show ldI false = 0 by decide), z1]
    rfl
  · rw [decide_eq_false (show ¬ u = 0 by omega), if_pos (show ldI false = 0 by decide), decide_eq_true z0, if_neg (show ¬ ldI true = 0 by decide), z1]
    rfl
end RO2
