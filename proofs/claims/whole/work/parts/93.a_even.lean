/-! THE REFERENCE: isEven, half, isLess -/
def Kx (P : Nat → Prop) (f f' : Nat → Int64) : Prop := ∀ c, ¬ P c → ∀ k, k < 24 → f' (24 * c + k) = f (24 * c + k)
theorem Kx.refl (P : Nat → Prop) (f : Nat → Int64) : Kx P f f := fun _ _ _ _ => rfl
theorem Kx.trans {P : Nat → Prop} {f g e : Nat → Int64} (x : Kx P f g) (y : Kx P g e) : Kx P f e := fun c hc k hk => (y c hc k hk).trans (x c hc k hk)
theorem Kx.mono {P Q : Nat → Prop} {f g : Nat → Int64} (x : Kx P f g) (h : ∀ c, P c → Q c) : Kx Q f g := fun c hc k hk => x c (fun e => hc (h c e)) k hk
theorem Kx.up {P : Nat → Prop} (f : Nat → Int64) {a : Nat} (p : Nat → Int) (h : P a) : Kx P f (upR f a p) := fun c hc k hk => by
  unfold upR
  rw [if_neg]
  intro e
  have : c = a := by omega
  exact hc (this ▸ h)
theorem Kx.rg {P : Nat → Prop} {f g : Nat → Int64} (x : Kx P f g) {c : Nat} {p : Nat → Int} (hc : ¬ P c) (r : RG f c p) : RG g c p := fun k hk => (x c hc k hk).trans (r k hk)
theorem RG.cg {f : Nat → Int64} {a : Nat} {p q : Nat → Int} (r : RG f a p) (h : ∀ k, k < 24 → p k = q k) : RG f a q := fun k hk => (r k hk).trans (by rw [h k hk])
section RE1
variable {h : eH} {jt mb hi wi rk co : Int32} {f : Nat → Int64} {a b m m' : Nat}
theorem d35 (o : MOo h jt mb hi wi rk co) (ha : a < 412) (hm : m < BB ^ 23) (r : RG f a (fd m)) : den 35 [.ref 239, .int (nI a)] (hW h f) = some (some (.int (ldI (decide (m % 2 = 0)))), hW h f) := by
  have o' := hW_mo o f
  have n' := hW_mn h f
  unfold MOo at o'
  unfold MN at n'
  have i1 : nI 24 * nI a = nI (24 * a) := by rw [nI_mul]
  have dl := dgt_lt m 0
  have hB : BB = 1000000000 := rfl
  have d2 : dgt m 0 % 2 = m % 2 := by
    unfold dgt
    rw [Nat.pow_zero, Nat.div_one, hB]
    omega
  rw [E35 239 _ o']
  simp only [S35, gFs, pFs, okq, bls, bo_true, eUp_at, eUp_eUp, eKls, cl_some, Option.toList_some, Option.toList_none, List.cons_append, List.nil_append, o', n', i1]
  rw [aL_nI (by omega) (by decide), show f (24 * a) = lN (dgt m 0) from (r 0 (by decide)).trans (by rw [fd_nat hm (by decide)]; rfl), if_neg (show ¬ lN 2 = 0 by decide), pk_lRem (by omega) (by decide) (by decide), d2]
  have c1 : lg_cmp (lN (m % 2)) (lN 0) = 0 ↔ m % 2 = 0 := by
    rw [lg_eq0, lN_eq (by omega) (by decide)]
  by_cases q : m % 2 = 0
  · rw [if_pos (c1.mpr q), decide_eq_true q]
    rfl
  · rw [if_neg (fun e => q (c1.mp e)), decide_eq_false q]
    rfl
theorem d36_loop (o : MOo h jt mb hi wi rk co) (ha : a < 412) : ∀ n e4 x5, (n = 0 ∧ e4 < 0 ∨ ∃ k, n = k + 1 ∧ e4 = nI k) → n ≤ 24 → ru 36 6 [some (.ref 239), some (.int (nI a)), some (.long (lN (m / BB ^ n % 2))), none, some (.int e4), x5, none] [] (hW h (upR f a (mx n (fun j => (dgt m j : Int)) (fun j => (dgt (m / 2) j : Int))))) = some (none, hW h (upR f a (fun j => (dgt (m / 2) j : Int)))) := by
  intro n
  have hB : BB = 1000000000 := rfl
  induction n with
  | zero =>
    intro e4 x5 he _
    rcases he with ⟨_, h1⟩ | ⟨k, h1, _⟩
    · rw [H36_6]
      simp only [S36, gFs, pFs, okq, bls, bo_true, eUp_at, eUp_eUp, eKls, cl_some, Option.toList_some, Option.toList_none, List.cons_append, List.nil_append]
      rw [if_pos h1, mx_0]
    · omega
  | succ k ih =>
    intro e4 x5 he hn
    have e4k : e4 = nI k := by
      rcases he with ⟨h1, _⟩ | ⟨k', h1, h2⟩
      · omega
      · rw [h2, show k' = k by omega]
    subst e4k
    obtain ⟨s, hs⟩ : ∃ s : Nat → Int, s = mx (k + 1) (fun j => (dgt m j : Int)) (fun j => (dgt (m / 2) j : Int)) := ⟨_, rfl⟩
    rw [← hs]
    have o' := hW_mo o (upR f a s)
    have n' := hW_mn h (upR f a s)
    unfold MOo at o'
    unfold MN at n'
    have i1 : nI 24 * nI a + nI k = nI (24 * a + k) := by rw [nI_mul, nI_add]
    have sk : s k = (dgt m k : Int) := by rw [hs]; unfold mx; rw [if_pos (by omega)]
    have e1 : m / BB ^ (k + 1) % 2 * BB + dgt m k = m / BB ^ k % (2 * BB) := by
      unfold dgt
      rw [Nat.pow_succ, ← Nat.div_div_eq_div_mul]
      generalize m / BB ^ k = M
      rw [hB]
      omega
    have e2 : m / BB ^ k % (2 * BB) / 2 = dgt (m / 2) k := by
      unfold dgt
      rw [Nat.div_div_eq_div_mul, Nat.mul_comm 2 (BB ^ k), ← Nat.div_div_eq_div_mul]
      generalize m / BB ^ k = M
      rw [hB]
      omega
    have e3 : m / BB ^ k % (2 * BB) % 2 = m / BB ^ k % 2 := by
      generalize m / BB ^ k = M
      rw [hB]
      omega
    have lt1 : m / BB ^ k % (2 * BB) < 2 * BB := Nat.mod_lt _ (by decide)
    have he2 : (k = 0 ∧ nI k + (-1) < 0 ∨ ∃ k', k = k' + 1 ∧ nI k + (-1) = nI k') := by
      cases k with
      | zero => exact Or.inl ⟨rfl, by decide⟩
      | succ k' => exact Or.inr ⟨k', rfl, nI_dec k'⟩
    have st := ih (nI k + (-1)) (some (.long (lN (m / BB ^ k % (2 * BB))))) he2 (by omega)
    rw [← st, H36_6]
    simp only [S36, gFs, pFs, okq, bls, bo_true, eUp_at, eUp_eUp, eKls, cl_some, Option.toList_some, Option.toList_none, List.cons_append, List.nil_append, o', n', i1]
    rw [if_neg (nI_nneg (by omega)), aL_nI (by omega) (by decide), upR_get f a k s (by omega), sk, ← lN_I, show lN 1000000000 = lN BB from rfl, lN_mul, lN_add, e1]
    rw [if_neg (show ¬ lN 2 = 0 by decide), pk_lRem (by omega) (by decide) (by decide), e3, pk_lDiv (by omega) (by decide) (by decide), e2, wL_nI (by omega) (by decide), lN_I (dgt (m / 2) k), upR_set f a k _ _ (by omega), hW_up, if_neg (show ¬ lN 2 = 0 by decide)]
    rw [upR_congr (q := mx k (fun j => (dgt m j : Int)) (fun j => (dgt (m / 2) j : Int))) (fun j hj => by
      by_cases q : j = k
      · rw [if_pos q]
        unfold mx
        rw [if_neg (by omega), q]
      · rw [if_neg q, hs]
        unfold mx
        by_cases q2 : j < k
        · rw [if_pos q2, if_pos (by omega)]
        · rw [if_neg q2, if_neg (by omega)])]
theorem d36 (o : MOo h jt mb hi wi rk co) (ha : a < 412) (hm : m < BB ^ 23) (r : RG f a (fd m)) : den 36 [.ref 239, .int (nI a)] (hW h f) = some (none, hW h (upR f a (fd ((m / 2 : Nat) : Int)))) := by
  have l := d36_loop (h := h) (f := f) (m := m) (a := a) o ha 24 (nI 23) none (Or.inr ⟨23, rfl, rfl⟩) (by decide)
  have hm2 : m / 2 < BB ^ 23 := Nat.lt_of_le_of_lt (Nat.div_le_self _ _) hm
  rw [upR_mx24, upR_id (r.cg (fun k hk => fd_nat hm hk)), Nat.div_eq_of_lt (Nat.lt_trans hm (by decide : BB ^ 23 < BB ^ 24)), upR_congr (q := fd ((m / 2 : Nat) : Int)) (fun k hk => (fd_nat hm2 hk).symm)] at l
  rw [E36 239 _ (hW_mo o f)]
  simp only [S36, gFs, pFs, okq, bls, bo_true, eUp_at, eUp_eUp, eKls, cl_some, Option.toList_some, Option.toList_none, List.cons_append, List.nil_append]
  exact l
theorem d37_loop (o : MOo h jt mb hi wi rk co) (ha : a < 412) (hb : b < 412) (hm : m < BB ^ 23) (hm' : m' < BB ^ 23) (r : RG f a (fd m)) (r' : RG f b (fd m')) : ∀ n e3 x4 x6, (n = 0 ∧ e3 < 0 ∨ ∃ k, n = k + 1 ∧ e3 = nI k) → n ≤ 24 → m / BB ^ n = m' / BB ^ n → ru 37 3 [some (.ref 239), some (.int (nI a)), some (.int (nI b)), some (.int e3), x4, none, x6, none] [] (hW h f) = some (some (.int (ldI (decide (m < m')))), hW h f) := by
  have o' := hW_mo o f
  have n' := hW_mn h f
  unfold MOo at o'
  unfold MN at n'
  intro n
  have hB : BB = 1000000000 := rfl
  induction n with
  | zero =>
    intro e3 x4 x6 he _ hq
    rw [Nat.pow_zero, Nat.div_one, Nat.div_one] at hq
    rcases he with ⟨_, h1⟩ | ⟨k, h1, _⟩
    · rw [H37_3]
      simp only [S37, gFs, pFs, okq, bls, bo_true, eUp_at, eUp_eUp, eKls, cl_some, Option.toList_some, Option.toList_none, List.cons_append, List.nil_append]
      rw [if_pos h1, H37_61, decide_eq_false (by omega)]
      simp only [S37, gFs, pFs, okq, bls, bo_true, eUp_at, eUp_eUp, eKls, cl_some, Option.toList_some, Option.toList_none, List.cons_append, List.nil_append]
      rfl
    · omega
  | succ k ih =>
    intro e3 x4 x6 he hn hq
    have e3k : e3 = nI k := by
      rcases he with ⟨h1, _⟩ | ⟨k', h1, h2⟩
      · omega
      · rw [h2, show k' = k by omega]
    subst e3k
    have i1 : nI 24 * nI a + nI k = nI (24 * a + k) := by rw [nI_mul, nI_add]
    have i2 : nI 24 * nI b + nI k = nI (24 * b + k) := by rw [nI_mul, nI_add]
    have dl := dgt_lt m k
    have dl' := dgt_lt m' k
    have v1 : m / BB ^ k = BB * (m / BB ^ (k + 1)) + dgt m k := by
      unfold dgt
      rw [Nat.pow_succ, ← Nat.div_div_eq_div_mul]
      exact (Nat.div_add_mod _ _).symm
    have v2 : m' / BB ^ k = BB * (m' / BB ^ (k + 1)) + dgt m' k := by
      unfold dgt
      rw [Nat.pow_succ, ← Nat.div_div_eq_div_mul]
      exact (Nat.div_add_mod _ _).symm
    rw [← hq] at v2
    have he2 : (k = 0 ∧ nI k + (-1) < 0 ∨ ∃ k', k = k' + 1 ∧ nI k + (-1) = nI k') := by
      cases k with
      | zero => exact Or.inl ⟨rfl, by decide⟩
      | succ k' => exact Or.inr ⟨k', rfl, nI_dec k'⟩
    have c1 : lg_cmp (lN (dgt m k)) (lN (dgt m' k)) = 0 ↔ dgt m k = dgt m' k := by
      rw [lg_eq0, lN_eq (by omega) (by omega)]
    have c2 : 0 ≤ lg_cmp (lN (dgt m k)) (lN (dgt m' k)) ↔ dgt m' k ≤ dgt m k := by
      rw [lg_ge0, lN_le (by omega) (by omega)]
    rw [H37_3]
    simp only [S37, gFs, pFs, okq, bls, bo_true, eUp_at, eUp_eUp, eKls, cl_some, Option.toList_some, Option.toList_none, List.cons_append, List.nil_append, o', n', i1, i2]
    rw [if_neg (nI_nneg (by omega)), aL_nI (by omega) (by decide), aL_nI (by omega) (by decide), r k (by omega), r' k (by omega), fd_nat hm (by omega), fd_nat hm' (by omega), ← lN_I, ← lN_I]
    by_cases q : dgt m k = dgt m' k
    · rw [if_pos (c1.mpr q)]
      exact ih _ _ _ he2 (by omega) (by omega)
    · rw [if_neg (fun e => q (c1.mp e))]
      by_cases q2 : dgt m' k ≤ dgt m k
      · have : m' < m := by
          by_cases c : m' < m
          · exact c
          · have := Nat.div_le_div_right (c := BB ^ k) (Nat.le_of_not_lt c)
            omega
        rw [if_pos (c2.mpr q2), decide_eq_false (by omega)]
        rfl
      · have : m < m' := by
          by_cases c : m < m'
          · exact c
          · have := Nat.div_le_div_right (c := BB ^ k) (Nat.le_of_not_lt c)
            omega
        rw [if_neg (fun e => q2 (c2.mp e)), decide_eq_true this]
        rfl
theorem d37 (o : MOo h jt mb hi wi rk co) (ha : a < 412) (hb : b < 412) (hm : m < BB ^ 23) (hm' : m' < BB ^ 23) (r : RG f a (fd m)) (r' : RG f b (fd m')) : den 37 [.ref 239, .int (nI a), .int (nI b)] (hW h f) = some (some (.int (ldI (decide (m < m')))), hW h f) := by
  rw [E37 239 _ _ (hW_mo o f)]
  simp only [S37, gFs, pFs, okq, bls, bo_true, eUp_at, eUp_eUp, eKls, cl_some, Option.toList_some, Option.toList_none, List.cons_append, List.nil_append]
  refine d37_loop o ha hb hm hm' r r' 24 (nI 23) none none (Or.inr ⟨23, rfl, rfl⟩) (by decide) ?_
  rw [Nat.div_eq_of_lt (Nat.lt_trans hm (by decide : BB ^ 23 < BB ^ 24)), Nat.div_eq_of_lt (Nat.lt_trans hm' (by decide : BB ^ 23 < BB ^ 24))]
end RE1
