/-! DETERMINANTS, by expansion along the last row -/
def su (f : Nat → Int) : Nat → Int
  | 0 => 0
  | n + 1 => su f n + f n
theorem su_congr {f g : Nat → Int} : ∀ {n : Nat}, (∀ i, i < n → f i = g i) → su f n = su g n := by
  intro n
  induction n with
  | zero => intro _; rfl
  | succ n ih =>
    intro h
    show su f n + f n = su g n + g n
    rw [ih (fun i hi => h i (by omega)), h n (by omega)]
theorem su_zero {f : Nat → Int} {n : Nat} (h : ∀ i, i < n → f i = 0) : su f n = 0 := by
  induction n with
  | zero => rfl
  | succ n ih =>
    show su f n + f n = 0
    rw [ih (fun i hi => h i (by omega)), h n (by omega)]
    rfl
theorem su_add (f g : Nat → Int) : ∀ n, su (fun i => f i + g i) n = su f n + su g n := by
  intro n
  induction n with
  | zero => rfl
  | succ n ih =>
    show su (fun i => f i + g i) n + (f n + g n) = (su f n + f n) + (su g n + g n)
    rw [ih]
    omega
theorem su_mul (c : Int) (f : Nat → Int) : ∀ n, su (fun i => c * f i) n = c * su f n := by
  intro n
  induction n with
  | zero => exact (Int.mul_zero c).symm
  | succ n ih =>
    show su (fun i => c * f i) n + c * f n = c * (su f n + f n)
    rw [ih, Int.mul_add]
theorem su_neg (f : Nat → Int) (n : Nat) : su (fun i => - f i) n = - su f n := by
  have := su_mul (-1) f n
  rw [Int.neg_one_mul] at this
  rw [← this]
  exact su_congr (fun i _ => by rw [Int.neg_one_mul])
theorem su_swap (H : Nat → Nat → Int) (m : Nat) : ∀ n, su (fun p => su (fun q => H p q) m) n = su (fun q => su (fun p => H p q) n) m := by
  intro n
  induction n with
  | zero =>
    exact (su_zero (fun i _ => rfl)).symm
  | succ n ih =>
    show su (fun p => su (fun q => H p q) m) n + su (fun q => H n q) m = su (fun q => su (fun p => H p q) n + H n q) m
    rw [ih, su_add]
theorem su_anti {H : Nat → Nat → Int} {n : Nat} (h : ∀ p q, p < n → q < n → H q p = - H p q) : su (fun p => su (fun q => H p q) n) n = 0 := by
  have h1 := su_swap H n n
  have h2 : su (fun q => su (fun p => H p q) n) n = - su (fun p => su (fun q => H p q) n) n := by
    rw [← su_neg]
    refine su_congr fun q hq => ?_
    rw [← su_neg]
    exact su_congr fun p hp => by rw [h q p hq hp]
  omega
theorem su_skip (f : Nat → Int) (t : Nat) : ∀ m, t ≤ m → su (fun q => if q = t then 0 else f (if q < t then q else q - 1)) (m + 1) = su f m := by
  intro m
  induction m with
  | zero =>
    intro h
    have : t = 0 := by omega
    subst this
    rfl
  | succ m ih =>
    intro h
    show su (fun q => if q = t then 0 else f (if q < t then q else q - 1)) (m + 1) + (if m + 1 = t then 0 else f (if m + 1 < t then m + 1 else m + 1 - 1)) = su f m + f m
    by_cases ht : t = m + 1
    · subst ht
      rw [if_pos rfl, Int.add_zero]
      have e : su f (m + 1) = su f m + f m := rfl
      rw [← e]
      refine su_congr fun i hi => ?_
      rw [if_neg (by omega), if_pos hi]
    · rw [ih (by omega), if_neg (by omega), if_neg (by omega), Nat.add_sub_cancel]
def sg (n : Nat) : Int := if n % 2 = 0 then 1 else -1
theorem sg_add2 (n : Nat) : sg (n + 1) = - sg n := by
  unfold sg
  by_cases h : n % 2 = 0
  · rw [if_pos h, if_neg (by omega)]
  · rw [if_neg h, if_pos (by omega)]; rfl
theorem sg_even {n m : Nat} (h : n % 2 = m % 2) : sg n = sg m := by
  unfold sg
  rw [h]
theorem sg_mul (n m : Nat) : sg n * sg m = sg (n + m) := by
  unfold sg
  by_cases h1 : n % 2 = 0 <;> by_cases h2 : m % 2 = 0
  · rw [if_pos h1, if_pos h2, if_pos (by omega)]; rfl
  · rw [if_pos h1, if_neg h2, if_neg (by omega)]; rfl
  · rw [if_neg h1, if_pos h2, if_neg (by omega)]; rfl
  · rw [if_neg h1, if_neg h2, if_pos (by omega)]; rfl
def skp (t u : Nat) : Nat := if u < t then u else u + 1
def Dt : Nat → (Nat → Nat → Int) → Int
  | 0, _ => 1
  | k + 1, R => su (fun t => sg (k + t) * Dt k (fun s u => R s (skp t u)) * R k t) (k + 1)
theorem Dt_congr : ∀ {k : Nat} {R R' : Nat → Nat → Int}, (∀ s t, s < k → t < k → R s t = R' s t) → Dt k R = Dt k R' := by
  intro k
  induction k with
  | zero => intro R R' _; rfl
  | succ k ih =>
    intro R R' h
    refine su_congr fun t ht => ?_
    rw [ih (R := fun s u => R s (skp t u)) (R' := fun s u => R' s (skp t u)) (fun s u hs hu => h s _ (by omega) (by unfold skp; split <;> omega)), h k t (by omega) ht]
/-- a row put at place k -/
def rp (R : Nat → Nat → Int) (k : Nat) (v : Nat → Int) : Nat → Nat → Int := fun s t => if s = k then v t else R s t
def cof (R : Nat → Nat → Int) (k t : Nat) : Int := sg (k + t) * Dt k (fun s u => R s (skp t u))
theorem Dt_rp (R : Nat → Nat → Int) (k : Nat) (v : Nat → Int) : Dt (k + 1) (rp R k v) = su (fun t => cof R k t * v t) (k + 1) := by
  refine su_congr fun t ht => ?_
  unfold cof
  rw [Dt_congr (R := fun s u => rp R k v s (skp t u)) (R' := fun s u => R s (skp t u)) (fun s u hs _ => if_neg (by omega))]
  rw [show rp R k v k t = v t from if_pos rfl]
theorem Dt_add (R : Nat → Nat → Int) (k : Nat) (v w : Nat → Int) : Dt (k + 1) (rp R k (fun t => v t + w t)) = Dt (k + 1) (rp R k v) + Dt (k + 1) (rp R k w) := by
  rw [Dt_rp, Dt_rp, Dt_rp, ← su_add]
  exact su_congr fun t _ => Int.mul_add _ _ _
theorem Dt_smul (R : Nat → Nat → Int) (k : Nat) (c : Int) (v : Nat → Int) : Dt (k + 1) (rp R k (fun t => c * v t)) = c * Dt (k + 1) (rp R k v) := by
  rw [Dt_rp, Dt_rp, ← su_mul]
  exact su_congr fun t _ => Int.mul_left_comm _ _ _
theorem Dt_last {R : Nat → Nat → Int} {k : Nat} {v : Nat → Int} (h : ∀ t, t < k → v t = 0) : Dt (k + 1) (rp R k v) = v k * Dt k R := by
  rw [Dt_rp]
  show su _ k + cof R k k * v k = _
  rw [su_zero (fun i hi => by rw [h i hi, Int.mul_zero]), Int.zero_add]
  unfold cof
  rw [show sg (k + k) = 1 by unfold sg; rw [if_pos (by omega)], Int.one_mul, Int.mul_comm, Dt_congr (R' := R)]
  intro s t _ ht
  show R s (skp k t) = R s t
  unfold skp
  rw [if_pos ht]
/-- two rows alike at the end -/
theorem Dt_two (R : Nat → Nat → Int) (k : Nat) (v : Nat → Int) : Dt (k + 2) (rp (rp R k v) (k + 1) v) = 0 := by
  rw [Dt_rp]
  -- the sum over pairs of places
  have hE : ∀ t, t < k + 2 → cof (rp R k v) (k + 1) t * v t = su (fun q => if q = t then 0 else (sg (k + 1 + t) * sg (k + (if q < t then q else q - 1)) * Dt k (fun s x => R s (skp t (skp (if q < t then q else q - 1) x)))) * (v q * v t)) (k + 2) := by
    intro t ht
    unfold cof
    have hin : Dt (k + 1) (fun s u => rp R k v s (skp t u)) = su (fun u => sg (k + u) * Dt k (fun s x => R s (skp t (skp u x))) * v (skp t u)) (k + 1) := by
      refine su_congr fun u hu => ?_
      rw [Dt_congr (R := fun s x => rp R k v s (skp t (skp u x))) (R' := fun s x => R s (skp t (skp u x))) (fun s x hs _ => if_neg (by omega))]
      show _ * rp R k v k (skp t u) = _
      rw [show rp R k v k (skp t u) = v (skp t u) from if_pos rfl]
    rw [hin, ← su_skip _ t (k + 1) (by omega)]
    rw [Int.mul_assoc, Int.mul_comm _ (v t), ← Int.mul_assoc, ← su_mul]
    refine su_congr fun q hq => ?_
    by_cases hqt : q = t
    · rw [if_pos hqt, if_pos hqt, Int.mul_zero]
    · rw [if_neg hqt, if_neg hqt]
      have : skp t (if q < t then q else q - 1) = q := by
        unfold skp
        by_cases h1 : q < t
        · rw [if_pos h1, if_pos h1]
        · rw [if_neg h1, if_neg (by omega)]; omega
      rw [this]
      generalize sg (k + 1 + t) = A
      generalize sg (k + (if q < t then q else q - 1)) = B
      generalize Dt k (fun s x => R s (skp t (skp (if q < t then q else q - 1) x))) = E
      grind
  rw [su_congr hE]
  refine su_anti fun p q hp hq => ?_
  by_cases hpq : p = q
  · rw [if_pos hpq, if_pos hpq.symm]; rfl
  · rw [if_neg hpq, if_neg (Ne.symm hpq)]
    have key : ∀ a b, a < b → b < k + 2 → (sg (k + 1 + a) * sg (k + (if b < a then b else b - 1)) * Dt k (fun s x => R s (skp a (skp (if b < a then b else b - 1) x)))) = - (sg (k + 1 + b) * sg (k + (if a < b then a else a - 1)) * Dt k (fun s x => R s (skp b (skp (if a < b then a else a - 1) x)))) := by
      intro a b hab hb
      rw [if_neg (by omega), if_pos hab, sg_mul, sg_mul]
      have e1 : sg (k + 1 + a + (k + (b - 1))) = - sg (k + 1 + b + (k + a)) := by
        rw [← sg_add2]
        exact sg_even (by omega)
      have e2 : Dt k (fun s x => R s (skp a (skp (b - 1) x))) = Dt k (fun s x => R s (skp b (skp a x))) := by
        refine Dt_congr fun s x _ _ => ?_
        congr 1
        unfold skp
        by_cases h1 : x < a
        · rw [if_pos (show x < b - 1 by omega), if_pos h1, if_pos (show x < b by omega)]
        · rw [if_neg h1]
          by_cases h2 : x < b - 1
          · rw [if_pos h2, if_neg h1, if_pos (show x + 1 < b by omega)]
          · rw [if_neg h2, if_neg (show ¬ x + 1 < a by omega), if_neg (show ¬ x + 1 < b by omega)]
      rw [e1, e2, Int.neg_mul]
    rcases Nat.lt_or_gt_of_ne hpq with h | h
    · rw [key p q h hq, Int.neg_mul, Int.neg_neg, Int.mul_comm (v p)]
    · rw [key q p h hp, Int.neg_mul, Int.mul_comm (v p)]
theorem Dt_ext {k : Nat} {R R' : Nat → Nat → Int} (h : R = R') : Dt k R = Dt k R' := by rw [h]
theorem rp_self (R : Nat → Nat → Int) (k : Nat) : rp R k (R k) = R := by
  funext s t
  unfold rp
  by_cases h : s = k
  · rw [if_pos h, h]
  · rw [if_neg h]
theorem Dt_add2 (R : Nat → Nat → Int) (k : Nat) (v w u : Nat → Int) : Dt (k + 2) (rp (rp R k (fun t => v t + w t)) (k + 1) u) = Dt (k + 2) (rp (rp R k v) (k + 1) u) + Dt (k + 2) (rp (rp R k w) (k + 1) u) := by
  rw [Dt_rp, Dt_rp, Dt_rp, ← su_add]
  refine su_congr fun t _ => ?_
  unfold cof
  have := Dt_add (fun s x => R s (skp t x)) k (fun x => v (skp t x)) (fun x => w (skp t x))
  have e : ∀ z : Nat → Int, (fun s x => rp R k z s (skp t x)) = rp (fun s x => R s (skp t x)) k (fun x => z (skp t x)) := fun z => rfl
  rw [e, e, e, this]
  grind
theorem Dt_swap (R : Nat → Nat → Int) (k : Nat) (v w : Nat → Int) : Dt (k + 2) (rp (rp R k v) (k + 1) w) = - Dt (k + 2) (rp (rp R k w) (k + 1) v) := by
  have h := Dt_two R k (fun t => v t + w t)
  have h1 := Dt_add2 R k v w (fun t => v t + w t)
  have h2 := Dt_add (rp R k v) (k + 1) v w
  have h3 := Dt_add (rp R k w) (k + 1) v w
  have h4 := Dt_two R k v
  have h5 := Dt_two R k w
  rw [h1] at h
  rw [show Dt (k + 2) (rp (rp R k v) (k + 1) fun t => v t + w t) = _ from h2, show Dt (k + 2) (rp (rp R k w) (k + 1) fun t => v t + w t) = _ from h3] at h
  rw [show Dt (k + 1 + 1) (rp (rp R k v) (k + 1) v) = 0 from h4, show Dt (k + 1 + 1) (rp (rp R k w) (k + 1) w) = 0 from h5] at h
  have h : 0 + Dt (k + 2) (rp (rp R k v) (k + 1) w) + (Dt (k + 2) (rp (rp R k w) (k + 1) v) + 0) = 0 := h
  omega
theorem Dt_eqrow : ∀ {k s : Nat} (R : Nat → Nat → Int), s < k → Dt (k + 1) (rp R k (R s)) = 0 := by
  intro k
  induction k with
  | zero => intro s R h; omega
  | succ k ih =>
    intro s R h
    by_cases hs : s = k
    · subst hs
      have := Dt_two R s (R s)
      rw [rp_self] at this
      exact this
    · have e : rp R (k + 1) (R s) = rp (rp R k (R k)) (k + 1) (R s) := by rw [rp_self]
      rw [e, Dt_swap, Dt_rp, su_zero]
      · rfl
      · intro t _
        unfold cof
        have e2 : (fun s' x => rp R k (R s) s' (skp t x)) = rp (fun s' x => R s' (skp t x)) k ((fun s' x => R s' (skp t x)) s) := rfl
        rw [e2, ih (fun s' x => R s' (skp t x)) (by omega), Int.mul_zero, Int.zero_mul]
theorem Dt_comb0 (R : Nat → Nat → Int) (k : Nat) (μ : Nat → Int) : ∀ n, n ≤ k → Dt (k + 1) (rp R k (fun t => su (fun s => μ s * R s t) n)) = 0 := by
  intro n
  induction n with
  | zero =>
    intro _
    rw [Dt_rp]
    exact su_zero fun t _ => Int.mul_zero _
  | succ n ih =>
    intro h
    have e : (fun t => su (fun s => μ s * R s t) (n + 1)) = (fun t => su (fun s => μ s * R s t) n + μ n * R n t) := rfl
    rw [e, Dt_add, ih (by omega), Dt_smul R k (μ n) (R n), Dt_eqrow R (by omega), Int.mul_zero]
    rfl
theorem Dt_comb (R : Nat → Nat → Int) (k : Nat) (c : Int) (v : Nat → Int) (μ : Nat → Int) (n : Nat) (hn : n ≤ k) : Dt (k + 1) (rp R k (fun t => c * v t + - su (fun s => μ s * R s t) n)) = c * Dt (k + 1) (rp R k v) := by
  rw [Dt_add, Dt_smul]
  have e : (fun t => - su (fun s => μ s * R s t) n) = (fun t => (-1) * su (fun s => μ s * R s t) n) := by
    funext t
    rw [Int.neg_one_mul]
  rw [e, Dt_smul, Dt_comb0 R k μ n hn, Int.mul_zero, Int.add_zero]
/-- where all leading minors are not 0, a row is cleared by those ahead -/
theorem cleared : ∀ (k : Nat) (R : Nat → Nat → Int), (∀ i, i ≤ k → Dt i R ≠ 0) → ∀ v : Nat → Int, ∃ (c : Int) (μ : Nat → Int), c ≠ 0 ∧ ∀ t, t < k → c * v t + - su (fun s => μ s * R s t) k = 0 := by
  intro k
  induction k with
  | zero => intro R _ v; exact ⟨1, fun _ => 0, by decide, fun t h => by omega⟩
  | succ k ih =>
    intro R hR v
    obtain ⟨c, μ, hc, h1⟩ := ih R (fun i hi => hR i (by omega)) v
    obtain ⟨d, ν, hd, h2⟩ := ih R (fun i hi => hR i (by omega)) (R k)
    have hrk : Dt (k + 1) (rp R k (fun t => d * R k t + - su (fun s => ν s * R s t) k)) = d * Dt (k + 1) R := by
      have := Dt_comb R k d (R k) ν k (Nat.le_refl _)
      rw [rp_self] at this
      exact this
    rw [Dt_last h2] at hrk
    have hr : d * R k k + - su (fun s => ν s * R s k) k ≠ 0 := by
      intro h
      rw [h, Int.zero_mul] at hrk
      rcases Int.mul_eq_zero.mp hrk.symm with h3 | h3
      · exact hd h3
      · exact hR (k + 1) (Nat.le_refl _) h3
    generalize hρ : d * R k k + - su (fun s => ν s * R s k) k = ρ at hr
    generalize hω : c * v k + - su (fun s => μ s * R s k) k = ω
    refine ⟨ρ * c, fun s => if s = k then ω * d else ρ * μ s - ω * ν s, fun h => ?_, fun t ht => ?_⟩
    · rcases Int.mul_eq_zero.mp h with h3 | h3
      · exact hr h3
      · exact hc h3
    · have e : su (fun s => (if s = k then ω * d else ρ * μ s - ω * ν s) * R s t) (k + 1) = ρ * su (fun s => μ s * R s t) k - ω * su (fun s => ν s * R s t) k + ω * d * R k t := by
        show su _ k + (if k = k then ω * d else _) * R k t = _
        rw [if_pos rfl]
        congr 1
        rw [Int.sub_eq_add_neg, ← su_mul, ← su_mul, ← su_neg, ← su_add]
        refine su_congr fun s hs => ?_
        rw [if_neg (by omega)]
        grind
      rw [e]
      by_cases htk : t = k
      · subst htk
        generalize su (fun s => μ s * R s t) t = A at *
        generalize su (fun s => ν s * R s t) t = B at *
        subst hρ
        subst hω
        grind
      · have h3 := h1 t (by omega)
        have h4 := h2 t (by omega)
        generalize su (fun s => μ s * R s t) k = A at *
        generalize su (fun s => ν s * R s t) k = B at *
        have hA : A = c * v t := by omega
        have hB : B = d * R k t := by omega
        rw [hA, hB]
        grind
/-- the last place's column in place of the k-th -/
def sj (k u : Nat) : Nat := if u = k then k + 1 else u
def ec (k : Nat) (R : Nat → Nat → Int) (v : Nat → Int) : Int := Dt (k + 1) (rp R k v)
def ej (k : Nat) (R : Nat → Nat → Int) (v : Nat → Int) : Int := Dt (k + 1) (rp (fun s u => R s (sj k u)) k (fun u => v (sj k u)))
theorem Dt_sj (k : Nat) (R : Nat → Nat → Int) : Dt k (fun s u => R s (sj k u)) = Dt k R := Dt_congr fun s t _ ht => by
  unfold sj
  rw [if_neg (by omega)]
theorem X_last {k : Nat} {R : Nat → Nat → Int} {v w : Nat → Int} (hw : ∀ t, t < k → w t = 0) : Dt (k + 2) (rp (rp R k v) (k + 1) w) = w (k + 1) * ec k R v - w k * ej k R v := by
  rw [Dt_rp]
  show (su _ k + cof (rp R k v) (k + 1) k * w k) + cof (rp R k v) (k + 1) (k + 1) * w (k + 1) = _
  rw [su_zero (fun i hi => by rw [hw i hi, Int.mul_zero]), Int.zero_add]
  have e1 : cof (rp R k v) (k + 1) (k + 1) = ec k R v := by
    unfold cof ec
    rw [show sg (k + 1 + (k + 1)) = 1 by unfold sg; rw [if_pos (by omega)], Int.one_mul]
    refine Dt_congr fun s t _ ht => ?_
    show rp R k v s (skp (k + 1) t) = rp R k v s t
    unfold skp
    rw [if_pos ht]
  have e2 : cof (rp R k v) (k + 1) k = - ej k R v := by
    unfold cof ej
    rw [show sg (k + 1 + k) = -1 by unfold sg; rw [if_neg (by omega)], Int.neg_one_mul]
    congr 1
    refine Dt_congr fun s t _ ht => ?_
    show rp R k v s (skp k t) = rp (fun s u => R s (sj k u)) k (fun u => v (sj k u)) s t
    unfold rp skp sj
    dsimp only
    by_cases h1 : t < k
    · rw [if_pos h1, if_neg (show ¬ t = k by omega)]
    · rw [if_neg h1, if_pos (show t = k by omega), show t = k by omega]
  rw [e1, e2]
  grind
theorem ec_comb (k : Nat) (R : Nat → Nat → Int) (c : Int) (v : Nat → Int) (μ : Nat → Int) : ec k R (fun t => c * v t + - su (fun s => μ s * R s t) k) = c * ec k R v := Dt_comb R k c v μ k (Nat.le_refl _)
theorem ej_comb (k : Nat) (R : Nat → Nat → Int) (c : Int) (v : Nat → Int) (μ : Nat → Int) : ej k R (fun t => c * v t + - su (fun s => μ s * R s t) k) = c * ej k R v := Dt_comb (fun s u => R s (sj k u)) k c (fun u => v (sj k u)) μ k (Nat.le_refl _)
theorem X_comb (k : Nat) (R : Nat → Nat → Int) (c : Int) (v w : Nat → Int) (μ : Nat → Int) : Dt (k + 2) (rp (rp R k v) (k + 1) (fun t => c * w t + - su (fun s => μ s * R s t) k)) = c * Dt (k + 2) (rp (rp R k v) (k + 1) w) := by
  have := Dt_comb (rp R k v) (k + 1) c w μ k (by omega)
  have e : (fun t => c * w t + - su (fun s => μ s * rp R k v s t) k) = (fun t => c * w t + - su (fun s => μ s * R s t) k) := by
    funext t
    rw [su_congr (f := fun s => μ s * rp R k v s t) (g := fun s => μ s * R s t) (fun s hs => by rw [show rp R k v s t = R s t from if_neg (by omega)])]
  rw [e] at this
  exact this
/-- Sylvester's identity, as Bareiss's step needs it -/
theorem sylvester {k : Nat} {R : Nat → Nat → Int} (hR : ∀ i, i ≤ k → Dt i R ≠ 0) (v w : Nat → Int) : ec k R v * ej k R w - ec k R w * ej k R v = Dt k R * Dt (k + 2) (rp (rp R k v) (k + 1) w) := by
  obtain ⟨c, μ, hc, h0⟩ := cleared k R hR w
  have hx := X_last (R := R) (v := v) h0
  rw [X_comb] at hx
  have h1 := ec_comb k R c w μ
  have h2 := ej_comb k R c w μ
  have h3 : ec k R (fun t => c * w t + - su (fun s => μ s * R s t) k) = (c * w k + - su (fun s => μ s * R s k) k) * Dt k R := Dt_last h0
  have h4 : ej k R (fun t => c * w t + - su (fun s => μ s * R s t) k) = (c * w (k + 1) + - su (fun s => μ s * R s (k + 1)) k) * Dt k R := by
    unfold ej
    rw [Dt_last (fun t ht => by
      have : sj k t = t := by unfold sj; rw [if_neg (by omega)]
      rw [this]
      exact h0 t ht), Dt_sj]
    have : sj k k = k + 1 := by unfold sj; rw [if_pos rfl]
    rw [this]
  rw [h1] at h3
  rw [h2] at h4
  generalize ec k R v = a at *
  generalize ec k R w = b at *
  generalize ej k R v = p at *
  generalize ej k R w = q at *
  generalize Dt k R = D at *
  generalize Dt (k + 2) (rp (rp R k v) (k + 1) w) = X at *
  generalize c * w k + - su (fun s => μ s * R s k) k = x at *
  generalize c * w (k + 1) + - su (fun s => μ s * R s (k + 1)) k = y at *
  have : c * (a * q - b * p) = c * (D * X) := by
    have e1 : c * (a * q - b * p) = a * (c * q) - (c * b) * p := by grind
    have e2 : c * (D * X) = D * (c * X) := by grind
    rw [e1, e2, h3, h4, hx]
    grind
  exact Int.eq_of_mul_eq_mul_left hc this
/-! bounds -/
def nsu (f : Nat → Nat) : Nat → Nat
  | 0 => 0
  | n + 1 => nsu f n + f n
def npr (f : Nat → Nat) : Nat → Nat
  | 0 => 1
  | n + 1 => npr f n * f n
theorem nsu_le {f g : Nat → Nat} : ∀ {n : Nat}, (∀ i, i < n → f i ≤ g i) → nsu f n ≤ nsu g n := by
  intro n
  induction n with
  | zero => intro _; exact Nat.le_refl _
  | succ n ih =>
    intro h
    exact Nat.add_le_add (ih fun i hi => h i (by omega)) (h n (by omega))
theorem npr_le {f g : Nat → Nat} : ∀ {n : Nat}, (∀ i, i < n → f i ≤ g i) → npr f n ≤ npr g n := by
  intro n
  induction n with
  | zero => intro _; exact Nat.le_refl _
  | succ n ih =>
    intro h
    exact Nat.mul_le_mul (ih fun i hi => h i (by omega)) (h n (by omega))
theorem nsu_mul (c : Nat) (f : Nat → Nat) : ∀ n, nsu (fun i => c * f i) n = c * nsu f n := by
  intro n
  induction n with
  | zero => rfl
  | succ n ih =>
    show nsu (fun i => c * f i) n + c * f n = c * (nsu f n + f n)
    rw [ih, Nat.mul_add]
theorem su_abs (f : Nat → Int) : ∀ n, (su f n).natAbs ≤ nsu (fun i => (f i).natAbs) n := by
  intro n
  induction n with
  | zero => exact Nat.le_refl _
  | succ n ih =>
    show (su f n + f n).natAbs ≤ nsu (fun i => (f i).natAbs) n + (f n).natAbs
    omega
theorem nsu_skp (f : Nat → Nat) (t : Nat) : ∀ n, nsu (fun u => f (skp t u)) n ≤ nsu f (n + 1) := by
  intro n
  induction n with
  | zero => exact Nat.zero_le _
  | succ n ih =>
    by_cases h : n < t
    · have e : nsu (fun u => f (skp t u)) (n + 1) = nsu f (n + 1) := by
        clear ih
        have : ∀ m, m ≤ t → nsu (fun u => f (skp t u)) m = nsu f m := by
          intro m
          induction m with
          | zero => intro _; rfl
          | succ m ih =>
            intro hm
            show nsu (fun u => f (skp t u)) m + f (skp t m) = nsu f m + f m
            rw [ih (by omega)]
            unfold skp
            rw [if_pos (by omega)]
        exact this (n + 1) (by omega)
      rw [e]
      exact Nat.le_add_right _ _
    · show nsu (fun u => f (skp t u)) n + f (skp t n) ≤ nsu f (n + 1) + f (n + 1)
      have : skp t n = n + 1 := by unfold skp; rw [if_neg h]
      rw [this]
      omega
theorem sg_abs (n : Nat) : (sg n).natAbs = 1 := by
  unfold sg
  split <;> rfl
/-- by the sums of the rows -/
theorem Dt_rows : ∀ (k : Nat) (R : Nat → Nat → Int), (Dt k R).natAbs ≤ npr (fun s => nsu (fun t => (R s t).natAbs) k) k := by
  intro k
  induction k with
  | zero => intro R; exact Nat.le_refl _
  | succ k ih =>
    intro R
    refine Nat.le_trans (su_abs _ _) ?_
    show _ ≤ npr _ k * nsu (fun t => (R k t).natAbs) (k + 1)
    rw [← nsu_mul]
    refine nsu_le fun t ht => ?_
    rw [Int.natAbs_mul, Int.natAbs_mul, sg_abs, Nat.one_mul]
    refine Nat.mul_le_mul_right _ (Nat.le_trans (ih _) (npr_le fun s hs => ?_))
    exact nsu_skp (fun u => (R s u).natAbs) t k
