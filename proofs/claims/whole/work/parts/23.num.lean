/-! NUMBERS IN PARTS OF NINE DIGITS -/
def BB : Nat := 1000000000
theorem BB_pos : 0 < BB := by decide
theorem BP_pos (n : Nat) : 0 < BB ^ n := Nat.pow_pos BB_pos
def ndF : Nat → Nat → Nat
  | 0, _ => 0
  | f + 1, m => if m = 0 then 0 else ndF f (m / BB) + 1
def nd (m : Nat) : Nat := ndF m m
theorem ndF_le : ∀ (f m n : Nat), m ≤ f → (ndF f m ≤ n ↔ m < BB ^ n) := by
  intro f
  induction f with
  | zero =>
    intro m n hm
    have : m = 0 := by omega
    subst this
    exact ⟨fun _ => BP_pos n, fun _ => Nat.zero_le _⟩
  | succ f ih =>
    intro m n hm
    unfold ndF
    by_cases h0 : m = 0
    · rw [if_pos h0]
      subst h0
      exact ⟨fun _ => BP_pos n, fun _ => Nat.zero_le _⟩
    · rw [if_neg h0]
      cases n with
      | zero =>
        constructor
        · intro h; omega
        · intro h; rw [Nat.pow_zero] at h; omega
      | succ n =>
        have h1 : m / BB ≤ f := by
          have : m / BB < m := Nat.div_lt_self (by omega) (by decide)
          omega
        rw [Nat.add_le_add_iff_right, ih _ _ h1, Nat.div_lt_iff_lt_mul BB_pos, Nat.pow_succ]
theorem nd_le {m n : Nat} : nd m ≤ n ↔ m < BB ^ n := ndF_le m m n (Nat.le_refl _)
theorem lt_nd (m : Nat) : m < BB ^ nd m := nd_le.mp (Nat.le_refl _)
theorem nd_0 : nd 0 = 0 := by
  have := (nd_le (m := 0) (n := 0)).mpr (by decide)
  omega
theorem nd_eq0 {m : Nat} : nd m = 0 ↔ m = 0 := by
  constructor
  · intro h
    have := (nd_le (m := m) (n := 0)).mp (by omega)
    rw [Nat.pow_zero] at this
    omega
  · intro h; rw [h]; exact nd_0
theorem le_of_nd {m n : Nat} (h : n < nd m) : BB ^ n ≤ m := by
  by_cases h1 : m < BB ^ n
  · have := nd_le.mpr h1
    omega
  · omega
theorem nd_mono {a b : Nat} (h : a ≤ b) : nd a ≤ nd b := nd_le.mpr (Nat.lt_of_le_of_lt h (lt_nd b))
def dgt (m i : Nat) : Nat := m / BB ^ i % BB
theorem dgt_lt (m i : Nat) : dgt m i < BB := Nat.mod_lt _ BB_pos
theorem dgt_0 (i : Nat) : dgt 0 i = 0 := by
  unfold dgt
  rw [Nat.zero_div]
  rfl
theorem dgt_big {m i : Nat} (h : nd m ≤ i) : dgt m i = 0 := by
  unfold dgt
  rw [Nat.div_eq_of_lt (nd_le.mp h)]
  rfl
theorem dgt_top {m : Nat} (h : 0 < nd m) : dgt m (nd m - 1) ≠ 0 := by
  unfold dgt
  have h1 : m < BB ^ (nd m - 1) * BB := by
    rw [← Nat.pow_succ, show (nd m - 1).succ = nd m by omega]
    exact lt_nd m
  have h2 : BB ^ (nd m - 1) ≤ m := le_of_nd (by omega)
  have h3 : m / BB ^ (nd m - 1) < BB := by
    rw [Nat.div_lt_iff_lt_mul (BP_pos _), Nat.mul_comm]
    exact h1
  rw [Nat.mod_eq_of_lt h3]
  have := Nat.div_pos h2 (BP_pos _)
  omega
/-- the lowest n parts -/
theorem mod_succ (m n : Nat) : m % BB ^ (n + 1) = m % BB ^ n + dgt m n * BB ^ n := by
  unfold dgt
  rw [Nat.pow_succ, Nat.mod_mul]
  rw [Nat.mul_comm (BB ^ n)]
theorem mod_lt' (m n : Nat) : m % BB ^ n < BB ^ n := Nat.mod_lt _ (BP_pos n)
/-- a number by its parts -/
def vl (d : Nat → Nat) : Nat → Nat
  | 0 => 0
  | n + 1 => vl d n + d n * BB ^ n
theorem vl_lt {d : Nat → Nat} {n : Nat} (h : ∀ i, i < n → d i < BB) : vl d n < BB ^ n := by
  induction n with
  | zero => exact Nat.one_pos
  | succ n ih =>
    have h1 := ih (fun i hi => h i (by omega))
    have h2 := h n (by omega)
    have h3 : (d n + 1) * BB ^ n ≤ BB * BB ^ n := Nat.mul_le_mul_right _ (by omega)
    rw [Nat.add_mul, Nat.one_mul] at h3
    show vl d n + d n * BB ^ n < BB ^ (n + 1)
    rw [Nat.pow_succ, Nat.mul_comm (BB ^ n)]
    omega
theorem vl_dgt (m : Nat) : ∀ n, vl (dgt m) n = m % BB ^ n := by
  intro n
  induction n with
  | zero => rw [Nat.pow_zero, Nat.mod_one]; rfl
  | succ n ih => rw [mod_succ, ← ih]; rfl
theorem vl_congr {d e : Nat → Nat} {n : Nat} (h : ∀ i, i < n → d i = e i) : vl d n = vl e n := by
  induction n with
  | zero => rfl
  | succ n ih =>
    show vl d n + d n * BB ^ n = vl e n + e n * BB ^ n
    rw [ih (fun i hi => h i (by omega)), h n (by omega)]
theorem dgt_mod {m n i : Nat} (h : i < n) : dgt (m % BB ^ n) i = dgt m i := by
  unfold dgt
  have e : BB ^ n = BB ^ i * (BB * BB ^ (n - i - 1)) := by
    rw [← Nat.mul_assoc, ← Nat.pow_succ, ← Nat.pow_add]
    congr 1
    omega
  rw [e, Nat.mod_mul_right_div_self, Nat.mod_mul_right_mod]
theorem dgt_vl {d : Nat → Nat} : ∀ {n i : Nat}, (∀ j, j < n → d j < BB) → i < n → dgt (vl d n) i = d i := by
  intro n
  induction n with
  | zero => intro i _ h; omega
  | succ n ih =>
    intro i hd hi
    have h1 := vl_lt (d := d) (n := n) (fun j hj => hd j (by omega))
    by_cases hin : i < n
    · rw [← dgt_mod (n := n) hin]
      show dgt ((vl d n + d n * BB ^ n) % BB ^ n) i = d i
      rw [Nat.add_mul_mod_self_right, Nat.mod_eq_of_lt h1]
      exact ih (fun j hj => hd j (by omega)) hin
    · have : i = n := by omega
      subst this
      unfold dgt
      show (vl d i + d i * BB ^ i) / BB ^ i % BB = d i
      rw [Nat.add_mul_div_right _ _ (BP_pos i), Nat.div_eq_of_lt h1, Nat.zero_add, Nat.mod_eq_of_lt (hd i (by omega))]
theorem dgt_inj {a b n : Nat} (ha : a < BB ^ n) (hb : b < BB ^ n) (h : ∀ i, i < n → dgt a i = dgt b i) : a = b := by
  rw [← Nat.mod_eq_of_lt ha, ← Nat.mod_eq_of_lt hb, ← vl_dgt, ← vl_dgt]
  exact vl_congr h
/-- adding part by part -/
def cA (a b i : Nat) : Nat := (a % BB ^ i + b % BB ^ i) / BB ^ i
theorem cA_lt (a b i : Nat) : cA a b i ≤ 1 := by
  unfold cA
  have h1 := mod_lt' a i
  have h2 := mod_lt' b i
  have : (a % BB ^ i + b % BB ^ i) / BB ^ i < 2 := by
    rw [Nat.div_lt_iff_lt_mul (BP_pos i)]
    omega
  omega
theorem cA_0 (a b : Nat) : cA a b 0 = 0 := by
  unfold cA
  rw [Nat.pow_zero, Nat.mod_one, Nat.mod_one]
theorem sum_split (a b i : Nat) : a % BB ^ (i + 1) + b % BB ^ (i + 1) = (a % BB ^ i + b % BB ^ i) % BB ^ i + (dgt a i + dgt b i + cA a b i) * BB ^ i := by
  rw [mod_succ, mod_succ]
  have h := Nat.div_add_mod (a % BB ^ i + b % BB ^ i) (BB ^ i)
  unfold cA
  generalize hq : (a % BB ^ i + b % BB ^ i) / BB ^ i = q at h ⊢
  generalize hr : (a % BB ^ i + b % BB ^ i) % BB ^ i = r at h ⊢
  rw [Nat.add_mul, Nat.add_mul]
  rw [Nat.mul_comm q]
  omega
theorem cA_succ (a b i : Nat) : cA a b (i + 1) = (dgt a i + dgt b i + cA a b i) / BB := by
  have h := sum_split a b i
  have hr := Nat.mod_lt (a % BB ^ i + b % BB ^ i) (BP_pos i)
  show (a % BB ^ (i + 1) + b % BB ^ (i + 1)) / BB ^ (i + 1) = _
  rw [h, Nat.pow_succ, ← Nat.div_div_eq_div_mul, Nat.add_mul_div_right _ _ (BP_pos i), Nat.div_eq_of_lt hr, Nat.zero_add]
theorem dgt_add (a b i : Nat) : dgt (a + b) i = (dgt a i + dgt b i + cA a b i) % BB := by
  have h := sum_split a b i
  have hr := Nat.mod_lt (a % BB ^ i + b % BB ^ i) (BP_pos i)
  rw [← dgt_mod (n := i + 1) (by omega), Nat.add_mod, dgt_mod (by omega)]
  unfold dgt at h ⊢
  rw [h, Nat.add_mul_div_right _ _ (BP_pos i), Nat.div_eq_of_lt hr, Nat.zero_add]
/-- taking away part by part, b at most a: 1 where a part is borrowed -/
def cS (a b i : Nat) : Nat := if a % BB ^ i < b % BB ^ i then 1 else 0
theorem cS_0 (a b : Nat) : cS a b 0 = 0 := by
  unfold cS
  rw [Nat.pow_zero, Nat.mod_one, Nat.mod_one]
  rfl
