/-! THE REFERENCE: its numbers. A number has 24 parts, rounded down; the last bears the sign -/
def Bi : Int := 1000000000
def hor (d : Nat → Int) : Nat → Nat → Int
  | 0, _ => 0
  | n + 1, k => d k + Bi * hor d n (k + 1)
def fd (v : Int) (k : Nat) : Int := if k < 23 then v / Bi ^ k % Bi else v / Bi ^ 23
theorem Bi_pos : 0 < Bi := by unfold Bi; decide
theorem BiP_pos (k : Nat) : 0 < Bi ^ k := Int.pow_pos Bi_pos
theorem Bi_BB (k : Nat) : Bi ^ k = ((BB ^ k : Nat) : Int) := by
  rw [Int.natCast_pow]
  rfl
theorem bidiv_succ (v : Int) (k : Nat) : v / Bi ^ (k + 1) = v / Bi ^ k / Bi := by
  rw [Int.pow_succ, Int.ediv_ediv, if_neg (fun e => absurd e.1 (Int.not_lt.mpr (Int.le_of_lt (BiP_pos k)))), Int.sub_zero]
theorem hor_congr {d e : Nat → Int} : ∀ {n k : Nat}, (∀ j, k ≤ j → j < k + n → d j = e j) → hor d n k = hor e n k := by
  intro n
  induction n with
  | zero => intro k _; rfl
  | succ n ih =>
    intro k h
    show d k + Bi * hor d n (k + 1) = e k + Bi * hor e n (k + 1)
    rw [h k (Nat.le_refl _) (by omega), ih (fun j j1 j2 => h j (by omega) (by omega))]
theorem hor_fd (v : Int) : ∀ n k, n + k = 24 → 1 ≤ n → hor (fd v) n k = v / Bi ^ k := by
  intro n
  induction n with
  | zero => intro k _ h; omega
  | succ n ih =>
    intro k hk _
    show fd v k + Bi * hor (fd v) n (k + 1) = v / Bi ^ k
    by_cases q : k < 23
    · rw [ih (k + 1) (by omega) (by omega), bidiv_succ]
      unfold fd
      rw [if_pos q]
      have := Int.mul_ediv_add_emod (v / Bi ^ k) Bi
      omega
    · have : n = 0 := by omega
      subst this
      have : k = 23 := by omega
      subst this
      unfold fd
      rw [if_neg (by decide)]
      show _ + Bi * 0 = _
      omega
theorem hor_fd0 (v : Int) : hor (fd v) 24 0 = v := by
  rw [hor_fd v 24 0 (by decide) (by decide), Int.pow_zero, Int.ediv_one]
theorem hor_uniq {d : Nat → Int} (hd : ∀ j, j < 23 → 0 ≤ d j ∧ d j < Bi) : ∀ k, k < 24 → hor d 24 0 / Bi ^ k = hor d (24 - k) k := by
  intro k
  induction k with
  | zero => intro _; rw [Int.pow_zero, Int.ediv_one]
  | succ k ih =>
    intro hk
    rw [bidiv_succ, ih (by omega)]
    have e : 24 - k = (24 - (k + 1)) + 1 := by omega
    rw [e]
    show (d k + Bi * hor d (24 - (k + 1)) (k + 1)) / Bi = _
    rw [Int.add_mul_ediv_left _ _ (Int.ne_of_gt Bi_pos), Int.ediv_eq_zero_of_lt (hd k (by omega)).1 (hd k (by omega)).2, Int.zero_add]
theorem hor_dig {d : Nat → Int} (hd : ∀ j, j < 23 → 0 ≤ d j ∧ d j < Bi) : ∀ k, k < 24 → d k = fd (hor d 24 0) k := by
  intro k hk
  unfold fd
  by_cases q : k < 23
  · rw [if_pos q, hor_uniq hd k hk]
    have e : 24 - k = (24 - (k + 1)) + 1 := by omega
    rw [e]
    show d k = (d k + Bi * hor d (24 - (k + 1)) (k + 1)) % Bi
    rw [Int.add_mul_emod_self_left, Int.emod_eq_of_lt (hd k q).1 (hd k q).2]
  · have : k = 23 := by omega
    subst this
    rw [if_neg (by decide), hor_uniq hd 23 (by decide)]
    show d 23 = d 23 + Bi * 0
    omega
theorem hor_lin (x y : Nat → Int) (t : Int) : ∀ n k, hor (fun j => x j + y j * t) n k = hor x n k + hor y n k * t := by
  intro n
  induction n with
  | zero => intro k; show (0 : Int) = 0 + 0 * t; omega
  | succ n ih =>
    intro k
    show x k + y k * t + Bi * hor (fun j => x j + y j * t) n (k + 1) = (x k + Bi * hor x n (k + 1)) + (y k + Bi * hor y n (k + 1)) * t
    rw [ih]
    grind
theorem hor_neg (x : Nat → Int) : ∀ n k, hor (fun j => - x j) n k = - hor x n k := by
  intro n
  induction n with
  | zero => intro k; rfl
  | succ n ih =>
    intro k
    show - x k + Bi * hor (fun j => - x j) n (k + 1) = - (x k + Bi * hor x n (k + 1))
    rw [ih]
    grind
theorem hor_0 : ∀ n k, hor (fun _ => 0) n k = 0 := by
  intro n
  induction n with
  | zero => intro k; rfl
  | succ n ih =>
    intro k
    show 0 + Bi * hor (fun _ => 0) n (k + 1) = 0
    rw [ih, Int.mul_zero]
    rfl
theorem hor_set (v : Int) : hor (fun j => if j = 0 then v else 0) 24 0 = v := by
  show (if 0 = 0 then v else 0) + Bi * hor (fun j => if j = 0 then v else 0) 23 1 = v
  rw [if_pos rfl, hor_congr (e := fun _ => 0) (fun j j1 j2 => if_neg (by omega)), hor_0, Int.mul_zero, Int.add_zero]
/-- one step of carrying keeps the value -/
def cst (e : Nat → Int) (k : Nat) : Nat → Int := fun j => if j = k then e k % Bi else if j = k + 1 then e (k + 1) + e k / Bi else e j
theorem hor_cst (e : Nat → Int) (k : Nat) : ∀ n s, s ≤ k → k + 1 < s + n → hor (cst e k) n s = hor e n s := by
  intro n
  induction n with
  | zero => intro s h1 h2; omega
  | succ n ih =>
    intro s h1 h2
    show cst e k s + Bi * hor (cst e k) n (s + 1) = e s + Bi * hor e n (s + 1)
    by_cases q : s = k
    · subst q
      cases n with
      | zero => omega
      | succ n =>
        show cst e s s + Bi * (cst e s (s + 1) + Bi * hor (cst e s) n (s + 1 + 1)) = e s + Bi * (e (s + 1) + Bi * hor e n (s + 1 + 1))
        rw [hor_congr (d := cst e s) (e := e) (fun j j1 j2 => by unfold cst; rw [if_neg (by omega), if_neg (by omega)])]
        have a1 : cst e s s = e s % Bi := by unfold cst; rw [if_pos rfl]
        have a2 : cst e s (s + 1) = e (s + 1) + e s / Bi := by unfold cst; rw [if_neg (by omega), if_pos rfl]
        rw [a1, a2]
        have := Int.mul_ediv_add_emod (e s) Bi
        rw [Int.mul_add, Int.mul_add, Int.mul_add]
        omega
    · rw [ih (s + 1) (by omega) (by omega)]
      have a1 : cst e k s = e s := by unfold cst; rw [if_neg q, if_neg (by omega)]
      rw [a1]
/-- the reference's object -/
def MOo (h : eH) (jt mb hi wi rk co : Int32) : Prop := h.1 239 = .inr (11, [.ref 240, .ref 241, .ref 242, .ref 243, .int jt, .ref 244, .ref 245, .ref 246, .ref 247, .ref 248, .int mb, .ref 249, .ref 250, .ref 251, .ref 252, .ref 253, .ref 254, .ref 255, .ref 256, .int hi, .int wi, .int rk, .ref 257, .int co])
/-- the reference's numbers: 412 of them -/
def MN (h : eH) (f : Nat → Int64) : Prop := h.1 240 = .inl (1, 9888, .inr (.inl f))
def RG (f : Nat → Int64) (a : Nat) (p : Nat → Int) : Prop := ∀ k, k < 24 → f (24 * a + k) = lI (p k)
def upR (f : Nat → Int64) (a : Nat) (p : Nat → Int) : Nat → Int64 := fun i => if 24 * a ≤ i ∧ i < 24 * a + 24 then lI (p (i - 24 * a)) else f i
theorem upR_rg (f : Nat → Int64) (a : Nat) (p : Nat → Int) : RG (upR f a p) a p := by
  intro k hk
  unfold upR
  rw [if_pos (by omega)]
  congr 2
  omega
theorem upR_ne {f : Nat → Int64} {a b : Nat} {p q : Nat → Int} (h : RG f b q) (hab : b ≠ a) : RG (upR f a p) b q := by
  intro k hk
  unfold upR
  rw [if_neg (by omega)]
  exact h k hk
theorem upR_id {f : Nat → Int64} {a : Nat} {p : Nat → Int} (h : RG f a p) : upR f a p = f := by
  funext i
  unfold upR
  by_cases q : 24 * a ≤ i ∧ i < 24 * a + 24
  · rw [if_pos q, ← h (i - 24 * a) (by omega)]
    congr 1
    omega
  · rw [if_neg q]
theorem upR_upR (f : Nat → Int64) (a : Nat) (p q : Nat → Int) : upR (upR f a p) a q = upR f a q := by
  funext i
  unfold upR
  by_cases h : 24 * a ≤ i ∧ i < 24 * a + 24
  · rw [if_pos h, if_pos h]
  · rw [if_neg h, if_neg h, if_neg h]
theorem upR_set (f : Nat → Int64) (a k : Nat) (p : Nat → Int) (z : Int) (hk : k < 24) : vp_updL (upR f a p) (24 * a + k) (lI z) = upR f a (fun j => if j = k then z else p j) := by
  funext i
  unfold vp_updL upR
  by_cases h : 24 * a ≤ i ∧ i < 24 * a + 24
  · by_cases q : i = 24 * a + k
    · rw [if_pos q, if_pos h]
      show lI z = lI (if i - 24 * a = k then z else p (i - 24 * a))
      rw [if_pos (by omega)]
    · rw [if_neg q, if_pos h, if_pos h]
      show _ = lI (if i - 24 * a = k then z else p (i - 24 * a))
      rw [if_neg (by omega)]
  · rw [if_neg (by omega), if_neg h, if_neg h]
theorem upR_get (f : Nat → Int64) (a k : Nat) (p : Nat → Int) (hk : k < 24) : upR f a p (24 * a + k) = lI (p k) := upR_rg f a p k hk
theorem upR_congr {f : Nat → Int64} {a : Nat} {p q : Nat → Int} (h : ∀ k, k < 24 → p k = q k) : upR f a p = upR f a q := by
  funext i
  unfold upR
  by_cases e : 24 * a ≤ i ∧ i < 24 * a + 24
  · rw [if_pos e, if_pos e, h _ (by omega)]
  · rw [if_neg e, if_neg e]
