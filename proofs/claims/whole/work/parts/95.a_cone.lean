/-! THE REFERENCE: cross, product, comes -/
def VR (R : Nat → Int) (b : Nat) : Nat → Int := fun i => R (b + i)
def bq (B : Nat) (v : Nat → Int) : Prop := ∀ i, i < 3 → (v i).natAbs ≤ B
theorem n23_le {z : Int} {B : Nat} (h : z.natAbs ≤ B) (hB : B < BB ^ 23) : n23 z := Nat.lt_of_le_of_lt h hB
theorem mul_le2 {x y : Int} {A B : Nat} (hx : x.natAbs ≤ A) (hy : y.natAbs ≤ B) : (x * y).natAbs ≤ A * B := by
  rw [Int.natAbs_mul]
  exact Nat.mul_le_mul hx hy
theorem dot_bd {x y : Nat → Int} {A B : Nat} (hx : bq A x) (hy : bq B y) : (dot x y).natAbs ≤ 3 * (A * B) := by
  have h0 := mul_le2 (hx 0 (by decide)) (hy 0 (by decide))
  have h1 := mul_le2 (hx 1 (by decide)) (hy 1 (by decide))
  have h2 := mul_le2 (hx 2 (by decide)) (hy 2 (by decide))
  unfold dot
  omega
theorem crs_bd {x y : Nat → Int} {A B : Nat} (hx : bq A x) (hy : bq B y) : bq (2 * (A * B)) (crs x y) := fun i hi => by
  have h0 := mul_le2 (hx ((i + 1) % 3) (Nat.mod_lt _ (by decide))) (hy ((i + 2) % 3) (Nat.mod_lt _ (by decide)))
  have h1 := mul_le2 (hx ((i + 2) % 3) (Nat.mod_lt _ (by decide))) (hy ((i + 1) % 3) (Nat.mod_lt _ (by decide)))
  unfold crs
  omega
section CN1
variable {h : eH} {jt mb hi wi rk co : Int32} {ro : Nat → Int32} {s : SC} {R : Nat → Int}
theorem m47_loop {a b c A B : Nat} {R0 : Nat → Int} (ha : 10 < a ∧ a + 2 < 412) (hb : 10 < b ∧ b + 2 < 412) (hc : 10 < c ∧ c + 2 < 412) (hab : a + 2 < b ∨ b + 2 < a) (hac : a + 2 < c ∨ c + 2 < a) (bA : bq A (VR R0 b)) (bB : bq B (VR R0 c)) (hB : 2 * (A * B) < BB ^ 23) (hA1 : A < BB ^ 23) (hB1 : B < BB ^ 23) : ∀ r i (R : Nat → Int) (s : SC), i + r = 3 → (∀ j, j < i → R (a + j) = crs (VR R0 b) (VR R0 c) j) → Kr (fun k => k = 6 ∨ k = 7 ∨ (a ≤ k ∧ k < a + 3)) R0 R → ∃ (R' : Nat → Int) (s' : SC), ru 47 3 [some (.ref 239), some (.int (nI a)), some (.int (nI b)), some (.int (nI c)), some (.int (nI i))] [] (hK h jt mb hi wi rk co ro R s) = some (none, hK h jt mb hi wi rk co ro R' s') ∧ (∀ j, j < 3 → R' (a + j) = crs (VR R0 b) (VR R0 c) j) ∧ Kr (fun k => k = 6 ∨ k = 7 ∨ (a ≤ k ∧ k < a + 3)) R0 R' := by
  intro r
  induction r with
  | zero =>
    intro i R s hi' k1 k2
    have : i = 3 := by omega
    subst this
    refine ⟨R, s, ?_, k1, k2⟩
    rw [H47_3]
    simp only [S47, gFs, pFs, okq, bls, bo_true, eUp_at, eUp_eUp, eKls, cl_some, Option.toList_some, Option.toList_none, List.cons_append, List.nil_append]
    rw [if_pos (by decide)]
  | succ r ih =>
    intro i R s hi' k1 k2
    have hi3 : i < 3 := by omega
    obtain ⟨i1, hi1⟩ : ∃ i1, i1 = (i + 1) % 3 := ⟨_, rfl⟩
    obtain ⟨i2, hi2⟩ : ∃ i2, i2 = (i + 2) % 3 := ⟨_, rfl⟩
    have l1 : i1 < 3 := by omega
    have l2 : i2 < 3 := by omega
    have c1 : nI (i + 1) - nI (i + 1) / nI 3 * nI 3 = nI i1 := by
      rcases (by omega : i = 0 ∨ i = 1 ∨ i = 2) with e | e | e <;> subst e <;> subst hi1 <;> decide
    have c2 : nI (i + 2) - nI (i + 2) / nI 3 * nI 3 = nI i2 := by
      rcases (by omega : i = 0 ∨ i = 1 ∨ i = 2) with e | e | e <;> subst e <;> subst hi2 <;> decide
    have rb : ∀ j, j < 3 → R (b + j) = VR R0 b j := fun j hj => k2 (b + j) (by omega)
    have rc : ∀ j, j < 3 → R (c + j) = VR R0 c j := fun j hj => k2 (c + j) (by omega)
    have p1 := mul_le2 (bA i1 l1) (bB i2 l2)
    have p2 := mul_le2 (bA i2 l2) (bB i1 l1)
    obtain ⟨s1, e1⟩ := m27 (h := h) (jt := jt) (mb := mb) (hi := hi) (wi := wi) (rk := rk) (co := co) (ro := ro) (s := s) (R := R) (t := 6) (a := b + i1) (b := c + i2) (by decide) (by omega) (by omega) (by rw [rb i1 l1]; exact n23_le (bA i1 l1) hA1) (by rw [rc i2 l2]; exact n23_le (bB i2 l2) hB1) (by rw [rb i1 l1, rc i2 l2]; exact n23_le p1 (by omega))
    rw [rb i1 l1, rc i2 l2] at e1
    have f1 : ur R 6 (VR R0 b i1 * VR R0 c i2) (b + i2) = VR R0 b i2 := by rw [ur_ne (by omega)]; exact rb i2 l2
    have f2 : ur R 6 (VR R0 b i1 * VR R0 c i2) (c + i1) = VR R0 c i1 := by rw [ur_ne (by omega)]; exact rc i1 l1
    obtain ⟨s2, e2⟩ := m27 (h := h) (jt := jt) (mb := mb) (hi := hi) (wi := wi) (rk := rk) (co := co) (ro := ro) (s := s1) (R := ur R 6 (VR R0 b i1 * VR R0 c i2)) (t := 7) (a := b + i2) (b := c + i1) (by decide) (by omega) (by omega) (by rw [f1]; exact n23_le (bA i2 l2) hA1) (by rw [f2]; exact n23_le (bB i1 l1) hB1) (by rw [f1, f2]; exact n23_le p2 (by omega))
    rw [f1, f2] at e2
    have f3 : ur (ur R 6 (VR R0 b i1 * VR R0 c i2)) 7 (VR R0 b i2 * VR R0 c i1) 6 = VR R0 b i1 * VR R0 c i2 := by rw [ur_ne (by decide), ur_at]
    have f4 : ur (ur R 6 (VR R0 b i1 * VR R0 c i2)) 7 (VR R0 b i2 * VR R0 c i1) 7 = VR R0 b i2 * VR R0 c i1 := by rw [ur_at]
    have e3 := m15 (h := h) (jt := jt) (mb := mb) (hi := hi) (wi := wi) (rk := rk) (co := co) (ro := ro) (s := s2) (R := ur (ur R 6 (VR R0 b i1 * VR R0 c i2)) 7 (VR R0 b i2 * VR R0 c i1)) (t := -1) (show 6 < 412 by decide) (show 7 < 412 by decide) (by decide) (by rw [f3]; exact n23_le p1 (by omega)) (by rw [f4]; exact n23_le p2 (by omega)) (by decide)
    rw [f3, f4, show VR R0 b i1 * VR R0 c i2 + VR R0 b i2 * VR R0 c i1 * -1 = crs (VR R0 b) (VR R0 c) i by unfold crs; rw [← hi1, ← hi2]; omega] at e3
    obtain ⟨R3, hR3⟩ : ∃ R3, R3 = ur (ur (ur R 6 (VR R0 b i1 * VR R0 c i2)) 7 (VR R0 b i2 * VR R0 c i1)) 6 (crs (VR R0 b) (VR R0 c) i) := ⟨_, rfl⟩
    rw [← hR3] at e3
    have e4 := m20 (h := h) (jt := jt) (mb := mb) (hi := hi) (wi := wi) (rk := rk) (co := co) (ro := ro) (s := s2) (R := R3) (a := a + i) (b := 6) (by omega) (by decide) (by omega)
    have g6 : R3 6 = crs (VR R0 b) (VR R0 c) i := by rw [hR3, ur_at]
    rw [g6] at e4
    have k3 : ∀ k, k ≠ 6 → k ≠ 7 → R3 k = R k := fun k k1 k2 => by rw [hR3, ur_ne k1, ur_ne k2, ur_ne k1]
    obtain ⟨R', s', z1, z2⟩ := ih (i + 1) (ur R3 (a + i) (crs (VR R0 b) (VR R0 c) i)) s2 (by omega) (fun j hj => by
      by_cases q : j = i
      · rw [q, ur_at]
      · rw [ur_ne (by omega), k3 _ (by omega) (by omega)]; exact k1 j (by omega)) (fun k hk => by
      rw [ur_ne (by omega), k3 k (by omega) (by omega)]; exact k2 k hk)
    refine ⟨R', s', ?_, z2⟩
    rw [← z1, H47_3]
    simp only [S47, gFs, pFs, okq, bls, bo_true, eUp_at, eUp_eUp, eKls, cl_some, Option.toList_some, Option.toList_none, List.cons_append, List.nil_append, if_neg (show ¬ nI 3 = 0 by decide), c1, c2, nI_add]
    rw [if_neg (nI_ge hi3 (by decide))]
    simp only [S47, gFs, pFs, okq, bls, bo_true, eUp_at, eUp_eUp, eKls, cl_some, Option.toList_some, Option.toList_none, List.cons_append, List.nil_append, e1, e2, show (-lN 1 : Int64) = lI (-1) from rfl, e3, nI_add, e4]
    rw [nI_1]
theorem m47 {a b c A B : Nat} (ha : 10 < a ∧ a + 2 < 412) (hb : 10 < b ∧ b + 2 < 412) (hc : 10 < c ∧ c + 2 < 412) (hab : a + 2 < b ∨ b + 2 < a) (hac : a + 2 < c ∨ c + 2 < a) (bA : bq A (VR R b)) (bB : bq B (VR R c)) (hB : 2 * (A * B) < BB ^ 23) (hA1 : A < BB ^ 23) (hB1 : B < BB ^ 23) : ∃ (R' : Nat → Int) (s' : SC), den 47 [.ref 239, .int (nI a), .int (nI b), .int (nI c)] (hK h jt mb hi wi rk co ro R s) = some (none, hK h jt mb hi wi rk co ro R' s') ∧ (∀ j, j < 3 → R' (a + j) = crs (VR R b) (VR R c) j) ∧ Kr (fun k => k = 6 ∨ k = 7 ∨ (a ≤ k ∧ k < a + 3)) R R' := by
  obtain ⟨R', s', z1, z2⟩ := m47_loop (h := h) (jt := jt) (mb := mb) (hi := hi) (wi := wi) (rk := rk) (co := co) (ro := ro) ha hb hc hab hac bA bB hB hA1 hB1 3 0 R s (by decide) (fun j hj => absurd hj (Nat.not_lt_zero _)) (Kr.refl _ _)
  refine ⟨R', s', ?_, z2⟩
  rw [← z1, E47 239 _ _ _ hK_o]
  simp only [S47, gFs, pFs, okq, bls, bo_true, eUp_at, eUp_eUp, eKls, cl_some, Option.toList_some, Option.toList_none, List.cons_append, List.nil_append]
def pdot (x y : Nat → Int) : Nat → Int
  | 0 => 0
  | n + 1 => pdot x y n + x n * y n
theorem pdot3 (x y : Nat → Int) : pdot x y 3 = dot x y := by
  show 0 + x 0 * y 0 + x 1 * y 1 + x 2 * y 2 = x 0 * y 0 + x 1 * y 1 + x 2 * y 2
  omega
theorem pdot_bd {x y : Nat → Int} {A B : Nat} (hx : bq A x) (hy : bq B y) : ∀ n, n ≤ 3 → (pdot x y n).natAbs ≤ n * (A * B) := by
  intro n
  induction n with
  | zero => intro _; show (0 : Int).natAbs ≤ _; omega
  | succ n ih =>
    intro hn
    have h1 := ih (by omega)
    have h2 := mul_le2 (hx n (by omega)) (hy n (by omega))
    rw [Nat.succ_mul]
    show (pdot x y n + x n * y n).natAbs ≤ _
    omega
theorem m43_loop {m a A B : Nat} {R0 : Nat → Int} (hm : m < 14) (ha : 10 < a ∧ a + 2 < 412) (bA : bq A (VR R0 (340 + 3 * m))) (bB : bq B (VR R0 a)) (hB : 4 * (A * B) < BB ^ 23) (hA1 : A < BB ^ 23) (hB1 : B < BB ^ 23) : ∀ r i (R : Nat → Int) (s : SC), i + r = 3 → R 9 = pdot (VR R0 (340 + 3 * m)) (VR R0 a) i → Kr (fun k => k = 6 ∨ k = 9) R0 R → ∃ (R' : Nat → Int) (s' : SC), ru 43 9 [some (.ref 239), some (.int (nI m)), some (.int (nI a)), some (.int (nI i))] [] (hK h jt mb hi wi rk co ro R s) = some (some (.int (iI (dot (VR R0 (340 + 3 * m)) (VR R0 a)).sign)), hK h jt mb hi wi rk co ro R' s') ∧ Kr (fun k => k = 6 ∨ k = 9) R0 R' := by
  intro r
  induction r with
  | zero =>
    intro i R s hi' k1 k2
    have : i = 3 := by omega
    subst this
    rw [pdot3] at k1
    have bd := dot_bd bA bB
    have e1 := m42 (h := h) (jt := jt) (mb := mb) (hi := hi) (wi := wi) (rk := rk) (co := co) (ro := ro) (s := s) (R := R) (a := 9) (by decide) (by rw [k1]; exact n23_le bd (by omega))
    rw [k1] at e1
    refine ⟨R, s, ?_, k2⟩
    rw [H43_9]
    simp only [S43, gFs, pFs, okq, bls, bo_true, eUp_at, eUp_eUp, eKls, cl_some, Option.toList_some, Option.toList_none, List.cons_append, List.nil_append]
    rw [if_pos (by decide), H43_44]
    simp only [S43, gFs, pFs, okq, bls, bo_true, eUp_at, eUp_eUp, eKls, cl_some, Option.toList_some, Option.toList_none, List.cons_append, List.nil_append, e1]
  | succ r ih =>
    intro i R s hi' k1 k2
    have hi3 : i < 3 := by omega
    have rm : R (340 + 3 * m + i) = VR R0 (340 + 3 * m) i := k2 _ (by omega)
    have ra : R (a + i) = VR R0 a i := k2 _ (by omega)
    have p1 := mul_le2 (bA i hi3) (bB i hi3)
    have p2 := pdot_bd bA bB i (by omega)
    have p3 : i * (A * B) ≤ 3 * (A * B) := Nat.mul_le_mul_right _ (by omega)
    obtain ⟨s1, e1⟩ := m27 (h := h) (jt := jt) (mb := mb) (hi := hi) (wi := wi) (rk := rk) (co := co) (ro := ro) (s := s) (R := R) (t := 6) (a := 340 + 3 * m + i) (b := a + i) (by decide) (by omega) (by omega) (by rw [rm]; exact n23_le (bA i hi3) hA1) (by rw [ra]; exact n23_le (bB i hi3) hB1) (by rw [rm, ra]; exact n23_le p1 (by omega))
    rw [rm, ra] at e1
    have f9 : ur R 6 (VR R0 (340 + 3 * m) i * VR R0 a i) 9 = pdot (VR R0 (340 + 3 * m)) (VR R0 a) i := by rw [ur_ne (by decide)]; exact k1
    have e2 := m15 (h := h) (jt := jt) (mb := mb) (hi := hi) (wi := wi) (rk := rk) (co := co) (ro := ro) (s := s1) (R := ur R 6 (VR R0 (340 + 3 * m) i * VR R0 a i)) (t := 1) (a := 9) (b := 6) (by decide) (by decide) (by decide) (by rw [f9]; exact n23_le p2 (by omega)) (by rw [ur_at]; exact n23_le p1 (by omega)) (by decide)
    rw [f9, ur_at, Int.mul_one] at e2
    obtain ⟨R', s', z1, z2⟩ := ih (i + 1) (ur (ur R 6 (VR R0 (340 + 3 * m) i * VR R0 a i)) 9 (pdot (VR R0 (340 + 3 * m)) (VR R0 a) i + VR R0 (340 + 3 * m) i * VR R0 a i)) s1 (by omega) (by rw [ur_at]; rfl) ((k2.up' (Or.inl rfl)).up' (Or.inr rfl))
    refine ⟨R', s', ?_, z2⟩
    rw [← z1, H43_9]
    simp only [S43, gFs, pFs, okq, bls, bo_true, eUp_at, eUp_eUp, eKls, cl_some, Option.toList_some, Option.toList_none, List.cons_append, List.nil_append]
    rw [if_neg (nI_ge hi3 (by decide))]
    simp only [S43, gFs, pFs, okq, bls, bo_true, eUp_at, eUp_eUp, eKls, cl_some, Option.toList_some, Option.toList_none, List.cons_append, List.nil_append, m41, nI_add, e1, show (lN 1 : Int64) = lI 1 from rfl, e2]
    rw [nI_1]
theorem m43 {m a A B : Nat} (hm : m < 14) (ha : 10 < a ∧ a + 2 < 412) (bA : bq A (VR R (340 + 3 * m))) (bB : bq B (VR R a)) (hB : 4 * (A * B) < BB ^ 23) (hA1 : A < BB ^ 23) (hB1 : B < BB ^ 23) : ∃ (R' : Nat → Int) (s' : SC), den 43 [.ref 239, .int (nI m), .int (nI a)] (hK h jt mb hi wi rk co ro R s) = some (some (.int (iI (dot (VR R (340 + 3 * m)) (VR R a)).sign)), hK h jt mb hi wi rk co ro R' s') ∧ Kr (fun k => k = 6 ∨ k = 9) R R' := by
  have e0 := m12 (h := h) (jt := jt) (mb := mb) (hi := hi) (wi := wi) (rk := rk) (co := co) (ro := ro) (s := s) (R := R) (a := 9) (v := 0) (by decide) (by decide)
  obtain ⟨R', s', z1, z2⟩ := m43_loop (h := h) (jt := jt) (mb := mb) (hi := hi) (wi := wi) (rk := rk) (co := co) (ro := ro) hm ha bA bB hB hA1 hB1 3 0 (ur R 9 0) s (by decide) (by rw [ur_at]; rfl) ((Kr.refl _ R).up' (Or.inr rfl))
  refine ⟨R', s', ?_, z2⟩
  rw [← z1, E43 239 _ _ hK_o]
  simp only [S43, gFs, pFs, okq, bls, bo_true, eUp_at, eUp_eUp, eKls, cl_some, Option.toList_some, Option.toList_none, List.cons_append, List.nil_append, show (lN 0 : Int64) = lI 0 from rfl, e0]
theorem sgn_lt {z : Int} : (iI z.sign < 0 ↔ z < 0) ∧ (0 < iI z.sign ↔ 0 < z) ∧ (0 ≤ iI z.sign ↔ 0 ≤ z) := by
  rcases sgn_cases z with ⟨a, b⟩ | ⟨a, b⟩ | ⟨a, b⟩ <;> rw [b]
  · refine ⟨⟨fun e => absurd e (by decide), fun e => by omega⟩, ⟨fun e => absurd e (by decide), fun e => by omega⟩, ⟨fun e => by omega, fun e => by decide⟩⟩
  · refine ⟨⟨fun e => absurd e (by decide), fun e => by omega⟩, ⟨fun e => by omega, fun e => by decide⟩, ⟨fun e => by omega, fun e => by decide⟩⟩
  · refine ⟨⟨fun e => by omega, fun e => by decide⟩, ⟨fun e => absurd e (by decide), fun e => by omega⟩, ⟨fun e => absurd e (by decide), fun e => by omega⟩⟩
/-- the cones that the registers hold -/
def QR (R : Nat → Int) (m : Nat) : Nat → Int := VR R (340 + 3 * m)
theorem Kr.vr {P : Nat → Prop} {R R' : Nat → Int} (k : Kr P R R') {b : Nat} (hb : ∀ i, i < 3 → ¬ P (b + i)) : ∀ i, i < 3 → VR R' b i = VR R b i := fun i hi => k (b + i) (hb i hi)
theorem dot_cg {x x' y y' : Nat → Int} (h1 : ∀ i, i < 3 → x i = x' i) (h2 : ∀ i, i < 3 → y i = y' i) : dot x y = dot x' y' := by
  unfold dot
  rw [h1 0 (by decide), h1 1 (by decide), h1 2 (by decide), h2 0 (by decide), h2 1 (by decide), h2 2 (by decide)]
theorem m44_chk {a t M A B : Nat} {R0 : Nat → Int} (hM : M ≤ 14) (ha : 381 < a ∧ a + 2 < 412) (bA : ∀ m, m < M → bq A (QR R0 m)) (bB : bq B (VR R0 a)) (hB : 4 * (A * B) < BB ^ 23) (hA1 : A < BB ^ 23) (hB1 : B < BB ^ 23) : ∀ r m (R : Nat → Int) (s : SC), m + r = M → (∀ j, j < m → 0 ≤ dot (QR R0 j) (VR R0 a)) → Kr (fun k => k = 6 ∨ k = 9) R0 R → ∃ (R' : Nat → Int) (s' : SC), Kr (fun k => k = 6 ∨ k = 9) R0 R' ∧ (((∀ j, j < M → 0 ≤ dot (QR R0 j) (VR R0 a)) ∧ ru 44 2 [some (.ref 239), some (.int (nI a)), some (.int (nI t)), some (.int (nI m))] [] (hK h jt mb hi wi rk (nI M) ro R s) = ru 44 26 [some (.ref 239), some (.int (nI a)), some (.int (nI t)), some (.int (nI M))] [] (hK h jt mb hi wi rk (nI M) ro R' s')) ∨ ((¬ ∀ j, j < M → 0 ≤ dot (QR R0 j) (VR R0 a)) ∧ ru 44 2 [some (.ref 239), some (.int (nI a)), some (.int (nI t)), some (.int (nI m))] [] (hK h jt mb hi wi rk (nI M) ro R s) = some (none, hK h jt mb hi wi rk (nI M) ro R' s'))) := by
  intro r
  induction r with
  | zero =>
    intro m R s hm k1 k2
    have : m = M := by omega
    subst this
    refine ⟨R, s, k2, Or.inl ⟨k1, ?_⟩⟩
    rw [H44_2]
    simp only [S44, gFs, pFs, okq, bls, bo_true, eUp_at, eUp_eUp, eKls, cl_some, Option.toList_some, Option.toList_none, List.cons_append, List.nil_append, hK_o]
    rw [if_pos (nI_le (Nat.le_refl _) (by omega))]
  | succ r ih =>
    intro m R s hm k1 k2
    have hmM : m < M := by omega
    have q1 : ∀ i, i < 3 → VR R (340 + 3 * m) i = QR R0 m i := k2.vr (fun i hi => by omega)
    have q2 : ∀ i, i < 3 → VR R a i = VR R0 a i := k2.vr (fun i hi => by omega)
    obtain ⟨R1, s1, e1, k3⟩ := m43 (h := h) (jt := jt) (mb := mb) (hi := hi) (wi := wi) (rk := rk) (co := nI M) (ro := ro) (s := s) (R := R) (m := m) (a := a) (A := A) (B := B) (by omega) (by omega) (fun i hi' => by rw [q1 i hi']; exact bA m hmM i hi') (fun i hi' => by rw [q2 i hi']; exact bB i hi') hB hA1 hB1
    rw [dot_cg q1 q2] at e1
    by_cases q : 0 ≤ dot (QR R0 m) (VR R0 a)
    · obtain ⟨R', s', w1, w2⟩ := ih (m + 1) R1 s1 (by omega) (fun j hj => by
        by_cases qj : j = m
        · rw [qj]; exact q
        · exact k1 j (by omega)) (k2.trans k3)
      have st : ru 44 2 [some (.ref 239), some (.int (nI a)), some (.int (nI t)), some (.int (nI m))] [] (hK h jt mb hi wi rk (nI M) ro R s) = ru 44 2 [some (.ref 239), some (.int (nI a)), some (.int (nI t)), some (.int (nI (m + 1)))] [] (hK h jt mb hi wi rk (nI M) ro R1 s1) := by
        rw [H44_2]
        simp only [S44, gFs, pFs, okq, bls, bo_true, eUp_at, eUp_eUp, eKls, cl_some, Option.toList_some, Option.toList_none, List.cons_append, List.nil_append, hK_o, e1]
        rw [if_neg (nI_ge hmM (by omega)), if_pos (sgn_lt.2.2.mpr q), nI_1]
      rw [st]
      exact ⟨R', s', w1, w2⟩
    · refine ⟨R1, s1, k2.trans k3, Or.inr ⟨fun e => q (e m hmM), ?_⟩⟩
      rw [H44_2]
      simp only [S44, gFs, pFs, okq, bls, bo_true, eUp_at, eUp_eUp, eKls, cl_some, Option.toList_some, Option.toList_none, List.cons_append, List.nil_append, hK_o, e1]
      rw [if_neg (nI_ge hmM (by omega)), if_neg (fun e => q (sgn_lt.2.2.mp e))]
theorem m44_add {a t B C : Nat} {R0 : Nat → Int} {co : Int32} (ha : 381 < a ∧ a + 2 < 412) (ht : 381 < t ∧ t + 2 < 412) (hat : a + 2 < t ∨ t + 2 < a) (bB : bq B (VR R0 a)) (bC : bq C (VR R0 t)) (hB : B < BB ^ 23) (hC : C < BB ^ 23) : ∀ r i (R : Nat → Int) (s : SC), i + r = 3 → (∀ j, j < 3 → R (t + j) = if j < i then R0 (t + j) + R0 (a + j) else R0 (t + j)) → Kr (fun k => t ≤ k ∧ k < t + 3) R0 R → ∃ (R' : Nat → Int), ru 44 28 [some (.ref 239), some (.int (nI a)), some (.int (nI t)), some (.int (nI i))] [] (hK h jt mb hi wi rk co ro R s) = some (none, hK h jt mb hi wi rk co ro R' s) ∧ (∀ j, j < 3 → R' (t + j) = R0 (t + j) + R0 (a + j)) ∧ Kr (fun k => t ≤ k ∧ k < t + 3) R0 R' := by
  intro r
  induction r with
  | zero =>
    intro i R s hi' k1 k2
    have : i = 3 := by omega
    subst this
    refine ⟨R, ?_, fun j hj => by rw [k1 j hj, if_pos hj], k2⟩
    rw [H44_28]
    simp only [S44, gFs, pFs, okq, bls, bo_true, eUp_at, eUp_eUp, eKls, cl_some, Option.toList_some, Option.toList_none, List.cons_append, List.nil_append]
    rw [if_pos (by decide)]
  | succ r ih =>
    intro i R s hi' k1 k2
    have hi3 : i < 3 := by omega
    have rt := k1 i hi3
    rw [if_neg (Nat.lt_irrefl _)] at rt
    have ra : R (a + i) = R0 (a + i) := k2 (a + i) (by omega)
    have e1 := m15 (h := h) (jt := jt) (mb := mb) (hi := hi) (wi := wi) (rk := rk) (co := co) (ro := ro) (s := s) (R := R) (t := 1) (a := t + i) (b := a + i) (by omega) (by omega) (by omega) (by rw [rt]; exact n23_le (bC i hi3) hC) (by rw [ra]; exact n23_le (bB i hi3) hB) (by decide)
    rw [rt, ra, Int.mul_one] at e1
    obtain ⟨R', z1, z2⟩ := ih (i + 1) (ur R (t + i) (R0 (t + i) + R0 (a + i))) s (by omega) (fun j hj => by
      by_cases q : j = i
      · rw [q, ur_at, if_pos (Nat.lt_succ_self _)]
      · rw [ur_ne (by omega), k1 j hj]
        by_cases q2 : j < i
        · rw [if_pos q2, if_pos (by omega)]
        · rw [if_neg q2, if_neg (by omega)]) (k2.up' (by omega))
    refine ⟨R', ?_, z2⟩
    rw [← z1, H44_28]
    simp only [S44, gFs, pFs, okq, bls, bo_true, eUp_at, eUp_eUp, eKls, cl_some, Option.toList_some, Option.toList_none, List.cons_append, List.nil_append, nI_add]
    rw [if_neg (nI_ge hi3 (by decide))]
    simp only [S44, gFs, pFs, okq, bls, bo_true, eUp_at, eUp_eUp, eKls, cl_some, Option.toList_some, Option.toList_none, List.cons_append, List.nil_append, show (lN 1 : Int64) = lI 1 from rfl, e1]
    rw [nI_1]
end CN1
