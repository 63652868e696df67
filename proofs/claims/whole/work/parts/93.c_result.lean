/-! THE REFERENCE: result: halving finds the greatest common part -/
theorem two_coprime {Y : Nat} (h : ¬ Y % 2 = 0) : Nat.Coprime 2 Y := by
  unfold Nat.Coprime
  rw [Nat.gcd_rec, show Y % 2 = 1 by omega]
  rfl
theorem gcd_halfL {X Y : Nat} (hX : X % 2 = 0) (hg : ¬ Nat.gcd X Y % 2 = 0) : Nat.gcd (X / 2) Y = Nat.gcd X Y := by
  have hY : ¬ Y % 2 = 0 := fun e => hg (Nat.mod_eq_zero_of_dvd (Nat.dvd_gcd (Nat.dvd_of_mod_eq_zero hX) (Nat.dvd_of_mod_eq_zero e)))
  have h2 := Nat.Coprime.gcd_mul_left_cancel (X / 2) (two_coprime hY)
  rw [show 2 * (X / 2) = X by omega] at h2
  exact h2.symm
theorem gcd_halfR {X Y : Nat} (hY : Y % 2 = 0) (hg : ¬ Nat.gcd X Y % 2 = 0) : Nat.gcd X (Y / 2) = Nat.gcd X Y := by
  rw [Nat.gcd_comm X Y] at hg ⊢
  rw [Nat.gcd_comm, gcd_halfL hY hg]
theorem pow2_lt {s : Nat} (h : 2 ^ s < BB ^ 23) : s < 700 := by
  by_cases c : s < 700
  · exact c
  · have h1 : 2 ^ 700 ≤ 2 ^ s := Nat.pow_le_pow_right (by decide) (by omega)
    have h2 : BB ^ 23 < 2 ^ 700 := by unfold BB; decide +kernel
    exact absurd (Nat.lt_of_lt_of_le h2 h1) (Nat.not_lt.mpr (Nat.le_of_lt h))
theorem n23_nat {m : Nat} (h : m < BB ^ 23) : n23 (m : Int) := by
  unfold n23
  rw [Int.natAbs_natCast]
  exact h
theorem n23_neg {u : Int} (h : n23 u) : n23 (-u) := by
  unfold n23 at *
  rw [Int.natAbs_neg]
  exact h
/-- registers outside P are kept -/
def Kr (P : Nat → Prop) (R R' : Nat → Int) : Prop := ∀ c, ¬ P c → R' c = R c
theorem Kr.refl (P : Nat → Prop) (R : Nat → Int) : Kr P R R := fun _ _ => rfl
theorem Kr.trans {P : Nat → Prop} {R R' R'' : Nat → Int} (x : Kr P R R') (y : Kr P R' R'') : Kr P R R'' := fun c hc => (y c hc).trans (x c hc)
theorem Kr.mono {P Q : Nat → Prop} {R R' : Nat → Int} (x : Kr P R R') (h : ∀ c, P c → Q c) : Kr Q R R' := fun c hc => x c (fun e => hc (h c e))
theorem Kr.up {P : Nat → Prop} (R : Nat → Int) {a : Nat} (v : Int) (h : P a) : Kr P R (ur R a v) := fun c hc => ur_ne (fun e => hc (by rw [e]; exact h))
theorem Kr.up' {P : Nat → Prop} {R R' : Nat → Int} {a : Nat} {v : Int} (x : Kr P R R') (h : P a) : Kr P R (ur R' a v) := x.trans (Kr.up R' v h)
section RE2
variable {h : eH} {jt mb hi wi rk co : Int32} {ro : Nat → Int32} {s : SC} {a b : Nat} {e3 : Int32}
theorem m38_p1 {U V : Nat} (hU : U < BB ^ 23) (hV : V < BB ^ 23) (U0 : 0 < U) : ∀ N k X Y (R : Nat → Int), X ≤ N → U = 2 ^ k * X → V = 2 ^ k * Y → R 2 = (X : Nat) → R 3 = (Y : Nat) → ∃ (k' X' Y' : Nat) (R' : Nat → Int), ru 38 87 [some (.ref 239), some (.int (nI a)), some (.int (nI b)), some (.int e3), some (.int (nI k)), none] [] (hK h jt mb hi wi rk co ro R s) = ru 38 119 [some (.ref 239), some (.int (nI a)), some (.int (nI b)), some (.int e3), some (.int (nI k')), none] [] (hK h jt mb hi wi rk co ro R' s) ∧ U = 2 ^ k' * X' ∧ V = 2 ^ k' * Y' ∧ R' 2 = (X' : Nat) ∧ R' 3 = (Y' : Nat) ∧ ¬ (X' % 2 = 0 ∧ Y' % 2 = 0) ∧ Kr (fun c => c = 2 ∨ c = 3) R R' := by
  intro N
  induction N with
  | zero =>
    intro k X Y R hX h1
    have : X = 0 := by omega
    rw [this, Nat.mul_zero] at h1
    omega
  | succ N ih =>
    intro k X Y R hX h1 h2 r2 r3
    have p2 : 0 < 2 ^ k := Nat.pow_pos (by decide)
    have hXb : X < BB ^ 23 := Nat.lt_of_le_of_lt (by rw [h1]; exact Nat.le_mul_of_pos_left _ p2) hU
    have hYb : Y < BB ^ 23 := Nat.lt_of_le_of_lt (by rw [h2]; exact Nat.le_mul_of_pos_left _ p2) hV
    have X0 : 0 < X := by
      by_cases c : X = 0
      · rw [c, Nat.mul_zero] at h1; omega
      · omega
    have e1 := m35 (h := h) (jt := jt) (mb := mb) (hi := hi) (wi := wi) (rk := rk) (co := co) (ro := ro) (s := s) (show 2 < 412 by decide) hXb r2
    have e2 := m35 (h := h) (jt := jt) (mb := mb) (hi := hi) (wi := wi) (rk := rk) (co := co) (ro := ro) (s := s) (show 3 < 412 by decide) hYb r3
    by_cases q1 : X % 2 = 0
    · rw [decide_eq_true q1] at e1
      by_cases q2 : Y % 2 = 0
      · rw [decide_eq_true q2] at e2
        have e3' := m36 (h := h) (jt := jt) (mb := mb) (hi := hi) (wi := wi) (rk := rk) (co := co) (ro := ro) (s := s) (show 2 < 412 by decide) hXb r2
        have e4' := m36 (h := h) (jt := jt) (mb := mb) (hi := hi) (wi := wi) (rk := rk) (co := co) (ro := ro) (s := s) (R := ur R 2 ((X / 2 : Nat) : Int)) (show 3 < 412 by decide) hYb (by rw [ur_ne (by decide)]; exact r3)
        have a1 : U = 2 ^ (k + 1) * (X / 2) := by
          rw [Nat.pow_succ, Nat.mul_assoc, show 2 * (X / 2) = X by omega]
          exact h1
        have a2 : V = 2 ^ (k + 1) * (Y / 2) := by
          rw [Nat.pow_succ, Nat.mul_assoc, show 2 * (Y / 2) = Y by omega]
          exact h2
        obtain ⟨k', X', Y', R', z1, z2, z3, z4, z5, z6, z7⟩ := ih (k + 1) (X / 2) (Y / 2) (ur (ur R 2 ((X / 2 : Nat) : Int)) 3 ((Y / 2 : Nat) : Int)) (by omega) a1 a2 (by rw [ur_ne (by decide), ur_at]) (by rw [ur_at])
        refine ⟨k', X', Y', R', ?_, z2, z3, z4, z5, z6, ?_⟩
        · rw [← z1, H38_87]
          simp only [S38, gFs, pFs, okq, bls, bo_true, eUp_at, eUp_eUp, eKls, cl_some, Option.toList_some, Option.toList_none, List.cons_append, List.nil_append, e1]
          rw [if_neg (show ¬ ldI true = 0 by decide)]
          simp only [S38, gFs, pFs, okq, bls, bo_true, eUp_at, eUp_eUp, eKls, cl_some, Option.toList_some, Option.toList_none, List.cons_append, List.nil_append, e2]
          rw [if_neg (show ¬ ldI true = 0 by decide)]
          simp only [S38, gFs, pFs, okq, bls, bo_true, eUp_at, eUp_eUp, eKls, cl_some, Option.toList_some, Option.toList_none, List.cons_append, List.nil_append, e3', e4']
          rw [nI_1]
        · exact Kr.trans (Kr.up _ _ (Or.inl rfl)) (Kr.trans (Kr.up _ _ (Or.inr rfl)) z7)
      · rw [decide_eq_false q2] at e2
        refine ⟨k, X, Y, R, ?_, h1, h2, r2, r3, fun e => q2 e.2, Kr.refl _ _⟩
        rw [H38_87]
        simp only [S38, gFs, pFs, okq, bls, bo_true, eUp_at, eUp_eUp, eKls, cl_some, Option.toList_some, Option.toList_none, List.cons_append, List.nil_append, e1]
        rw [if_neg (show ¬ ldI true = 0 by decide)]
        simp only [S38, gFs, pFs, okq, bls, bo_true, eUp_at, eUp_eUp, eKls, cl_some, Option.toList_some, Option.toList_none, List.cons_append, List.nil_append, e2]
        rw [if_pos (show ldI false = 0 by decide)]
    · rw [decide_eq_false q1] at e1
      refine ⟨k, X, Y, R, ?_, h1, h2, r2, r3, fun e => q1 e.1, Kr.refl _ _⟩
      rw [H38_87]
      simp only [S38, gFs, pFs, okq, bls, bo_true, eUp_at, eUp_eUp, eKls, cl_some, Option.toList_some, Option.toList_none, List.cons_append, List.nil_append, e1]
      rw [if_pos (show ldI false = 0 by decide)]
theorem m38_h2 {x4 x5 : Option Value} : ∀ N X Y (R : Nat → Int), X ≤ N → 0 < X → X < BB ^ 23 → ¬ Nat.gcd X Y % 2 = 0 → R 2 = (X : Nat) → R 3 = (Y : Nat) → ∃ (X' : Nat) (R' : Nat → Int), ru 38 127 [some (.ref 239), some (.int (nI a)), some (.int (nI b)), some (.int e3), x4, x5] [] (hK h jt mb hi wi rk co ro R s) = ru 38 143 [some (.ref 239), some (.int (nI a)), some (.int (nI b)), some (.int e3), x4, x5] [] (hK h jt mb hi wi rk co ro R' s) ∧ X' ≤ X ∧ 0 < X' ∧ ¬ X' % 2 = 0 ∧ Nat.gcd X' Y = Nat.gcd X Y ∧ R' 2 = (X' : Nat) ∧ R' 3 = (Y : Nat) ∧ Kr (fun c => c = 2 ∨ c = 3) R R' := by
  intro N
  induction N with
  | zero => intro X Y R h1 h2; omega
  | succ N ih =>
    intro X Y R h1 h2 hb hg r2 r3
    have e1 := m35 (h := h) (jt := jt) (mb := mb) (hi := hi) (wi := wi) (rk := rk) (co := co) (ro := ro) (s := s) (show 2 < 412 by decide) hb r2
    by_cases q1 : X % 2 = 0
    · rw [decide_eq_true q1] at e1
      have e2 := m36 (h := h) (jt := jt) (mb := mb) (hi := hi) (wi := wi) (rk := rk) (co := co) (ro := ro) (s := s) (show 2 < 412 by decide) hb r2
      have g1 := gcd_halfL q1 hg
      obtain ⟨X', R', z1, z2, z3, z4, z5, z6, z7, z8⟩ := ih (X / 2) Y (ur R 2 ((X / 2 : Nat) : Int)) (by omega) (by omega) (by omega) (by rw [g1]; exact hg) (by rw [ur_at]) (by rw [ur_ne (by decide)]; exact r3)
      refine ⟨X', R', ?_, by omega, z3, z4, z5.trans g1, z6, z7, Kr.trans (Kr.up _ _ (Or.inl rfl)) z8⟩
      rw [← z1, H38_127]
      simp only [S38, gFs, pFs, okq, bls, bo_true, eUp_at, eUp_eUp, eKls, cl_some, Option.toList_some, Option.toList_none, List.cons_append, List.nil_append, e1]
      rw [if_neg (show ¬ ldI true = 0 by decide)]
      simp only [S38, gFs, pFs, okq, bls, bo_true, eUp_at, eUp_eUp, eKls, cl_some, Option.toList_some, Option.toList_none, List.cons_append, List.nil_append, e2]
    · rw [decide_eq_false q1] at e1
      refine ⟨X, R, ?_, Nat.le_refl _, h2, q1, rfl, r2, r3, Kr.refl _ _⟩
      rw [H38_127]
      simp only [S38, gFs, pFs, okq, bls, bo_true, eUp_at, eUp_eUp, eKls, cl_some, Option.toList_some, Option.toList_none, List.cons_append, List.nil_append, e1]
      rw [if_pos (show ldI false = 0 by decide)]
theorem m38_h3 {x4 x5 : Option Value} : ∀ N X Y (R : Nat → Int), Y ≤ N → 0 < Y → Y < BB ^ 23 → ¬ Nat.gcd X Y % 2 = 0 → R 2 = (X : Nat) → R 3 = (Y : Nat) → ∃ (Y' : Nat) (R' : Nat → Int), ru 38 143 [some (.ref 239), some (.int (nI a)), some (.int (nI b)), some (.int e3), x4, x5] [] (hK h jt mb hi wi rk co ro R s) = ru 38 159 [some (.ref 239), some (.int (nI a)), some (.int (nI b)), some (.int e3), x4, x5] [] (hK h jt mb hi wi rk co ro R' s) ∧ Y' ≤ Y ∧ 0 < Y' ∧ ¬ Y' % 2 = 0 ∧ Nat.gcd X Y' = Nat.gcd X Y ∧ R' 2 = (X : Nat) ∧ R' 3 = (Y' : Nat) ∧ Kr (fun c => c = 2 ∨ c = 3) R R' := by
  intro N
  induction N with
  | zero => intro X Y R h1 h2; omega
  | succ N ih =>
    intro X Y R h1 h2 hb hg r2 r3
    have e1 := m35 (h := h) (jt := jt) (mb := mb) (hi := hi) (wi := wi) (rk := rk) (co := co) (ro := ro) (s := s) (show 3 < 412 by decide) hb r3
    by_cases q1 : Y % 2 = 0
    · rw [decide_eq_true q1] at e1
      have e2 := m36 (h := h) (jt := jt) (mb := mb) (hi := hi) (wi := wi) (rk := rk) (co := co) (ro := ro) (s := s) (show 3 < 412 by decide) hb r3
      have g1 := gcd_halfR q1 hg
      obtain ⟨X', R', z1, z2, z3, z4, z5, z6, z7, z8⟩ := ih X (Y / 2) (ur R 3 ((Y / 2 : Nat) : Int)) (by omega) (by omega) (by omega) (by rw [g1]; exact hg) (by rw [ur_ne (by decide)]; exact r2) (by rw [ur_at])
      refine ⟨X', R', ?_, by omega, z3, z4, z5.trans g1, z6, z7, Kr.trans (Kr.up _ _ (Or.inr rfl)) z8⟩
      rw [← z1, H38_143]
      simp only [S38, gFs, pFs, okq, bls, bo_true, eUp_at, eUp_eUp, eKls, cl_some, Option.toList_some, Option.toList_none, List.cons_append, List.nil_append, e1]
      rw [if_neg (show ¬ ldI true = 0 by decide)]
      simp only [S38, gFs, pFs, okq, bls, bo_true, eUp_at, eUp_eUp, eKls, cl_some, Option.toList_some, Option.toList_none, List.cons_append, List.nil_append, e2]
    · rw [decide_eq_false q1] at e1
      refine ⟨Y, R, ?_, Nat.le_refl _, h2, q1, rfl, r2, r3, Kr.refl _ _⟩
      rw [H38_143]
      simp only [S38, gFs, pFs, okq, bls, bo_true, eUp_at, eUp_eUp, eKls, cl_some, Option.toList_some, Option.toList_none, List.cons_append, List.nil_append, e1]
      rw [if_pos (show ldI false = 0 by decide)]
theorem m38_p2 {x4 x5 : Option Value} : ∀ N X Y (R : Nat → Int), X + Y ≤ N → 0 < Y → X < BB ^ 23 → Y < BB ^ 23 → ¬ Nat.gcd X Y % 2 = 0 → R 2 = (X : Nat) → R 3 = (Y : Nat) → ∃ (R' : Nat → Int), ru 38 119 [some (.ref 239), some (.int (nI a)), some (.int (nI b)), some (.int e3), x4, x5] [] (hK h jt mb hi wi rk co ro R s) = ru 38 192 [some (.ref 239), some (.int (nI a)), some (.int (nI b)), some (.int e3), x4, x5] [] (hK h jt mb hi wi rk co ro R' s) ∧ R' 3 = (Nat.gcd X Y : Nat) ∧ Kr (fun c => c = 2 ∨ c = 3) R R' := by
  intro N
  induction N with
  | zero => intro X Y R h1 h2; omega
  | succ N ih =>
    intro X Y R h1 h2 bX bY hg r2 r3
    have e1 := m25 (h := h) (jt := jt) (mb := mb) (hi := hi) (wi := wi) (rk := rk) (co := co) (ro := ro) (s := s) (R := R) (show 2 < 412 by decide) (by rw [r2]; exact n23_nat bX)
    rw [r2] at e1
    by_cases q0 : X = 0
    · subst q0
      rw [decide_eq_true (show (((0 : Nat) : Int) = 0) from rfl)] at e1
      refine ⟨R, ?_, by rw [Nat.gcd_zero_left]; exact r3, Kr.refl _ _⟩
      rw [H38_119]
      simp only [S38, gFs, pFs, okq, bls, bo_true, eUp_at, eUp_eUp, eKls, cl_some, Option.toList_some, Option.toList_none, List.cons_append, List.nil_append, e1]
      rw [if_neg (show ¬ ldI true = 0 by decide)]
    · rw [decide_eq_false (show ¬ ((X : Nat) : Int) = 0 by omega)] at e1
      obtain ⟨X', R1, z1, z2, z3, z4, z5, z6, z7, z8⟩ := m38_h2 (h := h) (jt := jt) (mb := mb) (hi := hi) (wi := wi) (rk := rk) (co := co) (ro := ro) (s := s) (a := a) (b := b) (e3 := e3) (x4 := x4) (x5 := x5) X X Y R (Nat.le_refl _) (by omega) bX hg r2 r3
      rw [← z5] at hg
      obtain ⟨Y', R2, y1, y2, y3, y4, y5, y6, y7, y8⟩ := m38_h3 (h := h) (jt := jt) (mb := mb) (hi := hi) (wi := wi) (rk := rk) (co := co) (ro := ro) (s := s) (a := a) (b := b) (e3 := e3) (x4 := x4) (x5 := x5) Y X' Y R1 (Nat.le_refl _) h2 bY hg z6 z7
      rw [← y5] at hg
      have bX' : X' < BB ^ 23 := Nat.lt_of_le_of_lt z2 bX
      have bY' : Y' < BB ^ 23 := Nat.lt_of_le_of_lt y2 bY
      have nX : n23 (R2 2) := by rw [y6]; exact n23_nat bX'
      have nY : n23 (R2 3) := by rw [y7]; exact n23_nat bY'
      have e2 := m37 (h := h) (jt := jt) (mb := mb) (hi := hi) (wi := wi) (rk := rk) (co := co) (ro := ro) (s := s) (show 2 < 412 by decide) (show 3 < 412 by decide) bX' bY' y6 y7
      by_cases q : X' < Y'
      · rw [decide_eq_true q] at e2
        have e3' := m15 (h := h) (jt := jt) (mb := mb) (hi := hi) (wi := wi) (rk := rk) (co := co) (ro := ro) (s := s) (t := -1) (show 3 < 412 by decide) (show 2 < 412 by decide) (by decide) nY nX (by decide)
        rw [y6, y7, show (Y' : Int) + (X' : Int) * -1 = ((Y' - X' : Nat) : Int) by omega] at e3'
        have gg : Nat.gcd X' (Y' - X') = Nat.gcd X' Y' := Nat.gcd_sub_self_right (Nat.le_of_lt q)
        obtain ⟨R', w1, w2, w3⟩ := ih X' (Y' - X') (ur R2 3 ((Y' - X' : Nat) : Int)) (by omega) (by omega) bX' (by omega) (by rw [gg]; exact hg) (by rw [ur_ne (by decide)]; exact y6) (by rw [ur_at])
        refine ⟨R', ?_, by rw [← z5, ← y5, ← gg]; exact w2, Kr.trans z8 (Kr.trans y8 (Kr.trans (Kr.up _ _ (Or.inr rfl)) w3))⟩
        rw [← w1, H38_119]
        simp only [S38, gFs, pFs, okq, bls, bo_true, eUp_at, eUp_eUp, eKls, cl_some, Option.toList_some, Option.toList_none, List.cons_append, List.nil_append, e1]
        rw [if_pos (show ldI false = 0 by decide), z1, y1, H38_159]
        simp only [S38, gFs, pFs, okq, bls, bo_true, eUp_at, eUp_eUp, eKls, cl_some, Option.toList_some, Option.toList_none, List.cons_append, List.nil_append, e2]
        rw [if_neg (show ¬ ldI true = 0 by decide)]
        simp only [S38, gFs, pFs, okq, bls, bo_true, eUp_at, eUp_eUp, eKls, cl_some, Option.toList_some, Option.toList_none, List.cons_append, List.nil_append, show (-lN 1 : Int64) = lI (-1) from rfl, e3']
      · rw [decide_eq_false q] at e2
        have e3' := m15 (h := h) (jt := jt) (mb := mb) (hi := hi) (wi := wi) (rk := rk) (co := co) (ro := ro) (s := s) (t := -1) (show 2 < 412 by decide) (show 3 < 412 by decide) (by decide) nX nY (by decide)
        rw [y6, y7, show (X' : Int) + (Y' : Int) * -1 = ((X' - Y' : Nat) : Int) by omega] at e3'
        have gg : Nat.gcd (X' - Y') Y' = Nat.gcd X' Y' := Nat.gcd_sub_self_left (by omega)
        obtain ⟨R', w1, w2, w3⟩ := ih (X' - Y') Y' (ur R2 2 ((X' - Y' : Nat) : Int)) (by omega) (by omega) (by omega) bY' (by rw [gg]; exact hg) (by rw [ur_at]) (by rw [ur_ne (by decide)]; exact y7)
        refine ⟨R', ?_, by rw [← z5, ← y5, ← gg]; exact w2, Kr.trans z8 (Kr.trans y8 (Kr.trans (Kr.up _ _ (Or.inl rfl)) w3))⟩
        rw [← w1, H38_119]
        simp only [S38, gFs, pFs, okq, bls, bo_true, eUp_at, eUp_eUp, eKls, cl_some, Option.toList_some, Option.toList_none, List.cons_append, List.nil_append, e1]
        rw [if_pos (show ldI false = 0 by decide), z1, y1, H38_159]
        simp only [S38, gFs, pFs, okq, bls, bo_true, eUp_at, eUp_eUp, eKls, cl_some, Option.toList_some, Option.toList_none, List.cons_append, List.nil_append, e2]
        rw [if_pos (show ldI false = 0 by decide)]
        simp only [S38, gFs, pFs, okq, bls, bo_true, eUp_at, eUp_eUp, eKls, cl_some, Option.toList_some, Option.toList_none, List.cons_append, List.nil_append, show (-lN 1 : Int64) = lI (-1) from rfl, e3']
theorem m38_p3 {k G : Nat} (hG : 2 ^ k * G < BB ^ 23) (hs : k < 700) : ∀ r j (R : Nat → Int), j + r = k → R 3 = ((2 ^ j * G : Nat) : Int) → ∃ (R' : Nat → Int), ru 38 195 [some (.ref 239), some (.int (nI a)), some (.int (nI b)), some (.int e3), some (.int (nI k)), some (.int (nI j))] [] (hK h jt mb hi wi rk co ro R s) = ru 38 221 [some (.ref 239), some (.int (nI a)), some (.int (nI b)), some (.int e3), some (.int (nI k)), some (.int (nI k))] [] (hK h jt mb hi wi rk co ro R' s) ∧ R' 3 = ((2 ^ k * G : Nat) : Int) ∧ Kr (fun c => c = 3 ∨ c = 4) R R' := by
  intro r
  induction r with
  | zero =>
    intro j R hj r3
    have : j = k := by omega
    subst this
    refine ⟨R, ?_, r3, Kr.refl _ _⟩
    rw [H38_195]
    simp only [S38, gFs, pFs, okq, bls, bo_true, eUp_at, eUp_eUp, eKls, cl_some, Option.toList_some, Option.toList_none, List.cons_append, List.nil_append]
    rw [if_pos (nI_le (Nat.le_refl _) (by omega))]
  | succ r ih =>
    intro j R hj r3
    have hp : 2 ^ j * G ≤ 2 ^ k * G := Nat.mul_le_mul_right _ (Nat.pow_le_pow_right (by decide) (by omega))
    have b1 : n23 ((2 ^ j * G : Nat) : Int) := n23_nat (Nat.lt_of_le_of_lt hp hG)
    have e1 := m20 (h := h) (jt := jt) (mb := mb) (hi := hi) (wi := wi) (rk := rk) (co := co) (ro := ro) (s := s) (R := R) (show 4 < 412 by decide) (show 3 < 412 by decide) (by decide)
    have e2 := m15 (h := h) (jt := jt) (mb := mb) (hi := hi) (wi := wi) (rk := rk) (co := co) (ro := ro) (s := s) (R := ur R 4 (R 3)) (t := 1) (show 3 < 412 by decide) (show 4 < 412 by decide) (by decide) (by rw [ur_ne (by decide), r3]; exact b1) (by rw [ur_at, r3]; exact b1) (by decide)
    have e3 : ((2 ^ j * G : Nat) : Int) + ((2 ^ j * G : Nat) : Int) * 1 = ((2 ^ (j + 1) * G : Nat) : Int) := by
      rw [Nat.pow_succ, Nat.mul_assoc, Nat.mul_comm 2 G, ← Nat.mul_assoc]
      omega
    rw [ur_at, ur_ne (show (3 : Nat) ≠ 4 by decide), r3, e3] at e2
    rw [r3] at e1
    obtain ⟨R', z1, z2, z3⟩ := ih (j + 1) (ur (ur R 4 ((2 ^ j * G : Nat) : Int)) 3 ((2 ^ (j + 1) * G : Nat) : Int)) (by omega) (by rw [ur_at])
    refine ⟨R', ?_, z2, Kr.trans (Kr.up _ _ (Or.inr rfl)) (Kr.trans (Kr.up _ _ (Or.inl rfl)) z3)⟩
    rw [← z1, H38_195]
    simp only [S38, gFs, pFs, okq, bls, bo_true, eUp_at, eUp_eUp, eKls, cl_some, Option.toList_some, Option.toList_none, List.cons_append, List.nil_append]
    rw [if_neg (nI_ge (by omega) (by omega))]
    simp only [S38, gFs, pFs, okq, bls, bo_true, eUp_at, eUp_eUp, eKls, cl_some, Option.toList_some, Option.toList_none, List.cons_append, List.nil_append, e1, show (lN 1 : Int64) = lI 1 from rfl, e2]
    rw [nI_1]
end RE2
