/-! THE REFERENCE: result, whole -/
section RE3
variable {h : eH} {jt mb hi wi rk co : Int32} {ro : Nat → Int32} {s : SC} {a b : Nat} {R : Nat → Int}
theorem m38_fin {U V : Nat} (hU : U < BB ^ 23) (hV : V < BB ^ 23) (V0 : 0 < V) {bl : Bool} (r0 : R 0 = (U : Nat)) (r1 : R 1 = (V : Nat)) : ∃ R' s', ru 38 57 [some (.ref 239), some (.int (nI a)), some (.int (nI b)), some (.int (ldI bl)), none, none] [] (hK h jt mb hi wi rk co ro R s) = some (none, hK h jt mb hi wi rk co ro R' s') ∧ R' 0 = (if bl = true then - ((U / Nat.gcd U V : Nat) : Int) else ((U / Nat.gcd U V : Nat) : Int)) ∧ R' 1 = ((V / Nat.gcd U V : Nat) : Int) ∧ Kr (fun c => c < 5) R R' := by
  have e0 := m25 (h := h) (jt := jt) (mb := mb) (hi := hi) (wi := wi) (rk := rk) (co := co) (ro := ro) (s := s) (R := R) (show 0 < 412 by decide) (by rw [r0]; exact n23_nat hU)
  rw [r0] at e0
  by_cases q0 : U = 0
  · subst q0
    rw [decide_eq_true (show (((0 : Nat) : Int) = 0) from rfl)] at e0
    have e1 := m12 (h := h) (jt := jt) (mb := mb) (hi := hi) (wi := wi) (rk := rk) (co := co) (ro := ro) (s := s) (R := R) (v := 1) (show 1 < 412 by decide) (by decide)
    refine ⟨ur R 1 1, s, ?_, ?_, ?_, Kr.up _ _ (by decide)⟩
    · simp only [S38, gFs, pFs, okq, bls, bo_true, eUp_at, eUp_eUp, eKls, cl_some, Option.toList_some, Option.toList_none, List.cons_append, List.nil_append, e0]
      rw [if_neg (show ¬ ldI true = 0 by decide)]
      simp only [S38, gFs, pFs, okq, bls, bo_true, eUp_at, eUp_eUp, eKls, cl_some, Option.toList_some, Option.toList_none, List.cons_append, List.nil_append, show (lN 1 : Int64) = lI 1 from rfl, e1]
    · rw [ur_ne (by decide), r0, Nat.zero_div]
      cases bl <;> rfl
    · rw [ur_at, Nat.gcd_zero_left, Nat.div_self V0]
      rfl
  · rw [decide_eq_false (show ¬ ((U : Nat) : Int) = 0 by omega)] at e0
    have e1 := m20 (h := h) (jt := jt) (mb := mb) (hi := hi) (wi := wi) (rk := rk) (co := co) (ro := ro) (s := s) (R := R) (show 2 < 412 by decide) (show 0 < 412 by decide) (by decide)
    have e2 := m20 (h := h) (jt := jt) (mb := mb) (hi := hi) (wi := wi) (rk := rk) (co := co) (ro := ro) (s := s) (R := ur R 2 (R 0)) (show 3 < 412 by decide) (show 1 < 412 by decide) (by decide)
    rw [ur_ne (show (1 : Nat) ≠ 2 by decide)] at e2
    obtain ⟨k, X, Y, R1, z1, z2, z3, z4, z5, z6, z7⟩ := m38_p1 (h := h) (jt := jt) (mb := mb) (hi := hi) (wi := wi) (rk := rk) (co := co) (ro := ro) (s := s) (a := a) (b := b) (e3 := ldI bl) hU hV (by omega) U 0 U V (ur (ur R 2 (R 0)) 3 (R 1)) (Nat.le_refl _) (by rw [Nat.pow_zero, Nat.one_mul]) (by rw [Nat.pow_zero, Nat.one_mul]) (by rw [ur_ne (by decide), ur_at, r0]) (by rw [ur_at, r1])
    have p2 : 0 < 2 ^ k := Nat.pow_pos (by decide)
    have hX : X < BB ^ 23 := Nat.lt_of_le_of_lt (by rw [z2]; exact Nat.le_mul_of_pos_left _ p2) hU
    have hY : Y < BB ^ 23 := Nat.lt_of_le_of_lt (by rw [z3]; exact Nat.le_mul_of_pos_left _ p2) hV
    have Y0 : 0 < Y := by
      by_cases c : Y = 0
      · rw [c, Nat.mul_zero] at z3; omega
      · omega
    have X0 : 0 < X := by
      by_cases c : X = 0
      · rw [c, Nat.mul_zero] at z2; omega
      · omega
    have hk : k < 700 := pow2_lt (Nat.lt_of_le_of_lt (by rw [z2]; exact Nat.le_mul_of_pos_right _ X0) hU)
    have hg : ¬ Nat.gcd X Y % 2 = 0 := fun e => z6 ⟨Nat.mod_eq_zero_of_dvd (Nat.dvd_trans (Nat.dvd_of_mod_eq_zero e) (Nat.gcd_dvd_left _ _)), Nat.mod_eq_zero_of_dvd (Nat.dvd_trans (Nat.dvd_of_mod_eq_zero e) (Nat.gcd_dvd_right _ _))⟩
    obtain ⟨R2, y1, y2, y3⟩ := m38_p2 (h := h) (jt := jt) (mb := mb) (hi := hi) (wi := wi) (rk := rk) (co := co) (ro := ro) (s := s) (a := a) (b := b) (e3 := ldI bl) (x4 := some (.int (nI k))) (x5 := none) (X + Y) X Y R1 (Nat.le_refl _) Y0 hX hY hg z4 z5
    have gU : 2 ^ k * Nat.gcd X Y = Nat.gcd U V := by rw [z2, z3, Nat.gcd_mul_left]
    have g0 : 0 < Nat.gcd U V := Nat.gcd_pos_of_pos_right _ V0
    have gB : Nat.gcd U V < BB ^ 23 := Nat.lt_of_le_of_lt (Nat.le_of_dvd V0 (Nat.gcd_dvd_right _ _)) hV
    obtain ⟨R3, w1, w2, w3⟩ := m38_p3 (h := h) (jt := jt) (mb := mb) (hi := hi) (wi := wi) (rk := rk) (co := co) (ro := ro) (s := s) (a := a) (b := b) (e3 := ldI bl) (k := k) (G := Nat.gcd X Y) (by rw [gU]; exact gB) hk k 0 R2 (by omega) (by rw [Nat.pow_zero, Nat.one_mul]; exact y2)
    rw [gU] at w2
    have kp : Kr (fun c => c = 2 ∨ c = 3 ∨ c = 4) R R3 := ((((Kr.refl _ R).up' (Or.inl rfl)).up' (Or.inr (Or.inl rfl))).trans (z7.mono (fun c e => by omega))).trans ((y3.mono (fun c e => by omega)).trans (w3.mono (fun c e => by omega)))
    have k0 : R3 0 = (U : Nat) := (kp 0 (by decide)).trans r0
    have k1 : R3 1 = (V : Nat) := (kp 1 (by decide)).trans r1
    have nz : R3 3 ≠ 0 := by rw [w2]; omega
    obtain ⟨s1, e4⟩ := m29 (h := h) (jt := jt) (mb := mb) (hi := hi) (wi := wi) (rk := rk) (co := co) (ro := ro) (s := s) (R := R3) (show 0 < 412 by decide) (show 3 < 412 by decide) (by rw [k0]; exact n23_nat hU) (by rw [w2]; exact n23_nat gB) nz
    rw [k0, w2, show ((U : Nat) : Int).tdiv ((Nat.gcd U V : Nat) : Int) = ((U / Nat.gcd U V : Nat) : Int) from rfl] at e4
    have f1 : ur R3 0 ((U / Nat.gcd U V : Nat) : Int) 1 = (V : Nat) := by rw [ur_ne (by decide)]; exact k1
    have f3 : ur R3 0 ((U / Nat.gcd U V : Nat) : Int) 3 = (Nat.gcd U V : Nat) := by rw [ur_ne (by decide)]; exact w2
    obtain ⟨s2, e5⟩ := m29 (h := h) (jt := jt) (mb := mb) (hi := hi) (wi := wi) (rk := rk) (co := co) (ro := ro) (s := s1) (R := ur R3 0 ((U / Nat.gcd U V : Nat) : Int)) (show 1 < 412 by decide) (show 3 < 412 by decide) (by rw [f1]; exact n23_nat hV) (by rw [f3]; exact n23_nat gB) (by rw [f3]; omega)
    rw [f1, f3, show ((V : Nat) : Int).tdiv ((Nat.gcd U V : Nat) : Int) = ((V / Nat.gcd U V : Nat) : Int) from rfl] at e5
    have kpf : Kr (fun c => c < 5) R (ur (ur R3 0 ((U / Nat.gcd U V : Nat) : Int)) 1 ((V / Nat.gcd U V : Nat) : Int)) := ((kp.mono (fun c e => by omega)).up' (by decide)).up' (by decide)
    have go : ru 38 57 [some (.ref 239), some (.int (nI a)), some (.int (nI b)), some (.int (ldI bl)), none, none] [] (hK h jt mb hi wi rk co ro R s) = (if ldI bl = 0 then some (none, hK h jt mb hi wi rk co ro (ur (ur R3 0 ((U / Nat.gcd U V : Nat) : Int)) 1 ((V / Nat.gcd U V : Nat) : Int)) s2) else ru 38 237 [some (.ref 239), some (.int (nI a)), some (.int (nI b)), some (.int (ldI bl)), some (.int (nI k)), some (.int (nI k))] [] (hK h jt mb hi wi rk co ro (ur (ur R3 0 ((U / Nat.gcd U V : Nat) : Int)) 1 ((V / Nat.gcd U V : Nat) : Int)) s2)) := by
      simp only [S38, gFs, pFs, okq, bls, bo_true, eUp_at, eUp_eUp, eKls, cl_some, Option.toList_some, Option.toList_none, List.cons_append, List.nil_append, e0]
      rw [if_pos (show ldI false = 0 by decide)]
      simp only [S38, gFs, pFs, okq, bls, bo_true, eUp_at, eUp_eUp, eKls, cl_some, Option.toList_some, Option.toList_none, List.cons_append, List.nil_append, e1, e2]
      rw [z1, y1, H38_192]
      simp only [S38, gFs, pFs, okq, bls, bo_true, eUp_at, eUp_eUp, eKls, cl_some, Option.toList_some, Option.toList_none, List.cons_append, List.nil_append]
      rw [w1, H38_221]
      simp only [S38, gFs, pFs, okq, bls, bo_true, eUp_at, eUp_eUp, eKls, cl_some, Option.toList_some, Option.toList_none, List.cons_append, List.nil_append, e4, e5]
    rw [go]
    cases bl with
    | false =>
      rw [if_pos (show ldI false = 0 by decide)]
      exact ⟨_, s2, rfl, by rw [ur_ne (by decide), ur_at]; rfl, by rw [ur_at], kpf⟩
    | true =>
      rw [if_neg (show ¬ ldI true = 0 by decide)]
      have f0 : ur (ur R3 0 ((U / Nat.gcd U V : Nat) : Int)) 1 ((V / Nat.gcd U V : Nat) : Int) 0 = ((U / Nat.gcd U V : Nat) : Int) := by rw [ur_ne (by decide), ur_at]
      have e6 := m18 (h := h) (jt := jt) (mb := mb) (hi := hi) (wi := wi) (rk := rk) (co := co) (ro := ro) (s := s2) (R := ur (ur R3 0 ((U / Nat.gcd U V : Nat) : Int)) 1 ((V / Nat.gcd U V : Nat) : Int)) (show 0 < 412 by decide) (by rw [f0]; exact n23_nat (Nat.lt_of_le_of_lt (Nat.div_le_self _ _) hU))
      rw [f0] at e6
      refine ⟨ur (ur (ur R3 0 ((U / Nat.gcd U V : Nat) : Int)) 1 ((V / Nat.gcd U V : Nat) : Int)) 0 (-((U / Nat.gcd U V : Nat) : Int)), s2, ?_, ?_, ?_, kpf.up' (by decide)⟩
      · simp only [S38, gFs, pFs, okq, bls, bo_true, eUp_at, eUp_eUp, eKls, cl_some, Option.toList_some, Option.toList_none, List.cons_append, List.nil_append, e6]
      · rw [ur_at]
        rfl
      · rw [ur_ne (by decide), ur_at]
theorem frac_eq {u v : Int} : frac u v = (if (decide (u < 0) = decide (v < 0)) then ((u.natAbs / Nat.gcd u.natAbs v.natAbs : Nat) : Int) else - ((u.natAbs / Nat.gcd u.natAbs v.natAbs : Nat) : Int), ((v.natAbs / Nat.gcd u.natAbs v.natAbs : Nat) : Int)) := by
  unfold frac
  refine Prod.ext ?_ rfl
  show (if v < 0 then -u else u).tdiv ((Nat.gcd u.natAbs v.natAbs : Nat) : Int) = _
  rw [tdiv_sgn]
  have hg : ¬ ((Nat.gcd u.natAbs v.natAbs : Nat) : Int) < 0 := by omega
  rw [decide_eq_false hg, Int.natAbs_natCast]
  by_cases q2 : v < 0
  · rw [if_pos q2, decide_eq_true q2, Int.natAbs_neg]
    by_cases q1 : u < 0
    · rw [decide_eq_true q1, decide_eq_false (show ¬ -u < 0 by omega)]
      rfl
    · by_cases q3 : u = 0
      · subst q3
        rw [Int.natAbs_zero, Nat.zero_div]
        split <;> split <;> rfl
      · rw [decide_eq_false q1, decide_eq_true (show -u < 0 by omega)]
        rfl
  · rw [if_neg q2, decide_eq_false q2]
theorem m38 (ha : 4 < a) (ha' : a < 412) (hb : 4 < b) (hb' : b < 412) (bu : n23 (R a)) (bv : n23 (R b)) (v0 : R b ≠ 0) : ∃ R' s', den 38 [.ref 239, .int (nI a), .int (nI b)] (hK h jt mb hi wi rk co ro R s) = some (none, hK h jt mb hi wi rk co ro R' s') ∧ R' 0 = (frac (R a) (R b)).1 ∧ R' 1 = (frac (R a) (R b)).2 ∧ Kr (fun c => c < 5) R R' := by
  have e1 := m17 (h := h) (jt := jt) (mb := mb) (hi := hi) (wi := wi) (rk := rk) (co := co) (ro := ro) (s := s) (R := R) ha' bu
  have e2 := m17 (h := h) (jt := jt) (mb := mb) (hi := hi) (wi := wi) (rk := rk) (co := co) (ro := ro) (s := s) (R := R) hb' bv
  have e3 := m20 (h := h) (jt := jt) (mb := mb) (hi := hi) (wi := wi) (rk := rk) (co := co) (ro := ro) (s := s) (R := R) (show 0 < 412 by decide) ha' (by omega)
  have e4 := m20 (h := h) (jt := jt) (mb := mb) (hi := hi) (wi := wi) (rk := rk) (co := co) (ro := ro) (s := s) (R := ur R 0 (R a)) (show 1 < 412 by decide) hb' (by omega)
  rw [ur_ne (show b ≠ 0 by omega)] at e4
  obtain ⟨u, hu⟩ : ∃ u, u = R a := ⟨_, rfl⟩
  obtain ⟨v, hv⟩ : ∃ v, v = R b := ⟨_, rfl⟩
  rw [← hu] at e1 e3 e4 bu ⊢
  rw [← hv] at e2 e4 bv v0 ⊢
  have e5 := m17 (h := h) (jt := jt) (mb := mb) (hi := hi) (wi := wi) (rk := rk) (co := co) (ro := ro) (s := s) (R := ur (ur R 0 u) 1 v) (show 0 < 412 by decide) (by rw [ur_ne (by decide), ur_at]; exact bu)
  rw [ur_ne (show (0 : Nat) ≠ 1 by decide), ur_at] at e5
  have fin : ∀ R3 : Nat → Int, R3 0 = (u.natAbs : Nat) → R3 1 = (v.natAbs : Nat) → Kr (fun c => c < 5) R R3 → ∃ R' s', ru 38 57 [some (.ref 239), some (.int (nI a)), some (.int (nI b)), some (.int (ldI (!(decide (decide (u < 0) = decide (v < 0)))))), none, none] [] (hK h jt mb hi wi rk co ro R3 s) = some (none, hK h jt mb hi wi rk co ro R' s') ∧ R' 0 = (frac u v).1 ∧ R' 1 = (frac u v).2 ∧ Kr (fun c => c < 5) R R' := by
    intro R3 r0 r1 k
    obtain ⟨R', s', z1, z2, z3, z4⟩ := m38_fin (h := h) (jt := jt) (mb := mb) (hi := hi) (wi := wi) (rk := rk) (co := co) (ro := ro) (s := s) (a := a) (b := b) (R := R3) (U := u.natAbs) (V := v.natAbs) (bl := !(decide (decide (u < 0) = decide (v < 0)))) bu bv (by omega) r0 r1
    refine ⟨R', s', z1, ?_, ?_, k.trans z4⟩
    · rw [z2, frac_eq]
      by_cases q : decide (u < 0) = decide (v < 0)
      · rw [decide_eq_true q, if_pos q]; rfl
      · rw [decide_eq_false q, if_neg q]; rfl
    · rw [z3, frac_eq]
  have mid : ∀ R2 : Nat → Int, R2 0 = (u.natAbs : Nat) → R2 1 = v → Kr (fun c => c < 5) R R2 → ∃ R' s', ru 38 44 [some (.ref 239), some (.int (nI a)), some (.int (nI b)), some (.int (ldI (!(decide (decide (u < 0) = decide (v < 0)))))), none, none] [] (hK h jt mb hi wi rk co ro R2 s) = some (none, hK h jt mb hi wi rk co ro R' s') ∧ R' 0 = (frac u v).1 ∧ R' 1 = (frac u v).2 ∧ Kr (fun c => c < 5) R R' := by
    intro R2 r0 r1 k
    have e6 := m17 (h := h) (jt := jt) (mb := mb) (hi := hi) (wi := wi) (rk := rk) (co := co) (ro := ro) (s := s) (R := R2) (show 1 < 412 by decide) (by rw [r1]; exact bv)
    rw [r1] at e6
    by_cases q : v < 0
    · rw [decide_eq_true q] at e6
      have e7 := m18 (h := h) (jt := jt) (mb := mb) (hi := hi) (wi := wi) (rk := rk) (co := co) (ro := ro) (s := s) (R := R2) (show 1 < 412 by decide) (by rw [r1]; exact bv)
      obtain ⟨R', s', z1, z2⟩ := fin (ur R2 1 (-(R2 1))) (by rw [ur_ne (by decide)]; exact r0) (by rw [ur_at, r1]; omega) (k.up' (by decide))
      refine ⟨R', s', ?_, z2⟩
      rw [← z1]
      simp only [S38, gFs, pFs, okq, bls, bo_true, eUp_at, eUp_eUp, eKls, cl_some, Option.toList_some, Option.toList_none, List.cons_append, List.nil_append, e6]
      rw [if_neg (show ¬ ldI true = 0 by decide)]
      simp only [S38, gFs, pFs, okq, bls, bo_true, eUp_at, eUp_eUp, eKls, cl_some, Option.toList_some, Option.toList_none, List.cons_append, List.nil_append, e7]
    · rw [decide_eq_false q] at e6
      obtain ⟨R', s', z1, z2⟩ := fin R2 r0 (by rw [r1]; omega) k
      refine ⟨R', s', ?_, z2⟩
      rw [← z1]
      simp only [S38, gFs, pFs, okq, bls, bo_true, eUp_at, eUp_eUp, eKls, cl_some, Option.toList_some, Option.toList_none, List.cons_append, List.nil_append, e6]
      rw [if_pos (show ldI false = 0 by decide)]
  have two : ∃ R' s', ru 38 31 [some (.ref 239), some (.int (nI a)), some (.int (nI b)), some (.int (ldI (!(decide (decide (u < 0) = decide (v < 0)))))), none, none] [] (hK h jt mb hi wi rk co ro (ur (ur R 0 u) 1 v) s) = some (none, hK h jt mb hi wi rk co ro R' s') ∧ R' 0 = (frac u v).1 ∧ R' 1 = (frac u v).2 ∧ Kr (fun c => c < 5) R R' := by
    have kk : Kr (fun c => c < 5) R (ur (ur R 0 u) 1 v) := ((Kr.refl _ R).up' (by decide)).up' (by decide)
    have f0 : ur (ur R 0 u) 1 v 0 = u := by rw [ur_ne (by decide), ur_at]
    by_cases q : u < 0
    · rw [decide_eq_true q] at e5
      have e7 := m18 (h := h) (jt := jt) (mb := mb) (hi := hi) (wi := wi) (rk := rk) (co := co) (ro := ro) (s := s) (R := ur (ur R 0 u) 1 v) (show 0 < 412 by decide) (by rw [f0]; exact bu)
      rw [f0] at e7
      obtain ⟨R', s', z1, z2⟩ := mid (ur (ur (ur R 0 u) 1 v) 0 (-u)) (by rw [ur_at]; omega) (by rw [ur_ne (by decide), ur_at]) (kk.up' (by decide))
      rw [decide_eq_true q] at z1 ⊢
      refine ⟨R', s', ?_, z2⟩
      rw [← z1]
      simp only [S38, gFs, pFs, okq, bls, bo_true, eUp_at, eUp_eUp, eKls, cl_some, Option.toList_some, Option.toList_none, List.cons_append, List.nil_append, e5]
      rw [if_neg (show ¬ ldI true = 0 by decide)]
      simp only [S38, gFs, pFs, okq, bls, bo_true, eUp_at, eUp_eUp, eKls, cl_some, Option.toList_some, Option.toList_none, List.cons_append, List.nil_append, e7]
    · rw [decide_eq_false q] at e5
      obtain ⟨R', s', z1, z2⟩ := mid (ur (ur R 0 u) 1 v) (by rw [f0]; omega) (by rw [ur_at]) kk
      rw [decide_eq_false q] at z1 ⊢
      refine ⟨R', s', ?_, z2⟩
      rw [← z1]
      simp only [S38, gFs, pFs, okq, bls, bo_true, eUp_at, eUp_eUp, eKls, cl_some, Option.toList_some, Option.toList_none, List.cons_append, List.nil_append, e5]
      rw [if_pos (show ldI false = 0 by decide)]
  obtain ⟨R', s', z1, z2⟩ := two
  refine ⟨R', s', ?_, z2⟩
  rw [← z1, E38 239 _ _ hK_o]
  simp only [S38, gFs, pFs, okq, bls, bo_true, eUp_at, eUp_eUp, eKls, cl_some, Option.toList_some, Option.toList_none, List.cons_append, List.nil_append, e1, e2]
  by_cases q : decide (u < 0) = decide (v < 0)
  · rw [if_pos (by rw [q]), decide_eq_true q]
    simp only [S38, gFs, pFs, okq, bls, bo_true, eUp_at, eUp_eUp, eKls, cl_some, Option.toList_some, Option.toList_none, List.cons_append, List.nil_append, e3, e4, Bool.not_true, show ldI false = nI 0 from rfl]
  · rw [if_neg (fun e => q (by cases hu : decide (u < 0) <;> cases hv : decide (v < 0) <;> rw [hu, hv] at e <;> first | rfl | exact absurd e (by decide))), decide_eq_false q]
    simp only [S38, gFs, pFs, okq, bls, bo_true, eUp_at, eUp_eUp, eKls, cl_some, Option.toList_some, Option.toList_none, List.cons_append, List.nil_append, e3, e4, Bool.not_false, show ldI true = nI 1 from rfl]
end RE3
