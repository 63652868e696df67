/-! THE REFERENCE: isTight, whole -/
section TG3
variable {h : eH} {jt mb hi wi rk : Int32} {ro : Nat → Int32} {s : SC} {M : Nat} {R0 : Nat → Int}
def AL2 (q : Nat → Nat → Int) (M : Nat) (S : Nat → Int) (a : Nat) : Prop := TDq q M S (q a) ∧ ∀ b, b < M → PR2 q M S a b
theorem AL2.mono {q : Nat → Nat → Int} {M a : Nat} {S S' : Nat → Int} (x : AL2 q M S a) (y : MOq q M S S') : AL2 q M S' a := ⟨x.1.mono y, fun b hb => (x.2 b hb).mono y⟩
theorem m58_a (hM : M ≤ 14) (bA : ∀ m, m < M → bq (BB ^ 5) (QR R0 m)) : ∀ r a (R : Nat → Int) (s : SC) (x3 : Option Value), a + r = M → IS R0 R M (29 * a) → (∀ a', a' < a → AL2 (QR R0) M (VR R 382) a') → ∃ (R' : Nat → Int) (s' : SC) (y3 : Option Value), ru 58 27 [some (.ref 239), some (.int (nI 382)), some (.int (nI a)), x3] [] (hK h jt mb hi wi rk (nI M) ro R s) = ru 58 152 [some (.ref 239), some (.int (nI 382)), some (.int (nI M)), y3] [] (hK h jt mb hi wi rk (nI M) ro R' s') ∧ IS R0 R' M (29 * M) ∧ ∀ a', a' < M → AL2 (QR R0) M (VR R' 382) a' := by
  intro r
  induction r with
  | zero =>
    intro a R s x3 ha x pr
    have : a = M := by omega
    subst this
    refine ⟨R, s, x3, ?_, x, pr⟩
    rw [H58_27]
    simp only [S58, gFs, pFs, okq, bls, bo_true, eUp_at, eUp_eUp, eKls, cl_some, Option.toList_some, Option.toList_none, List.cons_append, List.nil_append, hK_o]
    rw [if_pos (nI_le (Nat.le_refl _) (by omega))]
  | succ r ih =>
    intro a R s x3 ha x pr
    have haM : a < M := by omega
    have eq := x.q hM haM
    obtain ⟨R1, e1, z1, k1⟩ := m58_cp (h := h) (jt := jt) (mb := mb) (hi := hi) (wi := wi) (rk := rk) (ro := ro) (R0 := R) hM haM 3 0 R s (by decide) (fun j hj => absurd hj (Nat.not_lt_zero _)) (Kr.refl _ _)
    have x1 : IS R0 R1 M (29 * a) := ⟨x.1.trans (k1.mono (fun k e => by unfold P58; omega)), fun m hm => by rw [dot_cg (y := VR R1 382) (y' := VR R 382) (fun _ _ => rfl) (fun i hi' => k1 _ (by omega))]; exact x.2.1 m hm, fun i hi' => by show (R1 (382 + i)).natAbs ≤ _; rw [k1 _ (by omega)]; exact x.2.2 i hi'⟩
    have b515 : 2 * (BB ^ 5) ≤ 8 * BB ^ 15 := by unfold BB; decide
    have hKB : KB = 8 * BB ^ 15 := rfl
    obtain ⟨R2, s2, e2, y2, mo2, td2, k2⟩ := is_try (h := h) (jt := jt) (mb := mb) (hi := hi) (wi := wi) (rk := rk) (ro := ro) (s := s) (a := 385) (c := 29 * a) (v := QR R0 a) hM (by omega) x1 bA (by omega) (fun i hi' => (z1 i hi').trans (eq i hi')) (bA a haM) (by omega)
    have mo1 : MOq (QR R0) M (VR R 382) (VR R1 382) := fun m hm => by
      rw [dot_cg (y := VR R1 382) (y' := VR R 382) (fun _ _ => rfl) (fun i hi' => k1 _ (by omega))]
      exact Int.le_refl _
    obtain ⟨R3, s3, e3, y3', mo3, p3⟩ := m58_b (h := h) (jt := jt) (mb := mb) (hi := hi) (wi := wi) (rk := rk) (ro := ro) hM haM bA M 0 R2 s2 (by omega) y2 (fun b hb => absurd hb (Nat.not_lt_zero _))
    have y4 : IS R0 R3 M (29 * (a + 1)) := ⟨y3'.1, y3'.2.1, fun i hi' => Nat.le_trans (y3'.2.2 i hi') (Nat.mul_le_mul_right _ (by omega))⟩
    obtain ⟨R', s', w3, v1, v2⟩ := ih (a + 1) R3 s3 (some (.int (nI M))) (by omega) y4 (fun a' ha' => by
      by_cases q : a' = a
      · rw [q]; exact ⟨td2.mono mo3, p3⟩
      · exact (((pr a' (by omega)).mono mo1).mono mo2).mono mo3)
    refine ⟨R', s', w3, ?_, v2⟩
    rw [← v1, H58_27]
    simp only [S58, gFs, pFs, okq, bls, bo_true, eUp_at, eUp_eUp, eKls, cl_some, Option.toList_some, Option.toList_none, List.cons_append, List.nil_append, hK_o]
    rw [if_neg (nI_ge haM (by omega)), e1, H58_63]
    simp only [S58, gFs, pFs, okq, bls, bo_true, eUp_at, eUp_eUp, eKls, cl_some, Option.toList_some, Option.toList_none, List.cons_append, List.nil_append, e2]
    rw [e3, H58_146]
    simp only [S58, gFs, pFs, okq, bls, bo_true, eUp_at, eUp_eUp, eKls, cl_some, Option.toList_some, Option.toList_none, List.cons_append, List.nil_append]
    rw [nI_1]
theorem m58_z : ∀ r i (R : Nat → Int) (s : SC), i + r = 3 → (∀ j, j < i → R (382 + j) = 0) → Kr (fun k => 382 ≤ k ∧ k < 385) R0 R → ∃ (R' : Nat → Int), ru 58 6 [some (.ref 239), some (.int (nI 382)), some (.int (nI i)), none] [] (hK h jt mb hi wi rk (nI M) ro R s) = ru 58 25 [some (.ref 239), some (.int (nI 382)), some (.int (nI 3)), none] [] (hK h jt mb hi wi rk (nI M) ro R' s) ∧ (∀ j, j < 3 → R' (382 + j) = 0) ∧ Kr (fun k => 382 ≤ k ∧ k < 385) R0 R' := by
  intro r
  induction r with
  | zero =>
    intro i R s hi' k1 k2
    have : i = 3 := by omega
    subst this
    refine ⟨R, ?_, k1, k2⟩
    rw [H58_6]
    simp only [S58, gFs, pFs, okq, bls, bo_true, eUp_at, eUp_eUp, eKls, cl_some, Option.toList_some, Option.toList_none, List.cons_append, List.nil_append]
    rw [if_pos (by decide)]
  | succ r ih =>
    intro i R s hi' k1 k2
    have e1 := m12 (h := h) (jt := jt) (mb := mb) (hi := hi) (wi := wi) (rk := rk) (co := nI M) (ro := ro) (s := s) (R := R) (a := 382 + i) (v := 0) (by omega) (by decide)
    obtain ⟨R', z1, z2⟩ := ih (i + 1) (ur R (382 + i) 0) s (by omega) (fun j hj => by
      by_cases q : j = i
      · rw [q, ur_at]
      · rw [ur_ne (by omega)]; exact k1 j (by omega)) (k2.up' (by omega))
    refine ⟨R', ?_, z2⟩
    rw [← z1, H58_6]
    simp only [S58, gFs, pFs, okq, bls, bo_true, eUp_at, eUp_eUp, eKls, cl_some, Option.toList_some, Option.toList_none, List.cons_append, List.nil_append, nI_add]
    rw [if_neg (nI_ge (by omega) (by decide))]
    simp only [S58, gFs, pFs, okq, bls, bo_true, eUp_at, eUp_eUp, eKls, cl_some, Option.toList_some, Option.toList_none, List.cons_append, List.nil_append, show (lN 0 : Int64) = lI 0 from rfl, e1]
    rw [nI_1]
theorem m58_end {x3 : Option Value} (hM : M ≤ 14) (bA : ∀ m, m < M → bq (BB ^ 5) (QR R0 m)) (bS : bq (BB ^ 16) (VR R0 382)) : ∀ r m (R : Nat → Int) (s : SC), m + r = M → (∀ j, j < m → 0 < dot (QR R0 j) (VR R0 382)) → Kr (fun k => k = 6 ∨ k = 9) R0 R → ∃ (R' : Nat → Int) (s' : SC) (b : Bool), ru 58 154 [some (.ref 239), some (.int (nI 382)), some (.int (nI m)), x3] [] (hK h jt mb hi wi rk (nI M) ro R s) = some (some (.int (ldI b)), hK h jt mb hi wi rk (nI M) ro R' s') ∧ (b = true ↔ ∀ j, j < M → 0 < dot (QR R0 j) (VR R0 382)) ∧ Kr (fun k => k = 6 ∨ k = 9) R0 R' := by
  intro r
  induction r with
  | zero =>
    intro m R s hm k1 k2
    have : m = M := by omega
    subst this
    refine ⟨R, s, true, ?_, ⟨fun _ => k1, fun _ => rfl⟩, k2⟩
    rw [H58_154]
    simp only [S58, gFs, pFs, okq, bls, bo_true, eUp_at, eUp_eUp, eKls, cl_some, Option.toList_some, Option.toList_none, List.cons_append, List.nil_append, hK_o]
    rw [if_pos (nI_le (Nat.le_refl _) (by omega)), H58_179]
    simp only [S58, gFs, pFs, okq, bls, bo_true, eUp_at, eUp_eUp, eKls, cl_some, Option.toList_some, Option.toList_none, List.cons_append, List.nil_append]
    rfl
  | succ r ih =>
    intro m R s hm k1 k2
    have hmM : m < M := by omega
    have q1 : ∀ i, i < 3 → VR R (340 + 3 * m) i = QR R0 m i := k2.vr (fun i hi => by omega)
    have q2 : ∀ i, i < 3 → VR R 382 i = VR R0 382 i := k2.vr (fun i hi => by omega)
    obtain ⟨R1, s1, e1, k3⟩ := m43 (h := h) (jt := jt) (mb := mb) (hi := hi) (wi := wi) (rk := rk) (co := nI M) (ro := ro) (s := s) (R := R) (m := m) (a := 382) (A := BB ^ 5) (B := BB ^ 16) (by omega) (by omega) (fun i hi' => by rw [q1 i hi']; exact bA m hmM i hi') (fun i hi' => by rw [q2 i hi']; exact bS i hi') (by unfold BB; decide) (by unfold BB; decide) (by unfold BB; decide)
    rw [dot_cg q1 q2] at e1
    by_cases q : 0 < dot (QR R0 m) (VR R0 382)
    · obtain ⟨R', s', b, w1, w2⟩ := ih (m + 1) R1 s1 (by omega) (fun j hj => by
        by_cases qj : j = m
        · rw [qj]; exact q
        · exact k1 j (by omega)) (k2.trans k3)
      refine ⟨R', s', b, ?_, w2⟩
      rw [← w1, H58_154]
      simp only [S58, gFs, pFs, okq, bls, bo_true, eUp_at, eUp_eUp, eKls, cl_some, Option.toList_some, Option.toList_none, List.cons_append, List.nil_append, hK_o, e1]
      rw [if_neg (nI_ge hmM (by omega)), if_pos (sgn_lt.2.1.mpr q), nI_1]
    · refine ⟨R1, s1, false, ?_, ⟨fun e => (by cases e), fun e => absurd (e m hmM) q⟩, k2.trans k3⟩
      rw [H58_154]
      simp only [S58, gFs, pFs, okq, bls, bo_true, eUp_at, eUp_eUp, eKls, cl_some, Option.toList_some, Option.toList_none, List.cons_append, List.nil_append, hK_o, e1]
      rw [if_neg (nI_ge hmM (by omega)), if_neg (fun e => q (sgn_lt.2.1.mp e))]
      rfl
/-- isTight: whether some mixture is above 0 at every cone -/
theorem m58 {R : Nat → Int} (hM : M ≤ 14) (bA : ∀ m, m < M → bq (BB ^ 5) (QR R m)) : ∃ (R' : Nat → Int) (s' : SC) (b : Bool), den 58 [.ref 239] (hK h jt mb hi wi rk (nI M) ro R s) = some (some (.int (ldI b)), hK h jt mb hi wi rk (nI M) ro R' s') ∧ (b = true ↔ ∃ y, ∀ j, j < M → 0 < dot (QR R j) y) ∧ Kr P58 R R' := by
  obtain ⟨R1, e1, z1, k1⟩ := m58_z (h := h) (jt := jt) (mb := mb) (hi := hi) (wi := wi) (rk := rk) (ro := ro) (M := M) (R0 := R) 3 0 R s (by decide) (fun j hj => absurd hj (Nat.not_lt_zero _)) (Kr.refl _ _)
  have zz : ∀ x, dot x (VR R1 382) = 0 := fun x => by
    unfold dot
    rw [show VR R1 382 0 = 0 from z1 0 (by decide), show VR R1 382 1 = 0 from z1 1 (by decide), show VR R1 382 2 = 0 from z1 2 (by decide)]
    omega
  have x1 : IS R R1 M (29 * 0) := ⟨k1.mono (fun k e => by unfold P58; omega), fun m hm => by rw [zz]; exact Int.le_refl _, fun i hi' => by rw [show VR R1 382 i = 0 from z1 i hi']; omega⟩
  obtain ⟨R2, s2, y3, e2, x2, al⟩ := m58_a (h := h) (jt := jt) (mb := mb) (hi := hi) (wi := wi) (rk := rk) (ro := ro) hM bA M 0 R1 s none (by omega) x1 (fun a ha => absurd ha (Nat.not_lt_zero _))
  have eq := fun m hm => x2.q hM (m := m) hm
  have hKB : KB = 8 * BB ^ 15 := rfl
  have b16 : 29 * 14 * (8 * BB ^ 15) ≤ BB ^ 16 := by unfold BB; decide
  have hc : 29 * M * KB ≤ 29 * 14 * (8 * BB ^ 15) := by rw [hKB]; exact Nat.mul_le_mul_right _ (by omega)
  obtain ⟨R3, s3, b, e3, hb, k3⟩ := m58_end (h := h) (jt := jt) (mb := mb) (hi := hi) (wi := wi) (rk := rk) (ro := ro) (R0 := R2) (x3 := y3) hM (fun m hm i hi' => by rw [eq m hm i hi']; exact bA m hm i hi') (fun i hi' => Nat.le_trans (x2.2.2 i hi') (by omega)) M 0 R2 s2 (by omega) (fun j hj => absurd hj (Nat.not_lt_zero _)) (Kr.refl _ _)
  refine ⟨R3, s3, b, ?_, hb.trans ⟨fun x => ⟨VR R2 382, fun j hj => by rw [← dot_cg (eq j hj) (fun _ _ => rfl)]; exact x j hj⟩, fun ⟨y, hy⟩ j hj => ?_⟩, x2.1.trans (k3.mono (fun k e => by unfold P58; omega))⟩
  · rw [E58 239 hK_o]
    simp only [S58, gFs, pFs, okq, bls, bo_true, eUp_at, eUp_eUp, eKls, cl_some, Option.toList_some, Option.toList_none, List.cons_append, List.nil_append]
    rw [e1, H58_25]
    simp only [S58, gFs, pFs, okq, bls, bo_true, eUp_at, eUp_eUp, eKls, cl_some, Option.toList_some, Option.toList_none, List.cons_append, List.nil_append]
    rw [e2, H58_152]
    simp only [S58, gFs, pFs, okq, bls, bo_true, eUp_at, eUp_eUp, eKls, cl_some, Option.toList_some, Option.toList_none, List.cons_append, List.nil_append]
    exact e3
  · rw [dot_cg (eq j hj) (fun _ _ => rfl)]
    rcases edge3 hj hy with ⟨o, d⟩ | ⟨a, b, ha, hb', hab, o, d⟩ | ⟨a, b, ha, hb', hab, o, d⟩
    · exact (al j hj).1 o j hj d
    · exact ((al a ha).2 b hb' hab).1 o j hj d
    · exact ((al a ha).2 b hb' hab).2 o j hj d
end TG3
