/-! THE REFERENCE: comes, comesBoth, isTight -/
section TG1
variable {h : eH} {jt mb hi wi rk co : Int32} {ro : Nat → Int32} {s : SC} {R : Nat → Int}
def INq (q : Nat → Nat → Int) (M : Nat) (v : Nat → Int) : Prop := ∀ j, j < M → 0 ≤ dot (q j) v
theorem m44 {a t M A B C : Nat} (hM : M ≤ 14) (ha : 381 < a ∧ a + 2 < 412) (ht : 381 < t ∧ t + 2 < 412) (hat : a + 2 < t ∨ t + 2 < a) (bA : ∀ m, m < M → bq A (QR R m)) (bB : bq B (VR R a)) (bC : bq C (VR R t)) (hB : 4 * (A * B) < BB ^ 23) (hA1 : A < BB ^ 23) (hB1 : B < BB ^ 23) (hC1 : C < BB ^ 23) : ∃ (R' : Nat → Int) (s' : SC), den 44 [.ref 239, .int (nI a), .int (nI t)] (hK h jt mb hi wi rk (nI M) ro R s) = some (none, hK h jt mb hi wi rk (nI M) ro R' s') ∧ ((INq (QR R) M (VR R a) ∧ ∀ j, j < 3 → R' (t + j) = R (t + j) + R (a + j)) ∨ (¬ INq (QR R) M (VR R a) ∧ ∀ j, j < 3 → R' (t + j) = R (t + j))) ∧ Kr (fun k => k = 6 ∨ k = 9 ∨ (t ≤ k ∧ k < t + 3)) R R' := by
  obtain ⟨R1, s1, k1, w⟩ := m44_chk (h := h) (jt := jt) (mb := mb) (hi := hi) (wi := wi) (rk := rk) (ro := ro) (t := t) hM ha bA bB hB hA1 hB1 M 0 R s (by omega) (fun j hj => absurd hj (Nat.not_lt_zero _)) (Kr.refl _ _)
  have st : den 44 [.ref 239, .int (nI a), .int (nI t)] (hK h jt mb hi wi rk (nI M) ro R s) = ru 44 2 [some (.ref 239), some (.int (nI a)), some (.int (nI t)), some (.int (nI 0))] [] (hK h jt mb hi wi rk (nI M) ro R s) := by
    rw [E44 239 _ _ hK_o]
    simp only [S44, gFs, pFs, okq, bls, bo_true, eUp_at, eUp_eUp, eKls, cl_some, Option.toList_some, Option.toList_none, List.cons_append, List.nil_append]
  rw [st]
  rcases w with ⟨c1, e1⟩ | ⟨c1, e1⟩
  · have qt : ∀ i, i < 3 → R1 (t + i) = R (t + i) := fun i hi' => k1 _ (by omega)
    have qa : ∀ i, i < 3 → R1 (a + i) = R (a + i) := fun i hi' => k1 _ (by omega)
    obtain ⟨R2, e2, z2, k2⟩ := m44_add (h := h) (jt := jt) (mb := mb) (hi := hi) (wi := wi) (rk := rk) (co := nI M) (ro := ro) (R0 := R1) ha ht hat (fun i hi' => by show (R1 (a + i)).natAbs ≤ B; rw [qa i hi']; exact bB i hi') (fun i hi' => by show (R1 (t + i)).natAbs ≤ C; rw [qt i hi']; exact bC i hi') hB1 hC1 3 0 R1 s1 (by decide) (fun j hj => by rw [if_neg (Nat.not_lt_zero _)]) (Kr.refl _ _)
    refine ⟨R2, s1, ?_, Or.inl ⟨c1, fun j hj => by rw [z2 j hj, qt j hj, qa j hj]⟩, (k1.mono (fun c e => by omega)).trans (k2.mono (fun c e => by omega))⟩
    rw [e1, H44_26]
    simp only [S44, gFs, pFs, okq, bls, bo_true, eUp_at, eUp_eUp, eKls, cl_some, Option.toList_some, Option.toList_none, List.cons_append, List.nil_append]
    exact e2
  · exact ⟨R1, s1, e1, Or.inr ⟨c1, fun j hj => k1 _ (by omega)⟩, k1.mono (fun c e => by omega)⟩
theorem m45_turn {a t B : Nat} {R0 : Nat → Int} (ha : 381 < a ∧ a + 2 < 412) (bB : bq B (VR R0 a)) (hB1 : B < BB ^ 23) : ∀ r i (R : Nat → Int), i + r = 3 → (∀ j, j < 3 → R (a + j) = if j < i then - R0 (a + j) else R0 (a + j)) → Kr (fun k => a ≤ k ∧ k < a + 3) R0 R → ∃ (R' : Nat → Int), ru 45 8 [some (.ref 239), some (.int (nI a)), some (.int (nI t)), some (.int (nI i))] [] (hK h jt mb hi wi rk co ro R s) = ru 45 26 [some (.ref 239), some (.int (nI a)), some (.int (nI t)), some (.int (nI 3))] [] (hK h jt mb hi wi rk co ro R' s) ∧ (∀ j, j < 3 → R' (a + j) = - R0 (a + j)) ∧ Kr (fun k => a ≤ k ∧ k < a + 3) R0 R' := by
  intro r
  induction r with
  | zero =>
    intro i R hi' k1 k2
    have : i = 3 := by omega
    subst this
    refine ⟨R, ?_, fun j hj => by rw [k1 j hj, if_pos hj], k2⟩
    rw [H45_8]
    simp only [S45, gFs, pFs, okq, bls, bo_true, eUp_at, eUp_eUp, eKls, cl_some, Option.toList_some, Option.toList_none, List.cons_append, List.nil_append]
    rw [if_pos (by decide)]
  | succ r ih =>
    intro i R hi' k1 k2
    have hi3 : i < 3 := by omega
    have rt := k1 i hi3
    rw [if_neg (Nat.lt_irrefl _)] at rt
    have e1 := m18 (h := h) (jt := jt) (mb := mb) (hi := hi) (wi := wi) (rk := rk) (co := co) (ro := ro) (s := s) (R := R) (a := a + i) (by omega) (by rw [rt]; exact n23_le (bB i hi3) hB1)
    rw [rt] at e1
    obtain ⟨R', z1, z2⟩ := ih (i + 1) (ur R (a + i) (- R0 (a + i))) (by omega) (fun j hj => by
      by_cases q : j = i
      · rw [q, ur_at, if_pos (Nat.lt_succ_self _)]
      · rw [ur_ne (by omega), k1 j hj]
        by_cases q2 : j < i
        · rw [if_pos q2, if_pos (by omega)]
        · rw [if_neg q2, if_neg (by omega)]) (k2.up' (by omega))
    refine ⟨R', ?_, z2⟩
    rw [← z1, H45_8]
    simp only [S45, gFs, pFs, okq, bls, bo_true, eUp_at, eUp_eUp, eKls, cl_some, Option.toList_some, Option.toList_none, List.cons_append, List.nil_append, nI_add]
    rw [if_neg (nI_ge hi3 (by decide))]
    simp only [S45, gFs, pFs, okq, bls, bo_true, eUp_at, eUp_eUp, eKls, cl_some, Option.toList_some, Option.toList_none, List.cons_append, List.nil_append, e1]
    rw [nI_1]
/-- comesBoth: the sum grows towards what the ray or its opposite reaches -/
theorem m45 {a t M A B C : Nat} (hM : M ≤ 14) (ha : 381 < a ∧ a + 2 < 412) (ht : 381 < t ∧ t + 2 < 412) (hat : a + 2 < t ∨ t + 2 < a) (bA : ∀ m, m < M → bq A (QR R m)) (bB : bq B (VR R a)) (bC : bq C (VR R t)) (hB : 4 * (A * B) < BB ^ 23) (hA1 : A < BB ^ 23) (hB1 : B < BB ^ 23) (hC1 : C + 2 * B < BB ^ 23) : ∃ (R' : Nat → Int) (s' : SC), den 45 [.ref 239, .int (nI a), .int (nI t)] (hK h jt mb hi wi rk (nI M) ro R s) = some (none, hK h jt mb hi wi rk (nI M) ro R' s') ∧ MOq (QR R) M (VR R t) (VR R' t) ∧ ((∀ m, m < M → 0 ≤ dot (QR R m) (VR R t)) → TDq (QR R) M (VR R' t) (VR R a)) ∧ bq (C + 2 * B) (VR R' t) ∧ Kr (fun k => k = 6 ∨ k = 9 ∨ (t ≤ k ∧ k < t + 3) ∨ (a ≤ k ∧ k < a + 3)) R R' := by
  obtain ⟨R1, s1, e1, w1, k1⟩ := m44 (h := h) (jt := jt) (mb := mb) (hi := hi) (wi := wi) (rk := rk) (ro := ro) (s := s) hM ha ht hat bA bB bC hB hA1 hB1 (by omega)
  have qa1 : ∀ i, i < 3 → R1 (a + i) = R (a + i) := fun i hi' => k1 _ (by omega)
  obtain ⟨R2, e2, z2, k2⟩ := m45_turn (h := h) (jt := jt) (mb := mb) (hi := hi) (wi := wi) (rk := rk) (co := nI M) (ro := ro) (s := s1) (a := a) (t := t) (R0 := R1) ha (fun i hi' => by show (R1 (a + i)).natAbs ≤ B; rw [qa1 i hi']; exact bB i hi') hB1 3 0 R1 (by decide) (fun j hj => by rw [if_neg (Nat.not_lt_zero _)]) (Kr.refl _ _)
  have qt2 : ∀ i, i < 3 → R2 (t + i) = R1 (t + i) := fun i hi' => k2 _ (by omega)
  have qa2 : ∀ i, i < 3 → R2 (a + i) = - R (a + i) := fun i hi' => by rw [z2 i hi', qa1 i hi']
  have qm2 : ∀ m, m < M → ∀ i, i < 3 → QR R2 m i = QR R m i := fun m hm i hi' => by
    show R2 (340 + 3 * m + i) = R (340 + 3 * m + i)
    rw [k2 _ (by omega), k1 _ (by omega)]
  have bC1 : bq (C + B) (VR R1 t) := fun i hi' => by
    show (R1 (t + i)).natAbs ≤ C + B
    have h1 : (R (t + i)).natAbs ≤ C := bC i hi'
    have h2 : (R (a + i)).natAbs ≤ B := bB i hi'
    rcases w1 with ⟨-, w1⟩ | ⟨-, w1⟩
    · rw [w1 i hi']; omega
    · rw [w1 i hi']; omega
  have bB2 : bq B (VR R2 a) := fun i hi' => by
    show (R2 (a + i)).natAbs ≤ B
    have h2 : (R (a + i)).natAbs ≤ B := bB i hi'
    rw [qa2 i hi']
    omega
  obtain ⟨R3, s3, e3, w3, k3⟩ := m44 (h := h) (jt := jt) (mb := mb) (hi := hi) (wi := wi) (rk := rk) (ro := ro) (s := s1) (R := R2) (C := C + B) hM ha ht hat (fun m hm i hi' => by rw [qm2 m hm i hi']; exact bA m hm i hi') bB2 (fun i hi' => by show (R2 (t + i)).natAbs ≤ C + B; rw [qt2 i hi']; exact bC1 i hi') hB hA1 hB1 (by omega)
  have dn : ∀ m, m < M → dot (QR R2 m) (VR R2 a) = - dot (QR R m) (VR R a) := fun m hm => by
    rw [dot_cg (x' := QR R m) (y := VR R2 a) (y' := fun i => - VR R a i) (qm2 m hm) (fun i hi' => qa2 i hi'), dot_neg]
  -- what the sum comes to
  have d1 : ∀ m, m < M → (INq (QR R) M (VR R a) ∧ dot (QR R m) (VR R1 t) = dot (QR R m) (VR R t) + dot (QR R m) (VR R a)) ∨ (¬ INq (QR R) M (VR R a) ∧ dot (QR R m) (VR R1 t) = dot (QR R m) (VR R t)) := fun m hm => by
    rcases w1 with ⟨c, w1⟩ | ⟨c, w1⟩
    · refine Or.inl ⟨c, ?_⟩
      rw [← dot_add]
      exact dot_cg (fun _ _ => rfl) (fun i hi' => w1 i hi')
    · exact Or.inr ⟨c, dot_cg (fun _ _ => rfl) (fun i hi' => w1 i hi')⟩
  have inn : INq (QR R2) M (VR R2 a) ↔ ∀ m, m < M → dot (QR R m) (VR R a) ≤ 0 := by
    constructor
    · intro x m hm
      have := x m hm
      rw [dn m hm] at this
      omega
    · intro x m hm
      rw [dn m hm]
      have := x m hm
      omega
  have d3 : ∀ m, m < M → ((∀ m, m < M → dot (QR R m) (VR R a) ≤ 0) ∧ dot (QR R m) (VR R3 t) = dot (QR R m) (VR R1 t) - dot (QR R m) (VR R a)) ∨ ((¬ ∀ m, m < M → dot (QR R m) (VR R a) ≤ 0) ∧ dot (QR R m) (VR R3 t) = dot (QR R m) (VR R1 t)) := fun m hm => by
    rcases w3 with ⟨c, w3⟩ | ⟨c, w3⟩
    · refine Or.inl ⟨inn.mp c, ?_⟩
      rw [dot_cg (x' := QR R m) (y' := fun i => VR R1 t i + - VR R a i) (fun _ _ => rfl) (fun i hi' => by show R3 (t + i) = R1 (t + i) + - R (a + i); rw [w3 i hi', qt2 i hi', qa2 i hi']), dot_add, dot_neg]
      omega
    · exact Or.inr ⟨fun x => c (inn.mpr x), dot_cg (fun _ _ => rfl) (fun i hi' => by show R3 (t + i) = R1 (t + i); rw [w3 i hi', qt2 i hi'])⟩
  refine ⟨R3, s3, ?_, ?_, ?_, ?_, ?_⟩
  · rw [E45 239 _ _ hK_o]
    simp only [S45, gFs, pFs, okq, bls, bo_true, eUp_at, eUp_eUp, eKls, cl_some, Option.toList_some, Option.toList_none, List.cons_append, List.nil_append, e1]
    rw [e2, H45_26]
    simp only [S45, gFs, pFs, okq, bls, bo_true, eUp_at, eUp_eUp, eKls, cl_some, Option.toList_some, Option.toList_none, List.cons_append, List.nil_append, e3]
  · intro m hm
    rcases d1 m hm with ⟨c1, x1⟩ | ⟨c1, x1⟩ <;> rcases d3 m hm with ⟨c3, x3⟩ | ⟨c3, x3⟩
    · have := c1 m hm; have := c3 m hm; omega
    · have := c1 m hm; omega
    · have := c3 m hm; omega
    · omega
  · intro nn o m hm hne
    have n0 := nn m hm
    rcases d1 m hm with ⟨c1, x1⟩ | ⟨c1, x1⟩ <;> rcases d3 m hm with ⟨c3, x3⟩ | ⟨c3, x3⟩
    · have := c1 m hm; have := c3 m hm; omega
    · have := c1 m hm; omega
    · have := c3 m hm; omega
    · rcases o with o | o
      · exact absurd o c1
      · exact absurd o c3
  · intro i hi'
    show (R3 (t + i)).natAbs ≤ C + 2 * B
    have h1 : (R1 (t + i)).natAbs ≤ C + B := bC1 i hi'
    have h2 : (R (a + i)).natAbs ≤ B := bB i hi'
    rcases w3 with ⟨-, w3⟩ | ⟨-, w3⟩
    · rw [w3 i hi', qt2 i hi', qa2 i hi']; omega
    · rw [w3 i hi', qt2 i hi']; omega
  · exact ((k1.mono (fun c e => by omega)).trans (k2.mono (fun c e => by omega))).trans (k3.mono (fun c e => by omega))
end TG1
/-! isTight -/
def P58 (k : Nat) : Prop := k = 6 ∨ k = 7 ∨ k = 9 ∨ (382 ≤ k ∧ k < 394)
def KB : Nat := 8 * BB ^ 15
/-- both rays of a pair are tried -/
def PR2 (q : Nat → Nat → Int) (M : Nat) (S : Nat → Int) (a b : Nat) : Prop := a ≠ b → TDq q M S (crs (q a) (q b)) ∧ TDq q M S (crs (q a) (crs (q a) (q b)))
theorem PR2.mono {q : Nat → Nat → Int} {M a b : Nat} {S S' : Nat → Int} (x : PR2 q M S a b) (y : MOq q M S S') : PR2 q M S' a b := fun e => ⟨(x e).1.mono y, (x e).2.mono y⟩
section TG2
variable {h : eH} {jt mb hi wi rk : Int32} {ro : Nat → Int32} {s : SC} {M : Nat} {R0 : Nat → Int}
/-- the state of isTight -/
def IS (R0 R : Nat → Int) (M c : Nat) : Prop := Kr P58 R0 R ∧ (∀ m, m < M → 0 ≤ dot (QR R0 m) (VR R 382)) ∧ bq (c * KB) (VR R 382)
theorem IS.q {R : Nat → Int} {c m : Nat} (x : IS R0 R M c) (hM : M ≤ 14) (hm : m < M) : ∀ i, i < 3 → QR R m i = QR R0 m i := fun i hi => x.1 _ (by unfold P58; omega)
theorem QR_os {R : Nat → Int} (e : ∀ m, m < M → ∀ i, i < 3 → QR R m i = QR R0 m i) {S S' v v' : Nat → Int} (es : ∀ i, i < 3 → S i = S' i) (ev : ∀ i, i < 3 → v i = v' i) (t : TDq (QR R) M S v) : TDq (QR R0) M S' v' := fun o m hm hne => by
  rw [← dot_cg (e m hm) es]
  refine t ?_ m hm (by rw [dot_cg (e m hm) ev]; exact hne)
  rcases o with o | o
  · exact Or.inl (fun j hj => by rw [dot_cg (e j hj) ev]; exact o j hj)
  · exact Or.inr (fun j hj => by rw [dot_cg (e j hj) ev]; exact o j hj)
/-- one ray is tried -/
theorem is_try {R : Nat → Int} {a c B : Nat} {v : Nat → Int} (hM : M ≤ 14) (hc : c ≤ 500) (x : IS R0 R M c) (bA : ∀ m, m < M → bq (BB ^ 5) (QR R0 m)) (ha : 384 < a ∧ a + 2 < 394) (ev : ∀ i, i < 3 → VR R a i = v i) (bv : bq B v) (hB : 2 * B ≤ KB) : ∃ (R' : Nat → Int) (s' : SC), den 45 [.ref 239, .int (nI a), .int (nI 382)] (hK h jt mb hi wi rk (nI M) ro R s) = some (none, hK h jt mb hi wi rk (nI M) ro R' s') ∧ IS R0 R' M (c + 1) ∧ MOq (QR R0) M (VR R 382) (VR R' 382) ∧ TDq (QR R0) M (VR R' 382) v ∧ Kr (fun k => k = 6 ∨ k = 9 ∨ (382 ≤ k ∧ k < 385) ∨ (a ≤ k ∧ k < a + 3)) R R' := by
  have eq := fun m hm => x.q hM (m := m) hm
  obtain ⟨x1, x2, x3⟩ := x
  have hKB : KB = 8 * BB ^ 15 := rfl
  have b15 : (BB ^ 5) * (8 * BB ^ 15) * 4 < BB ^ 23 := by unfold BB; decide
  have b16 : 502 * (8 * BB ^ 15) < BB ^ 23 := by unfold BB; decide
  have hBB : 4 * (BB ^ 5 * B) < BB ^ 23 := by
    have : BB ^ 5 * B ≤ BB ^ 5 * (8 * BB ^ 15) := Nat.mul_le_mul_left _ (by omega)
    omega
  have hc' : c * KB ≤ 500 * KB := Nat.mul_le_mul_right _ hc
  obtain ⟨R', s', e1, w1, w2, w3, w4⟩ := m45 (h := h) (jt := jt) (mb := mb) (hi := hi) (wi := wi) (rk := rk) (ro := ro) (s := s) (R := R) (a := a) (t := 382) (M := M) (A := BB ^ 5) (B := B) (C := c * KB) hM (by omega) (by omega) (by omega) (fun m hm i hi' => by rw [eq m hm i hi']; exact bA m hm i hi') (fun i hi' => by rw [ev i hi']; exact bv i hi') x3 hBB (by unfold BB; decide) (by omega) (by omega)
  have mo : MOq (QR R0) M (VR R 382) (VR R' 382) := fun m hm => by
    have := w1 m hm
    rw [dot_cg (eq m hm) (fun _ _ => rfl), dot_cg (eq m hm) (fun _ _ => rfl)] at this
    exact this
  refine ⟨R', s', e1, ⟨x1.trans (w4.mono (fun k e => by unfold P58; omega)), fun m hm => Int.le_trans (x2 m hm) (mo m hm), fun i hi' => ?_⟩, mo, ?_, w4⟩
  · rw [Nat.succ_mul]
    exact Nat.le_trans (w3 i hi') (by omega)
  · refine QR_os eq (fun _ _ => rfl) ev (w2 (fun m hm => ?_))
    rw [dot_cg (eq m hm) (fun _ _ => rfl)]
    exact x2 m hm
theorem m58_pair {R : Nat → Int} {a b c : Nat} (hM : M ≤ 14) (ha : a < M) (hb : b < M) (hc : c + 2 ≤ 500) (x : IS R0 R M c) (bA : ∀ m, m < M → bq (BB ^ 5) (QR R0 m)) (hab : a ≠ b) : ∃ (R' : Nat → Int) (s' : SC), ru 58 89 [some (.ref 239), some (.int (nI 382)), some (.int (nI a)), some (.int (nI b))] [] (hK h jt mb hi wi rk (nI M) ro R s) = ru 58 73 [some (.ref 239), some (.int (nI 382)), some (.int (nI a)), some (.int (nI (b + 1)))] [] (hK h jt mb hi wi rk (nI M) ro R' s') ∧ IS R0 R' M (c + 2) ∧ MOq (QR R0) M (VR R 382) (VR R' 382) ∧ PR2 (QR R0) M (VR R' 382) a b := by
  have eq := fun m hm => x.q hM (m := m) hm
  have c5 : (BB ^ 5) < BB ^ 23 := by unfold BB; decide
  have hKB : KB = 8 * BB ^ 15 := rfl
  have p5 : BB ^ 5 * BB ^ 5 = BB ^ 10 := by rw [← Nat.pow_add]
  have p10 : BB ^ 5 * BB ^ 10 = BB ^ 15 := by rw [← Nat.pow_add]
  obtain ⟨R1, s1, e1, z1, k1⟩ := m47 (h := h) (jt := jt) (mb := mb) (hi := hi) (wi := wi) (rk := rk) (co := nI M) (ro := ro) (s := s) (R := R) (a := 388) (b := 340 + 3 * a) (c := 340 + 3 * b) (A := BB ^ 5) (B := BB ^ 5) (by omega) (by omega) (by omega) (by omega) (by omega) (fun i hi' => by have := eq a ha i hi'; unfold QR at this; rw [this]; exact bA a ha i hi') (fun i hi' => by have := eq b hb i hi'; unfold QR at this; rw [this]; exact bA b hb i hi') (by unfold BB; decide) c5 c5
  have v1 : ∀ i, i < 3 → VR R1 388 i = crs (QR R0 a) (QR R0 b) i := fun i hi' => (z1 i hi').trans (crs_cg (eq a ha) (eq b hb) i)
  have x1 : IS R0 R1 M c := ⟨x.1.trans (k1.mono (fun k e => by unfold P58; omega)), fun m hm => by rw [dot_cg (y := VR R1 382) (y' := VR R 382) (fun _ _ => rfl) (fun i hi' => k1 _ (by omega))]; exact x.2.1 m hm, fun i hi' => by show (R1 (382 + i)).natAbs ≤ _; rw [k1 _ (by omega)]; exact x.2.2 i hi'⟩
  have eq1 := fun m hm => x1.q hM (m := m) hm
  have bv1 : bq (2 * BB ^ 10) (crs (QR R0 a) (QR R0 b)) := by
    have := crs_bd (bA a ha) (bA b hb)
    rw [p5] at this
    exact this
  obtain ⟨R2, s2, e2, z2, k2⟩ := m47 (h := h) (jt := jt) (mb := mb) (hi := hi) (wi := wi) (rk := rk) (co := nI M) (ro := ro) (s := s1) (R := R1) (a := 391) (b := 340 + 3 * a) (c := 388) (A := BB ^ 5) (B := 2 * BB ^ 10) (by omega) (by omega) (by omega) (by omega) (by omega) (fun i hi' => by have := eq1 a ha i hi'; unfold QR at this; rw [this]; exact bA a ha i hi') (fun i hi' => by rw [v1 i hi']; exact bv1 i hi') (by unfold BB; decide) c5 (by unfold BB; decide)
  have v2 : ∀ i, i < 3 → VR R2 391 i = crs (QR R0 a) (crs (QR R0 a) (QR R0 b)) i := fun i hi' => (z2 i hi').trans (crs_cg (eq1 a ha) v1 i)
  have bv2 : bq (4 * BB ^ 15) (crs (QR R0 a) (crs (QR R0 a) (QR R0 b))) := by
    have := crs_bd (bA a ha) bv1
    rw [show 2 * (BB ^ 5 * (2 * BB ^ 10)) = 4 * (BB ^ 5 * BB ^ 10) by rw [Nat.mul_left_comm (BB ^ 5)]; omega, p10] at this
    exact this
  have x2 : IS R0 R2 M c := ⟨x1.1.trans (k2.mono (fun k e => by unfold P58; omega)), fun m hm => by rw [dot_cg (y := VR R2 382) (y' := VR R1 382) (fun _ _ => rfl) (fun i hi' => k2 _ (by omega))]; exact x1.2.1 m hm, fun i hi' => by show (R2 (382 + i)).natAbs ≤ _; rw [k2 _ (by omega)]; exact x1.2.2 i hi'⟩
  have v1' : ∀ i, i < 3 → VR R2 388 i = crs (QR R0 a) (QR R0 b) i := fun i hi' => (k2 (388 + i) (by omega)).trans (v1 i hi')
  have b1015 : 2 * (2 * BB ^ 10) ≤ 8 * BB ^ 15 := by unfold BB; decide
  obtain ⟨R3, s3, e3, y3, mo3, td3, k3⟩ := is_try (h := h) (jt := jt) (mb := mb) (hi := hi) (wi := wi) (rk := rk) (ro := ro) (s := s2) (a := 388) (c := c) hM (by omega) x2 bA (by omega) v1' bv1 (by omega)
  have v2' : ∀ i, i < 3 → VR R3 391 i = crs (QR R0 a) (crs (QR R0 a) (QR R0 b)) i := fun i hi' => (k3 (391 + i) (by omega)).trans (v2 i hi')
  obtain ⟨R4, s4, e4, y4, mo4, td4, k4⟩ := is_try (h := h) (jt := jt) (mb := mb) (hi := hi) (wi := wi) (rk := rk) (ro := ro) (s := s3) (a := 391) (c := c + 1) hM (by omega) y3 bA (by omega) v2' bv2 (by omega)
  have mo0 : MOq (QR R0) M (VR R 382) (VR R2 382) := fun m hm => by
    rw [dot_cg (y := VR R2 382) (y' := VR R 382) (fun _ _ => rfl) (fun i hi' => (k2 _ (by omega)).trans (k1 _ (by omega)))]
    exact Int.le_refl _
  refine ⟨R4, s4, ?_, y4, (mo0.trans mo3).trans mo4, fun _ => ⟨td3.mono mo4, td4⟩⟩
  simp only [S58, gFs, pFs, okq, bls, bo_true, eUp_at, eUp_eUp, eKls, cl_some, Option.toList_some, Option.toList_none, List.cons_append, List.nil_append, m41, Nat.add_zero, e1, e2, e3, e4]
  rw [nI_1]
theorem m58_b {a : Nat} (hM : M ≤ 14) (ha : a < M) (bA : ∀ m, m < M → bq (BB ^ 5) (QR R0 m)) : ∀ r b (R : Nat → Int) (s : SC), b + r = M → IS R0 R M (29 * a + 1 + 2 * b) → (∀ b', b' < b → PR2 (QR R0) M (VR R 382) a b') → ∃ (R' : Nat → Int) (s' : SC), ru 58 73 [some (.ref 239), some (.int (nI 382)), some (.int (nI a)), some (.int (nI b))] [] (hK h jt mb hi wi rk (nI M) ro R s) = ru 58 146 [some (.ref 239), some (.int (nI 382)), some (.int (nI a)), some (.int (nI M))] [] (hK h jt mb hi wi rk (nI M) ro R' s') ∧ IS R0 R' M (29 * a + 1 + 2 * M) ∧ MOq (QR R0) M (VR R 382) (VR R' 382) ∧ ∀ b', b' < M → PR2 (QR R0) M (VR R' 382) a b' := by
  intro r
  induction r with
  | zero =>
    intro b R s hb x pr
    have : b = M := by omega
    subst this
    refine ⟨R, s, ?_, x, MOq.refl _ _ _, pr⟩
    rw [H58_73]
    simp only [S58, gFs, pFs, okq, bls, bo_true, eUp_at, eUp_eUp, eKls, cl_some, Option.toList_some, Option.toList_none, List.cons_append, List.nil_append, hK_o]
    rw [if_pos (nI_le (Nat.le_refl _) (by omega))]
  | succ r ih =>
    intro b R s hb x pr
    have hbM : b < M := by omega
    by_cases q : a = b
    · subst q
      have x' : IS R0 R M (29 * a + 1 + 2 * (a + 1)) := ⟨x.1, x.2.1, fun i hi' => Nat.le_trans (x.2.2 i hi') (Nat.mul_le_mul_right _ (by omega))⟩
      obtain ⟨R', s', z1, z2⟩ := ih (a + 1) R s (by omega) x' (fun b' hb' => by
        by_cases q2 : b' = a
        · rw [q2]; exact fun e => absurd rfl e
        · exact pr b' (by omega))
      refine ⟨R', s', ?_, z2⟩
      rw [← z1, H58_73]
      simp only [S58, gFs, pFs, okq, bls, bo_true, eUp_at, eUp_eUp, eKls, cl_some, Option.toList_some, Option.toList_none, List.cons_append, List.nil_append, hK_o]
      rw [if_neg (nI_ge hbM (by omega)), if_pos trivial, nI_1]
    · obtain ⟨R1, s1, e1, y1, mo1, p1⟩ := m58_pair (h := h) (jt := jt) (mb := mb) (hi := hi) (wi := wi) (rk := rk) (ro := ro) (s := s) hM ha hbM (by omega) x bA q
      obtain ⟨R', s', z1, z2, mo2, z3⟩ := ih (b + 1) R1 s1 (by omega) y1 (fun b' hb' => by
        by_cases q2 : b' = b
        · rw [q2]; exact p1
        · exact (pr b' (by omega)).mono mo1)
      refine ⟨R', s', ?_, z2, mo1.trans mo2, z3⟩
      rw [← z1, ← e1, H58_73]
      simp only [S58, gFs, pFs, okq, bls, bo_true, eUp_at, eUp_eUp, eKls, cl_some, Option.toList_some, Option.toList_none, List.cons_append, List.nil_append, hK_o]
      rw [if_neg (nI_ge hbM (by omega)), if_neg (fun e => q ((nI_inj (by omega) (by omega)).mp e))]
theorem m58_cp {a : Nat} (hM : M ≤ 14) (ha : a < M) : ∀ r i (R : Nat → Int) (s : SC), i + r = 3 → (∀ j, j < i → R (385 + j) = R0 (340 + 3 * a + j)) → Kr (fun k => 385 ≤ k ∧ k < 388) R0 R → ∃ (R' : Nat → Int), ru 58 37 [some (.ref 239), some (.int (nI 382)), some (.int (nI a)), some (.int (nI i))] [] (hK h jt mb hi wi rk (nI M) ro R s) = ru 58 63 [some (.ref 239), some (.int (nI 382)), some (.int (nI a)), some (.int (nI 3))] [] (hK h jt mb hi wi rk (nI M) ro R' s) ∧ (∀ j, j < 3 → R' (385 + j) = R0 (340 + 3 * a + j)) ∧ Kr (fun k => 385 ≤ k ∧ k < 388) R0 R' := by
  intro r
  induction r with
  | zero =>
    intro i R s hi' k1 k2
    have : i = 3 := by omega
    subst this
    refine ⟨R, ?_, k1, k2⟩
    rw [H58_37]
    simp only [S58, gFs, pFs, okq, bls, bo_true, eUp_at, eUp_eUp, eKls, cl_some, Option.toList_some, Option.toList_none, List.cons_append, List.nil_append]
    rw [if_pos (by decide)]
  | succ r ih =>
    intro i R s hi' k1 k2
    have e1 := m20 (h := h) (jt := jt) (mb := mb) (hi := hi) (wi := wi) (rk := rk) (co := nI M) (ro := ro) (s := s) (R := R) (a := 385 + i) (b := 340 + 3 * a + i) (by omega) (by omega) (by omega)
    rw [k2 (340 + 3 * a + i) (by omega)] at e1
    obtain ⟨R', z1, z2⟩ := ih (i + 1) (ur R (385 + i) (R0 (340 + 3 * a + i))) s (by omega) (fun j hj => by
      by_cases q : j = i
      · rw [q, ur_at]
      · rw [ur_ne (by omega)]; exact k1 j (by omega)) (k2.up' (by omega))
    refine ⟨R', ?_, z2⟩
    rw [← z1, H58_37]
    simp only [S58, gFs, pFs, okq, bls, bo_true, eUp_at, eUp_eUp, eKls, cl_some, Option.toList_some, Option.toList_none, List.cons_append, List.nil_append, nI_add]
    rw [if_neg (nI_ge (by omega) (by decide))]
    simp only [S58, gFs, pFs, okq, bls, bo_true, eUp_at, eUp_eUp, eKls, cl_some, Option.toList_some, Option.toList_none, List.cons_append, List.nil_append, m41, e1]
    rw [nI_1]
end TG2
