/-! MIXTURES WITH THE RIGHT SIGNS: the rays that are tried are enough -/
theorem dot_add (x y z : Nat → Int) : dot x (fun i => y i + z i) = dot x y + dot x z := by
  unfold dot
  simp only [Int.mul_add]
  omega
theorem dot_neg (x y : Nat → Int) : dot x (fun i => - y i) = - dot x y := by
  unfold dot
  simp only [Int.mul_neg]
  omega
theorem dot_lin (x y z : Nat → Int) (a b : Int) : dot x (fun i => a * y i + b * z i) = a * dot x y + b * dot x z := by
  unfold dot
  grind
theorem crs_0 (x y : Nat → Int) : crs x y 0 = x 1 * y 2 - x 2 * y 1 := rfl
theorem crs_1 (x y : Nat → Int) : crs x y 1 = x 2 * y 0 - x 0 * y 2 := rfl
theorem crs_2 (x y : Nat → Int) : crs x y 2 = x 0 * y 1 - x 1 * y 0 := rfl
theorem dot_self {x : Nat → Int} : 0 ≤ dot x x ∧ (dot x x = 0 → x 0 = 0 ∧ x 1 = 0 ∧ x 2 = 0) := by
  unfold dot
  have h0 : 0 ≤ x 0 * x 0 := by rcases Int.le_total 0 (x 0) with h | h; exact Int.mul_nonneg h h; exact Int.mul_nonneg_of_nonpos_of_nonpos h h
  have h1 : 0 ≤ x 1 * x 1 := by rcases Int.le_total 0 (x 1) with h | h; exact Int.mul_nonneg h h; exact Int.mul_nonneg_of_nonpos_of_nonpos h h
  have h2 : 0 ≤ x 2 * x 2 := by rcases Int.le_total 0 (x 2) with h | h; exact Int.mul_nonneg h h; exact Int.mul_nonneg_of_nonpos_of_nonpos h h
  refine ⟨by omega, fun e => ⟨?_, ?_, ?_⟩⟩
  · have : x 0 * x 0 = 0 := by omega
    rcases Int.mul_eq_zero.mp this with h | h <;> exact h
  · have : x 1 * x 1 = 0 := by omega
    rcases Int.mul_eq_zero.mp this with h | h <;> exact h
  · have : x 2 * x 2 = 0 := by omega
    rcases Int.mul_eq_zero.mp this with h | h <;> exact h
theorem crs_dot1 (x y : Nat → Int) : dot x (crs x y) = 0 := by
  unfold dot
  rw [crs_0, crs_1, crs_2]
  grind
theorem crs_dot2 (x y : Nat → Int) : dot y (crs x y) = 0 := by
  unfold dot
  rw [crs_0, crs_1, crs_2]
  grind
theorem dot_comm (x y : Nat → Int) : dot x y = dot y x := by
  unfold dot
  grind
/-- parallel vectors -/
theorem par {x y z w : Nat → Int} (h : n0t (crs x y) = true) : dot x w * dot y z = dot y w * dot x z := by
  obtain ⟨h0, h1, h2⟩ := (n0t_iff _).mp h
  rw [crs_0] at h0
  rw [crs_1] at h1
  rw [crs_2] at h2
  unfold dot
  grind
theorem span3 {a b c w : Nat → Int} (h : dot c (crs a b) ≠ 0) (h1 : dot a w = 0) (h2 : dot b w = 0) (h3 : dot c w = 0) : w 0 = 0 ∧ w 1 = 0 ∧ w 2 = 0 := by
  have k0 : w 0 * dot c (crs a b) = dot a w * crs b c 0 + dot b w * crs c a 0 + dot c w * crs a b 0 := by
    unfold dot
    simp only [crs_0, crs_1, crs_2]
    grind
  have k1 : w 1 * dot c (crs a b) = dot a w * crs b c 1 + dot b w * crs c a 1 + dot c w * crs a b 1 := by
    unfold dot
    simp only [crs_0, crs_1, crs_2]
    grind
  have k2 : w 2 * dot c (crs a b) = dot a w * crs b c 2 + dot b w * crs c a 2 + dot c w * crs a b 2 := by
    unfold dot
    simp only [crs_0, crs_1, crs_2]
    grind
  rw [h1, h2, h3, Int.zero_mul, Int.zero_mul, Int.zero_mul] at k0 k1 k2
  refine ⟨?_, ?_, ?_⟩
  · rcases Int.mul_eq_zero.mp k0 with q | q
    · exact q
    · exact absurd q h
  · rcases Int.mul_eq_zero.mp k1 with q | q
    · exact q
    · exact absurd q h
  · rcases Int.mul_eq_zero.mp k2 with q | q
    · exact q
    · exact absurd q h
theorem gram {n m p j v : Nat → Int} (hp : p = crs n m) (h1 : dot n m = 0) (h2 : dot n j = 0) (h3 : dot m v = 0) : dot j p * dot v p = dot j v * (dot n n * dot m m) := by
  subst hp
  unfold dot at *
  simp only [crs_0, crs_1, crs_2]
  grind
/-- the least ratio -/
theorem least {f k : Nat → Int} : ∀ {M : Nat}, (∃ j, j < M ∧ 0 < k j) → ∃ m, m < M ∧ 0 < k m ∧ ∀ j, j < M → 0 < k j → f m * k j ≤ f j * k m := by
  intro M
  induction M with
  | zero => intro ⟨j, hj, _⟩; exact absurd hj (Nat.not_lt_zero _)
  | succ M ih =>
    intro ⟨j, hj, hk⟩
    by_cases q : ∃ j, j < M ∧ 0 < k j
    · obtain ⟨m, m1, m2, m3⟩ := ih q
      by_cases q2 : 0 < k M ∧ f M * k m < f m * k M
      · refine ⟨M, by omega, q2.1, fun i hi hik => ?_⟩
        by_cases qi : i = M
        · rw [qi]; exact Int.le_refl _
        · have h1 := m3 i (by omega) hik
          have h2 : f M * k m * k i ≤ f m * k M * k i := Int.mul_le_mul_of_nonneg_right (by omega) (by omega)
          have h3 : f m * k i * k M ≤ f i * k m * k M := Int.mul_le_mul_of_nonneg_right h1 (by omega)
          have h4 : f M * k i * k m ≤ f i * k M * k m := by
            have e1 : f M * k i * k m = f M * k m * k i := by grind
            have e2 : f m * k M * k i = f m * k i * k M := by grind
            have e3 : f i * k M * k m = f i * k m * k M := by grind
            omega
          exact Int.le_of_mul_le_mul_right h4 m2
      · refine ⟨m, by omega, m2, fun i hi hik => ?_⟩
        by_cases qi : i = M
        · subst qi
          by_cases q3 : f i * k m < f m * k i
          · exact absurd ⟨hik, q3⟩ q2
          · omega
        · exact m3 i (by omega) hik
    · have hjM : j = M := by
        by_cases qj : j < M
        · exact absurd ⟨j, qj, hk⟩ q
        · omega
      subst hjM
      refine ⟨j, by omega, hk, fun i hi hik => ?_⟩
      by_cases qi : i = j
      · rw [qi]; exact Int.le_refl _
      · exact absurd ⟨i, by omega, hik⟩ q
/-- moving along w until one more stands square -/
theorem slide1 {q : Nat → Nat → Int} {M m0 : Nat} {y w : Nat → Int} (hy : ∀ j, j < M → 0 ≤ dot (q j) y) (hm : 0 < dot (q m0) y) (hw : dot (q m0) w = 0) (hj : ∃ j, j < M ∧ dot (q j) w < 0) : ∃ v m1 al be, m1 < M ∧ (∀ j, j < M → 0 ≤ dot (q j) v) ∧ 0 < dot (q m0) v ∧ dot (q m1) v = 0 ∧ dot (q m1) w ≠ 0 ∧ ∀ x, dot x v = al * dot x y + be * dot x w := by
  obtain ⟨j0, j1, j2⟩ := hj
  obtain ⟨m1, a1, a2, a3⟩ := least (f := fun j => dot (q j) y) (k := fun j => - dot (q j) w) (M := M) ⟨j0, j1, by show 0 < - dot (q j0) w; omega⟩
  refine ⟨fun i => (- dot (q m1) w) * y i + dot (q m1) y * w i, m1, - dot (q m1) w, dot (q m1) y, a1, fun j hj => ?_, ?_, ?_, by omega, fun x => dot_lin x y w _ _⟩
  · rw [dot_lin]
    have h1 := hy j hj
    have h2 := hy m1 a1
    have h3 : 0 ≤ - dot (q m1) w * dot (q j) y := Int.mul_nonneg (by omega) h1
    by_cases qj : 0 ≤ dot (q j) w
    · have h4 : 0 ≤ dot (q m1) y * dot (q j) w := Int.mul_nonneg h2 qj
      omega
    · have h4 := a3 j hj (by omega)
      rw [Int.mul_neg] at h4
      have h5 : dot (q j) y * - dot (q m1) w = - dot (q m1) w * dot (q j) y := Int.mul_comm _ _
      omega
  · rw [dot_lin, hw, Int.mul_zero, Int.add_zero]
    exact Int.mul_pos (by omega) hm
  · rw [dot_lin]
    have : dot (q m1) y * dot (q m1) w = dot (q m1) w * dot (q m1) y := Int.mul_comm _ _
    rw [Int.neg_mul]
    omega
theorem slide {q : Nat → Nat → Int} {M m0 : Nat} {y w : Nat → Int} (hy : ∀ j, j < M → 0 ≤ dot (q j) y) (hm : 0 < dot (q m0) y) (hw : dot (q m0) w = 0) (hj : ∃ j, j < M ∧ dot (q j) w ≠ 0) : ∃ v m1 al be, m1 < M ∧ (∀ j, j < M → 0 ≤ dot (q j) v) ∧ 0 < dot (q m0) v ∧ dot (q m1) v = 0 ∧ dot (q m1) w ≠ 0 ∧ ∀ x, dot x v = al * dot x y + be * dot x w := by
  obtain ⟨j, j1, j2⟩ := hj
  by_cases q0 : dot (q j) w < 0
  · exact slide1 hy hm hw ⟨j, j1, q0⟩
  · obtain ⟨v, m1, al, be, a1, a2, a3, a4, a5, a6⟩ := slide1 (w := fun i => - w i) hy hm (by rw [dot_neg, hw]; rfl) ⟨j, j1, by rw [dot_neg]; omega⟩
    refine ⟨v, m1, al, -be, a1, a2, a3, a4, fun e => a5 (by rw [dot_neg, e]; rfl), fun x => ?_⟩
    rw [a6 x, dot_neg, Int.mul_neg, Int.neg_mul]
theorem crs_sq (x y : Nat → Int) : dot (crs x y) (crs x y) = dot x x * dot y y - dot x y * dot x y := by
  unfold dot
  simp only [crs_0, crs_1, crs_2]
  grind
theorem not_n0 {v : Nat → Int} (h : n0t v = false) : 0 < dot v v := by
  obtain ⟨h1, h2⟩ := dot_self (x := v)
  by_cases q : dot v v = 0
  · have := (n0t_iff v).mpr (h2 q)
    rw [h] at this
    cases this
  · omega
theorem n0_of {v : Nat → Int} (h : ¬ 0 < dot v v) : v 0 = 0 ∧ v 1 = 0 ∧ v 2 = 0 := by
  obtain ⟨h1, h2⟩ := dot_self (x := v)
  exact h2 (by omega)
theorem dot_0 {x v : Nat → Int} (h : v 0 = 0 ∧ v 1 = 0 ∧ v 2 = 0) : dot x v = 0 := by
  unfold dot
  rw [h.1, h.2.1, h.2.2]
  omega
theorem OS_of {q : Nat → Nat → Int} {M m0 : Nat} {k v : Nat → Int} {c d : Int} (hv : ∀ j, j < M → 0 ≤ dot (q j) v) (h0 : 0 < dot (q m0) v) (hm : m0 < M) (hd : 0 < d) (he : ∀ j, j < M → dot (q j) k * c = dot (q j) v * d) : OS q k M ∧ dot (q m0) k ≠ 0 := by
  have e0 := he m0 hm
  have p0 : 0 < dot (q m0) v * d := Int.mul_pos h0 hd
  have n0 : dot (q m0) k ≠ 0 := fun e => by rw [e, Int.zero_mul] at e0; omega
  refine ⟨?_, n0⟩
  by_cases hc : 0 < c
  · refine Or.inl (fun j hj => ?_)
    have h1 := he j hj
    have h2 : 0 ≤ dot (q j) v * d := Int.mul_nonneg (hv j hj) (by omega)
    by_cases q1 : 0 ≤ dot (q j) k
    · exact q1
    · have : dot (q j) k * c < 0 := Int.mul_neg_of_neg_of_pos (by omega) hc
      omega
  · have hc' : c < 0 := by
      by_cases q2 : c = 0
      · rw [q2, Int.mul_zero] at e0; omega
      · omega
    refine Or.inr (fun j hj => ?_)
    have h1 := he j hj
    have h2 : 0 ≤ dot (q j) v * d := Int.mul_nonneg (hv j hj) (by omega)
    by_cases q1 : dot (q j) k ≤ 0
    · exact q1
    · have : dot (q j) k * c < 0 := Int.mul_neg_of_pos_of_neg (by omega) hc'
      omega
theorem crs_swap (x y : Nat → Int) : ∀ z, dot z (crs y x) = - dot z (crs x y) := by
  intro z
  unfold dot
  simp only [crs_0, crs_1, crs_2]
  grind
theorem OS_neg {q : Nat → Nat → Int} {M : Nat} {k k' : Nat → Int} (h : ∀ z, dot z k' = - dot z k) (o : OS q k M) : OS q k' M := by
  rcases o with o | o
  · exact Or.inr (fun j hj => by rw [h]; have := o j hj; omega)
  · exact Or.inl (fun j hj => by rw [h]; have := o j hj; omega)
/-- whoever is asked is reached by an edge -/
theorem edge {q : Nat → Nat → Int} {M m0 : Nat} {y : Nat → Int} (hm : m0 < M) (hy : ∀ j, j < M → 0 ≤ dot (q j) y) (h0 : 0 < dot (q m0) y) (hz : ∀ j, j < M → 0 < dot (q j) y ∨ (q j 0 = 0 ∧ q j 1 = 0 ∧ q j 2 = 0)) : ((∀ a b, b < a → a < M → n0t (crs (q a) (q b)) = true) → OS q (q m0) M ∧ dot (q m0) (q m0) ≠ 0) ∧ ∀ a b, a < M → b < M → n0t (crs (q a) (q b)) = false → (∃ m1 m2, m1 < M ∧ m2 < m1 ∧ OS q (crs (q m1) (q m2)) M ∧ dot (q m0) (crs (q m1) (q m2)) ≠ 0) ∨ (∃ m1, m1 < M ∧ OS q (crs (crs (q a) (q b)) (q m1)) M ∧ dot (q m0) (crs (crs (q a) (q b)) (q m1)) ≠ 0) := by
  have hself : 0 < dot (q m0) (q m0) := by
    by_cases q0 : 0 < dot (q m0) (q m0)
    · exact q0
    · have := dot_0 (x := y) (n0_of q0)
      rw [dot_comm] at this
      omega
  constructor
  · intro hall
    refine ⟨Or.inl (fun j hj => ?_), by omega⟩
    rcases hz j hj with hj0 | hj0
    · by_cases qj : j = m0
      · rw [qj]; omega
      · have hp : n0t (crs (q j) (q m0)) = true ∨ n0t (crs (q m0) (q j)) = true := by
          rcases Nat.lt_or_gt_of_ne qj with l | l
          · exact Or.inr (hall m0 j l hm)
          · exact Or.inl (hall j m0 l hj)
        have key : dot (q j) (q m0) * dot (q m0) y = dot (q m0) (q m0) * dot (q j) y := by
          rcases hp with hp | hp
          · exact par hp
          · exact (par hp).symm
        have : 0 < dot (q m0) (q m0) * dot (q j) y := Int.mul_pos hself hj0
        by_cases q1 : 0 ≤ dot (q j) (q m0)
        · exact q1
        · have : dot (q j) (q m0) * dot (q m0) y < 0 := Int.mul_neg_of_neg_of_pos (by omega) h0
          omega
    · rw [dot_comm, dot_0 hj0]
      exact Int.le_refl _
  · intro a b ha hb hn
    have hnn := not_n0 hn
    by_cases hpl : ∀ j, j < M → dot (q j) (crs (q a) (q b)) = 0
    · refine Or.inr ?_
      have hw0 : dot (q m0) (crs (crs (q a) (q b)) (q m0)) = 0 := crs_dot2 _ _
      have hex : ∃ j, j < M ∧ dot (q j) (crs (crs (q a) (q b)) (q m0)) ≠ 0 := by
        by_cases q1 : dot (q a) (crs (crs (q a) (q b)) (q m0)) = 0
        · by_cases q2 : dot (q b) (crs (crs (q a) (q b)) (q m0)) = 0
          · exfalso
            have h3 : dot (crs (q a) (q b)) (crs (crs (q a) (q b)) (q m0)) = 0 := crs_dot1 _ _
            have h4 := span3 (a := q a) (b := q b) (c := crs (q a) (q b)) (by omega) q1 q2 h3
            have h5 := crs_sq (crs (q a) (q b)) (q m0)
            rw [dot_0 h4, dot_comm (crs (q a) (q b)) (q m0), hpl m0 hm, Int.mul_zero] at h5
            have h6 : 0 < dot (crs (q a) (q b)) (crs (q a) (q b)) * dot (q m0) (q m0) := Int.mul_pos hnn hself
            omega
          · exact ⟨b, hb, q2⟩
        · exact ⟨a, ha, q1⟩
      obtain ⟨v, m1, al, be, a1, a2, a3, a4, a5, a6⟩ := slide hy h0 hw0 hex
      refine ⟨m1, a1, ?_⟩
      have hm1 : 0 < dot (q m1) (q m1) := by
        by_cases q0 : 0 < dot (q m1) (q m1)
        · exact q0
        · have := dot_0 (x := crs (crs (q a) (q b)) (q m0)) (n0_of q0)
          rw [dot_comm] at this
          exact absurd this a5
      have g1 : dot (crs (q a) (q b)) (q m1) = 0 := by rw [dot_comm]; exact hpl m1 a1
      refine OS_of (c := dot v (crs (crs (q a) (q b)) (q m1))) (d := dot (crs (q a) (q b)) (crs (q a) (q b)) * dot (q m1) (q m1)) a2 a3 hm (Int.mul_pos hnn hm1) (fun j hj => ?_)
      exact gram rfl g1 (by rw [dot_comm]; exact hpl j hj) a4
    · refine Or.inl ?_
      obtain ⟨c, hc, hcd⟩ : ∃ c, c < M ∧ dot (q c) (crs (q a) (q b)) ≠ 0 := by
        by_cases q0 : ∃ c, c < M ∧ dot (q c) (crs (q a) (q b)) ≠ 0
        · exact q0
        · exact absurd (fun j hj => by
            by_cases q1 : dot (q j) (crs (q a) (q b)) = 0
            · exact q1
            · exact absurd ⟨j, hj, q1⟩ q0) hpl
      have sp : ∀ w : Nat → Int, 0 < dot w w → ∃ j, j < M ∧ dot (q j) w ≠ 0 := by
        intro w hw
        by_cases q1 : dot (q a) w = 0
        · by_cases q2 : dot (q b) w = 0
          · by_cases q3 : dot (q c) w = 0
            · have := dot_0 (x := w) (span3 hcd q1 q2 q3)
              omega
            · exact ⟨c, hc, q3⟩
          · exact ⟨b, hb, q2⟩
        · exact ⟨a, ha, q1⟩
      obtain ⟨w1, hw1, hw1z⟩ : ∃ w1 : Nat → Int, dot (q m0) w1 = 0 ∧ 0 < dot w1 w1 := by
        by_cases q1 : n0t (crs (q m0) (q a)) = true
        · by_cases q2 : n0t (crs (q m0) (q b)) = true
          · exfalso
            have p1 := par (z := q m0) (w := crs (q a) (q b)) q1
            obtain ⟨d0, d1, d2⟩ := (n0t_iff _).mp q1
            obtain ⟨f0, f1, f2⟩ := (n0t_iff _).mp q2
            simp only [crs_0, crs_1, crs_2] at d0 d1 d2 f0 f1 f2
            have hz3 : ∀ i, i < 3 → q m0 i * crs (q a) (q b) 0 = 0 ∧ q m0 i * crs (q a) (q b) 1 = 0 ∧ q m0 i * crs (q a) (q b) 2 = 0 := by
              intro i hi
              simp only [crs_0, crs_1, crs_2]
              rcases (by omega : i = 0 ∨ i = 1 ∨ i = 2) with e | e | e <;> subst e <;> refine ⟨?_, ?_, ?_⟩ <;> grind
            have hne : q m0 0 ≠ 0 ∨ q m0 1 ≠ 0 ∨ q m0 2 ≠ 0 := by
              by_cases e0 : q m0 0 = 0
              · by_cases e1 : q m0 1 = 0
                · by_cases e2 : q m0 2 = 0
                  · have := dot_0 (x := q m0) ⟨e0, e1, e2⟩
                    omega
                  · exact Or.inr (Or.inr e2)
                · exact Or.inr (Or.inl e1)
              · exact Or.inl e0
            have fin : ∀ i, i < 3 → q m0 i ≠ 0 → False := by
              intro i hi hne
              obtain ⟨z0, z1, z2⟩ := hz3 i hi
              have c0 : crs (q a) (q b) 0 = 0 := (Int.mul_eq_zero.mp z0).resolve_left hne
              have c1 : crs (q a) (q b) 1 = 0 := (Int.mul_eq_zero.mp z1).resolve_left hne
              have c2 : crs (q a) (q b) 2 = 0 := (Int.mul_eq_zero.mp z2).resolve_left hne
              have := dot_0 (x := crs (q a) (q b)) ⟨c0, c1, c2⟩
              omega
            rcases hne with e | e | e
            · exact fin 0 (by decide) e
            · exact fin 1 (by decide) e
            · exact fin 2 (by decide) e
          · exact ⟨crs (q m0) (q b), crs_dot1 _ _, not_n0 (by cases hq : n0t (crs (q m0) (q b)) with | true => exact absurd hq q2 | false => rfl)⟩
        · exact ⟨crs (q m0) (q a), crs_dot1 _ _, not_n0 (by cases hq : n0t (crs (q m0) (q a)) with | true => exact absurd hq q1 | false => rfl)⟩
      obtain ⟨v1, m1, al, be, a1, a2, a3, a4, a5, a6⟩ := slide hy h0 hw1 (sp w1 hw1z)
      have hm1 : 0 < dot (q m1) (q m1) := by
        by_cases q0 : 0 < dot (q m1) (q m1)
        · exact q0
        · have := dot_0 (x := w1) (n0_of q0)
          rw [dot_comm] at this
          exact absurd this a5
      have hw2 : 0 < dot (crs (q m0) (q m1)) (crs (q m0) (q m1)) := by
        cases hq : n0t (crs (q m0) (q m1)) with
        | false => exact not_n0 hq
        | true =>
          exfalso
          have p1 := par (z := q m1) (w := v1) hq
          rw [a4, Int.zero_mul] at p1
          have : 0 < dot (q m0) v1 * dot (q m1) (q m1) := Int.mul_pos a3 hm1
          omega
      obtain ⟨v2, m2, al2, be2, b1, b2, b3, b4, b5, b6⟩ := slide a2 a3 (crs_dot1 (q m0) (q m1)) (sp _ hw2)
      have m1v2 : dot (q m1) v2 = 0 := by rw [b6, a4, crs_dot2, Int.mul_zero, Int.mul_zero]; rfl
      have hk : 0 < dot (crs (q m1) (q m2)) (crs (q m1) (q m2)) := by
        cases hq : n0t (crs (q m1) (q m2)) with
        | false => exact not_n0 hq
        | true =>
          exfalso
          have p1 := par (z := q m1) (w := crs (q m0) (q m1)) hq
          rw [crs_dot2, Int.zero_mul] at p1
          have h5 : dot (q m2) (crs (q m0) (q m1)) * dot (q m1) (q m1) ≠ 0 := fun e => (Int.mul_eq_zero.mp e).elim b5 (by omega)
          exact h5 p1.symm
      have hpk : ∀ j, dot (q j) (crs (q m1) (q m2)) * dot v2 (crs (q m1) (q m2)) = dot (q j) v2 * dot (crs (q m1) (q m2)) (crs (q m1) (q m2)) := by
        intro j
        have c4 := b4
        have c5 := m1v2
        unfold dot at c4 c5 ⊢
        simp only [crs_0, crs_1, crs_2]
        grind
      have os := OS_of (m0 := m0) (k := crs (q m1) (q m2)) (c := dot v2 (crs (q m1) (q m2))) (d := dot (crs (q m1) (q m2)) (crs (q m1) (q m2))) b2 b3 hm hk (fun j hj => hpk j)
      have hne : m1 ≠ m2 := fun e => by
        rw [← e] at hk
        have h7 := crs_sq (q m1) (q m1)
        omega
      rcases Nat.lt_or_gt_of_ne hne with l | l
      · refine ⟨m2, m1, b1, l, OS_neg (crs_swap (q m1) (q m2)) os.1, ?_⟩
        rw [crs_swap]
        have := os.2
        omega
      · exact ⟨m1, m2, a1, l, os⟩
