/-! THE REFERENCE: which rays reach whoever is asked -/
theorem edge2 {q : Nat → Nat → Int} {M m0 : Nat} {y : Nat → Int} (hm : m0 < M) (hy : ∀ j, j < M → 0 ≤ dot (q j) y) (h0 : 0 < dot (q m0) y) (hz : ∀ j, j < M → 0 < dot (q j) y ∨ (q j 0 = 0 ∧ q j 1 = 0 ∧ q j 2 = 0)) : ((∀ a b, b < a → a < M → n0t (crs (q a) (q b)) = true) → OS q (q m0) M ∧ dot (q m0) (q m0) ≠ 0) ∧ ∀ a b, a < M → b < M → n0t (crs (q a) (q b)) = false → (∃ m1 m2, m1 < M ∧ m2 < m1 ∧ OS q (crs (q m1) (q m2)) M ∧ dot (q m0) (crs (q m1) (q m2)) ≠ 0) ∨ ((∀ j, j < M → dot (q j) (crs (q a) (q b)) = 0) ∧ ∃ m1, m1 < M ∧ OS q (crs (crs (q a) (q b)) (q m1)) M ∧ dot (q m0) (crs (crs (q a) (q b)) (q m1)) ≠ 0) := by
  have hself : 0 < dot (q m0) (q m0) := by
    by_cases q0 : 0 < dot (q m0) (q m0)
    · exact q0
    · have := dot_0 (x := y) (n0_of q0)
      rw [dot_comm] at this
      omega
  constructor
  · intro hall
    refine ⟨Or.inl (fun j hj => ?_), by omega⟩
    rcases hz j hj with hj0 | hj0
    · by_cases qj : j = m0
      · rw [qj]; omega
      · have hp : n0t (crs (q j) (q m0)) = true ∨ n0t (crs (q m0) (q j)) = true := by
          rcases Nat.lt_or_gt_of_ne qj with l | l
          · exact Or.inr (hall m0 j l hm)
          · exact Or.inl (hall j m0 l hj)
        have key : dot (q j) (q m0) * dot (q m0) y = dot (q m0) (q m0) * dot (q j) y := by
          rcases hp with hp | hp
          · exact par hp
          · exact (par hp).symm
        have : 0 < dot (q m0) (q m0) * dot (q j) y := Int.mul_pos hself hj0
        by_cases q1 : 0 ≤ dot (q j) (q m0)
        · exact q1
        · have : dot (q j) (q m0) * dot (q m0) y < 0 := Int.mul_neg_of_neg_of_pos (by omega) h0
          omega
    · rw [dot_comm, dot_0 hj0]
      exact Int.le_refl _
  · intro a b ha hb hn
    have hnn := not_n0 hn
    by_cases hpl : ∀ j, j < M → dot (q j) (crs (q a) (q b)) = 0
    · refine Or.inr ⟨hpl, ?_⟩
      have hw0 : dot (q m0) (crs (crs (q a) (q b)) (q m0)) = 0 := crs_dot2 _ _
      have hex : ∃ j, j < M ∧ dot (q j) (crs (crs (q a) (q b)) (q m0)) ≠ 0 := by
        by_cases q1 : dot (q a) (crs (crs (q a) (q b)) (q m0)) = 0
        · by_cases q2 : dot (q b) (crs (crs (q a) (q b)) (q m0)) = 0
          · exfalso
            have h3 : dot (crs (q a) (q b)) (crs (crs (q a) (q b)) (q m0)) = 0 := crs_dot1 _ _
            have h4 := span3 (a := q a) (b := q b) (c := crs (q a) (q b)) (by omega) q1 q2 h3
            have h5 := crs_sq (crs (q a) (q b)) (q m0)
            rw [dot_0 h4, dot_comm (crs (q a) (q b)) (q m0), hpl m0 hm, Int.mul_zero] at h5
            have h6 : 0 < dot (crs (q a) (q b)) (crs (q a) (q b)) * dot (q m0) (q m0) := Int.mul_pos hnn hself
            omega
          · exact ⟨b, hb, q2⟩
        · exact ⟨a, ha, q1⟩
      obtain ⟨v, m1, al, be, a1, a2, a3, a4, a5, a6⟩ := slide hy h0 hw0 hex
      refine ⟨m1, a1, ?_⟩
      have hm1 : 0 < dot (q m1) (q m1) := by
        by_cases q0 : 0 < dot (q m1) (q m1)
        · exact q0
        · have := dot_0 (x := crs (crs (q a) (q b)) (q m0)) (n0_of q0)
          rw [dot_comm] at this
          exact absurd this a5
      have g1 : dot (crs (q a) (q b)) (q m1) = 0 := by rw [dot_comm]; exact hpl m1 a1
      refine OS_of (c := dot v (crs (crs (q a) (q b)) (q m1))) (d := dot (crs (q a) (q b)) (crs (q a) (q b)) * dot (q m1) (q m1)) a2 a3 hm (Int.mul_pos hnn hm1) (fun j hj => ?_)
      exact gram rfl g1 (by rw [dot_comm]; exact hpl j hj) a4
    · refine Or.inl ?_
      obtain ⟨c, hc, hcd⟩ : ∃ c, c < M ∧ dot (q c) (crs (q a) (q b)) ≠ 0 := by
        by_cases q0 : ∃ c, c < M ∧ dot (q c) (crs (q a) (q b)) ≠ 0
        · exact q0
        · exact absurd (fun j hj => by
            by_cases q1 : dot (q j) (crs (q a) (q b)) = 0
            · exact q1
            · exact absurd ⟨j, hj, q1⟩ q0) hpl
      have sp : ∀ w : Nat → Int, 0 < dot w w → ∃ j, j < M ∧ dot (q j) w ≠ 0 := by
        intro w hw
        by_cases q1 : dot (q a) w = 0
        · by_cases q2 : dot (q b) w = 0
          · by_cases q3 : dot (q c) w = 0
            · have := dot_0 (x := w) (span3 hcd q1 q2 q3)
              omega
            · exact ⟨c, hc, q3⟩
          · exact ⟨b, hb, q2⟩
        · exact ⟨a, ha, q1⟩
      obtain ⟨w1, hw1, hw1z⟩ : ∃ w1 : Nat → Int, dot (q m0) w1 = 0 ∧ 0 < dot w1 w1 := by
        by_cases q1 : n0t (crs (q m0) (q a)) = true
        · by_cases q2 : n0t (crs (q m0) (q b)) = true
          · exfalso
            have p1 := par (z := q m0) (w := crs (q a) (q b)) q1
            obtain ⟨d0, d1, d2⟩ := (n0t_iff _).mp q1
            obtain ⟨f0, f1, f2⟩ := (n0t_iff _).mp q2
            simp only [crs_0, crs_1, crs_2] at d0 d1 d2 f0 f1 f2
            have hz3 : ∀ i, i < 3 → q m0 i * crs (q a) (q b) 0 = 0 ∧ q m0 i * crs (q a) (q b) 1 = 0 ∧ q m0 i * crs (q a) (q b) 2 = 0 := by
              intro i hi
              simp only [crs_0, crs_1, crs_2]
              rcases (by omega : i = 0 ∨ i = 1 ∨ i = 2) with e | e | e <;> subst e <;> refine ⟨?_, ?_, ?_⟩ <;> grind
            have hne : q m0 0 ≠ 0 ∨ q m0 1 ≠ 0 ∨ q m0 2 ≠ 0 := by
              by_cases e0 : q m0 0 = 0
              · by_cases e1 : q m0 1 = 0
                · by_cases e2 : q m0 2 = 0
                  · have := dot_0 (x := q m0) ⟨e0, e1, e2⟩
                    omega
                  · exact Or.inr (Or.inr e2)
                · exact Or.inr (Or.inl e1)
              · exact Or.inl e0
            have fin : ∀ i, i < 3 → q m0 i ≠ 0 → False := by
              intro i hi hne
              obtain ⟨z0, z1, z2⟩ := hz3 i hi
              have c0 : crs (q a) (q b) 0 = 0 := (Int.mul_eq_zero.mp z0).resolve_left hne
              have c1 : crs (q a) (q b) 1 = 0 := (Int.mul_eq_zero.mp z1).resolve_left hne
              have c2 : crs (q a) (q b) 2 = 0 := (Int.mul_eq_zero.mp z2).resolve_left hne
              have := dot_0 (x := crs (q a) (q b)) ⟨c0, c1, c2⟩
              omega
            rcases hne with e | e | e
            · exact fin 0 (by decide) e
            · exact fin 1 (by decide) e
            · exact fin 2 (by decide) e
          · exact ⟨crs (q m0) (q b), crs_dot1 _ _, not_n0 (by cases hq : n0t (crs (q m0) (q b)) with | true => exact absurd hq q2 | false => rfl)⟩
        · exact ⟨crs (q m0) (q a), crs_dot1 _ _, not_n0 (by cases hq : n0t (crs (q m0) (q a)) with | true => exact absurd hq q1 | false => rfl)⟩
      obtain ⟨v1, m1, al, be, a1, a2, a3, a4, a5, a6⟩ := slide hy h0 hw1 (sp w1 hw1z)
      have hm1 : 0 < dot (q m1) (q m1) := by
        by_cases q0 : 0 < dot (q m1) (q m1)
        · exact q0
        · have := dot_0 (x := w1) (n0_of q0)
          rw [dot_comm] at this
          exact absurd this a5
      have hw2 : 0 < dot (crs (q m0) (q m1)) (crs (q m0) (q m1)) := by
        cases hq : n0t (crs (q m0) (q m1)) with
        | false => exact not_n0 hq
        | true =>
          exfalso
          have p1 := par (z := q m1) (w := v1) hq
          rw [a4, Int.zero_mul] at p1
          have : 0 < dot (q m0) v1 * dot (q m1) (q m1) := Int.mul_pos a3 hm1
          omega
      obtain ⟨v2, m2, al2, be2, b1, b2, b3, b4, b5, b6⟩ := slide a2 a3 (crs_dot1 (q m0) (q m1)) (sp _ hw2)
      have m1v2 : dot (q m1) v2 = 0 := by rw [b6, a4, crs_dot2, Int.mul_zero, Int.mul_zero]; rfl
      have hk : 0 < dot (crs (q m1) (q m2)) (crs (q m1) (q m2)) := by
        cases hq : n0t (crs (q m1) (q m2)) with
        | false => exact not_n0 hq
        | true =>
          exfalso
          have p1 := par (z := q m1) (w := crs (q m0) (q m1)) hq
          rw [crs_dot2, Int.zero_mul] at p1
          have h5 : dot (q m2) (crs (q m0) (q m1)) * dot (q m1) (q m1) ≠ 0 := fun e => (Int.mul_eq_zero.mp e).elim b5 (by omega)
          exact h5 p1.symm
      have hpk : ∀ j, dot (q j) (crs (q m1) (q m2)) * dot v2 (crs (q m1) (q m2)) = dot (q j) v2 * dot (crs (q m1) (q m2)) (crs (q m1) (q m2)) := by
        intro j
        have c4 := b4
        have c5 := m1v2
        unfold dot at c4 c5 ⊢
        simp only [crs_0, crs_1, crs_2]
        grind
      have os := OS_of (m0 := m0) (k := crs (q m1) (q m2)) (c := dot v2 (crs (q m1) (q m2))) (d := dot (crs (q m1) (q m2)) (crs (q m1) (q m2))) b2 b3 hm hk (fun j hj => hpk j)
      have hne : m1 ≠ m2 := fun e => by
        rw [← e] at hk
        have h7 := crs_sq (q m1) (q m1)
        omega
      rcases Nat.lt_or_gt_of_ne hne with l | l
      · refine ⟨m2, m1, b1, l, OS_neg (crs_swap (q m1) (q m2)) os.1, ?_⟩
        rw [crs_swap]
        have := os.2
        omega
      · exact ⟨m1, m2, a1, l, os⟩
theorem crs_cg {x x' y y' : Nat → Int} (h1 : ∀ i, i < 3 → x i = x' i) (h2 : ∀ i, i < 3 → y i = y' i) (i : Nat) : crs x y i = crs x' y' i := by
  unfold crs
  rw [h1 _ (Nat.mod_lt _ (by decide)), h1 _ (Nat.mod_lt _ (by decide)), h2 _ (Nat.mod_lt _ (by decide)), h2 _ (Nat.mod_lt _ (by decide))]
def TDq (q : Nat → Nat → Int) (M : Nat) (S v : Nat → Int) : Prop := OS q v M → ∀ m, m < M → dot (q m) v ≠ 0 → 0 < dot (q m) S
def MOq (q : Nat → Nat → Int) (M : Nat) (S S' : Nat → Int) : Prop := ∀ m, m < M → dot (q m) S ≤ dot (q m) S'
theorem MOq.refl (q : Nat → Nat → Int) (M : Nat) (S : Nat → Int) : MOq q M S S := fun _ _ => Int.le_refl _
theorem MOq.trans {q : Nat → Nat → Int} {M : Nat} {S S' S'' : Nat → Int} (x : MOq q M S S') (y : MOq q M S' S'') : MOq q M S S'' := fun m hm => Int.le_trans (x m hm) (y m hm)
theorem TDq.mono {q : Nat → Nat → Int} {M : Nat} {S S' v : Nat → Int} (x : TDq q M S v) (y : MOq q M S S') : TDq q M S' v := fun o m hm h => Int.lt_of_lt_of_le (x o m hm h) (y m hm)
theorem TDq.cg {q : Nat → Nat → Int} {M : Nat} {S v v' : Nat → Int} (x : TDq q M S v) (e : ∀ i, i < 3 → v' i = v i) : TDq q M S v' := fun o m hm h => by
  have ed : ∀ j, dot (q j) v' = dot (q j) v := fun j => dot_cg (fun _ _ => rfl) e
  refine x ?_ m hm (by rw [← ed]; exact h)
  rcases o with o | o
  · exact Or.inl (fun j hj => by rw [← ed]; exact o j hj)
  · exact Or.inr (fun j hj => by rw [← ed]; exact o j hj)
theorem OS_sc {q : Nat → Nat → Int} {M m0 : Nat} {k k' : Nat → Int} {d e : Int} (hd : 0 < d) (he : e ≠ 0) (h : ∀ z, dot z k' * d = e * dot z k) (o : OS q k M) (h0 : dot (q m0) k ≠ 0) : OS q k' M ∧ dot (q m0) k' ≠ 0 := by
  have n0 : dot (q m0) k' ≠ 0 := fun x => by
    have := h (q m0)
    rw [x, Int.zero_mul] at this
    rcases Int.mul_eq_zero.mp this.symm with y | y
    · exact he y
    · exact h0 y
  refine ⟨?_, n0⟩
  have pos : ∀ j, 0 ≤ e * dot (q j) k → 0 ≤ dot (q j) k' := fun j hj => by
    by_cases y : 0 ≤ dot (q j) k'
    · exact y
    · have : dot (q j) k' * d < 0 := Int.mul_neg_of_neg_of_pos (by omega) hd
      have := h (q j)
      omega
  have neg : ∀ j, e * dot (q j) k ≤ 0 → dot (q j) k' ≤ 0 := fun j hj => by
    by_cases y : dot (q j) k' ≤ 0
    · exact y
    · have : 0 < dot (q j) k' * d := Int.mul_pos (by omega) hd
      have := h (q j)
      omega
  by_cases hs : 0 < e
  · rcases o with o | o
    · exact Or.inl (fun j hj => pos j (Int.mul_nonneg (by omega) (o j hj)))
    · exact Or.inr (fun j hj => neg j (Int.mul_nonpos_of_nonneg_of_nonpos (by omega) (o j hj)))
  · rcases o with o | o
    · exact Or.inr (fun j hj => neg j (Int.mul_nonpos_of_nonpos_of_nonneg (by omega) (o j hj)))
    · exact Or.inl (fun j hj => pos j (Int.mul_nonneg_of_nonpos_of_nonpos (by omega) (o j hj)))
/-- one of the rays that the reference tries reaches whoever is asked -/
theorem edge3 {q : Nat → Nat → Int} {M m0 : Nat} {y : Nat → Int} (hm : m0 < M) (hy : ∀ j, j < M → 0 < dot (q j) y) : (OS q (q m0) M ∧ dot (q m0) (q m0) ≠ 0) ∨ (∃ a b, a < M ∧ b < M ∧ a ≠ b ∧ OS q (crs (q a) (q b)) M ∧ dot (q m0) (crs (q a) (q b)) ≠ 0) ∨ (∃ a b, a < M ∧ b < M ∧ a ≠ b ∧ OS q (crs (q a) (crs (q a) (q b))) M ∧ dot (q m0) (crs (q a) (crs (q a) (q b))) ≠ 0) := by
  obtain ⟨e1, e2⟩ := edge2 (q := q) (M := M) (m0 := m0) (y := y) hm (fun j hj => Int.le_of_lt (hy j hj)) (hy m0 hm) (fun j hj => Or.inl (hy j hj))
  by_cases hall : ∀ a b, b < a → a < M → n0t (crs (q a) (q b)) = true
  · exact Or.inl (e1 hall)
  · obtain ⟨a, b, hb, ha, hn⟩ : ∃ a b, b < a ∧ a < M ∧ n0t (crs (q a) (q b)) = false := by
      by_cases x : ∃ a b, b < a ∧ a < M ∧ n0t (crs (q a) (q b)) = false
      · exact x
      · exact absurd (fun a b hb ha => by
          cases z : n0t (crs (q a) (q b)) with
          | true => rfl
          | false => exact absurd ⟨a, b, hb, ha, z⟩ x) hall
    rcases e2 a b ha (by omega) hn with ⟨m1, m2, l1, l2, o, d⟩ | ⟨hpl, m1, l1, o, d⟩
    · exact Or.inr (Or.inl ⟨m1, m2, l1, by omega, by omega, o, d⟩)
    · refine Or.inr (Or.inr ?_)
      have hnn := not_n0 hn
      -- a partner for m1
      have key : ∀ b', b' < M → n0t (crs (q m1) (q b')) = false → ∃ a b, a < M ∧ b < M ∧ a ≠ b ∧ OS q (crs (q a) (crs (q a) (q b))) M ∧ dot (q m0) (crs (q a) (crs (q a) (q b))) ≠ 0 := by
        intro b' hb' hc
        have hcc := not_n0 hc
        have pa : dot (q m1) (crs (q a) (q b)) = 0 := hpl m1 l1
        have pb : dot (q b') (crs (q a) (q b)) = 0 := hpl b' hb'
        obtain ⟨n, hn'⟩ : ∃ n, n = crs (q a) (q b) := ⟨_, rfl⟩
        rw [← hn'] at pa pb hnn o d
        have par2 : ∀ z, dot z (crs (q m1) (crs (q m1) (q b'))) * dot n n = (- dot (crs (q m1) (q b')) n) * dot z (crs n (q m1)) := by
          intro z
          unfold dot at pa pb ⊢
          simp only [crs_0, crs_1, crs_2]
          grind
        have sq : dot (crs (q m1) (q b')) n * dot (crs (q m1) (q b')) n = dot (crs (q m1) (q b')) (crs (q m1) (q b')) * dot n n := by
          unfold dot at pa pb ⊢
          simp only [crs_0, crs_1, crs_2]
          grind
        have ne : - dot (crs (q m1) (q b')) n ≠ 0 := fun x => by
          have x' : dot (crs (q m1) (q b')) n = 0 := by omega
          rw [x', Int.zero_mul] at sq
          have := Int.mul_pos hcc hnn
          omega
        have hne : m1 ≠ b' := fun x => by
          subst x
          have h7 := crs_sq (q m1) (q m1)
          omega
        obtain ⟨w1, w2⟩ := OS_sc hnn ne par2 o d
        exact ⟨m1, b', l1, hb', hne, w1, w2⟩
      cases ca : n0t (crs (q m1) (q a)) with
      | false => exact key a ha ca
      | true =>
        cases cb : n0t (crs (q m1) (q b)) with
        | false => exact key b (by omega) cb
        | true =>
          exfalso
          obtain ⟨a0, a1, a2⟩ := (n0t_iff _).mp ca
          obtain ⟨b0, b1, b2⟩ := (n0t_iff _).mp cb
          have d1 := hy m1 l1
          rw [crs_0] at a0 b0
          rw [crs_1] at a1 b1
          rw [crs_2] at a2 b2
          have z0 : dot (q m1) y * crs (q a) (q b) 0 = 0 := by
            unfold dot; rw [crs_0]; grind
          have z1 : dot (q m1) y * crs (q a) (q b) 1 = 0 := by
            unfold dot; rw [crs_1]; grind
          have z2 : dot (q m1) y * crs (q a) (q b) 2 = 0 := by
            unfold dot; rw [crs_2]; grind
          have c0 : crs (q a) (q b) 0 = 0 := (Int.mul_eq_zero.mp z0).elim (fun e => by omega) id
          have c1 : crs (q a) (q b) 1 = 0 := (Int.mul_eq_zero.mp z1).elim (fun e => by omega) id
          have c2 : crs (q a) (q b) 2 = 0 := (Int.mul_eq_zero.mp z2).elim (fun e => by omega) id
          have := (n0t_iff (crs (q a) (q b))).mpr ⟨c0, c1, c2⟩
          rw [hn] at this
          cases this
