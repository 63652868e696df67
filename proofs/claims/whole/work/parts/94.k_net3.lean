/-! THE REFERENCE: net: the reading, whole -/
theorem nx_bad {k : Nat} {num : Nat → Int64} {lo hi : Int} {t : Nat × Int} (h : t.2 ≠ 0) : nx k num lo hi t = (lo, t) := by
  unfold nx
  rw [if_pos h]
section RP1
variable {k : Nat} {num : Nat → Int64}
theorem tJ_bad {j : Nat} (h : (tJ k num j).2 ≠ 0) : ∀ d, tJ k num (j + d) = tJ k num j := by
  intro d
  induction d with
  | zero => rfl
  | succ d ih =>
    show (nx k num 0 1 (nx k num (-20) 20 (nx k num (-20) 20 (tJ k num (j + d))).2).2).2 = _
    rw [ih, nx_bad h, nx_bad h, nx_bad h]
theorem rdT_bad {t : Nat × Int} (h : t.2 ≠ 0) : rdT k num t = t := by
  unfold rdT
  rw [nx_bad h, nx_bad h]
  dsimp only
  split
  · unfold rfs
    rw [if_neg h]
  · rfl
theorem tM_bad {m : Nat} (h : (tM k num m).2 ≠ 0) : ∀ d, tM k num (m + d) = tM k num m := by
  intro d
  induction d with
  | zero => rfl
  | succ d ih =>
    show (nx k num 0 2 (rdT k num (tM k num (m + d)))).2 = _
    rw [ih, rdT_bad h, nx_bad h]
theorem rdR_M {m : Nat} (hm : m ≤ rdM k num) (h : (tM k num m).2 ≠ 0) : rdR k num = (tM k num m).2 := by
  unfold rdR
  have := tM_bad h (rdM k num - m)
  rw [show m + (rdM k num - m) = rdM k num by omega] at this
  rw [this]
theorem rdR_J {j : Nat} (hj : j ≤ rdJ k num) (h : (tJ k num j).2 ≠ 0) : rdR k num = (tJ k num j).2 := by
  have e := tJ_bad h (rdJ k num - j)
  rw [show j + (rdJ k num - j) = rdJ k num by omega] at e
  have e2 : tM k num 0 = tJ k num j := by
    show (nx k num 0 14 (tJ k num (rdJ k num))).2 = _
    rw [e, nx_bad h]
  rw [rdR_M (m := 0) (Nat.zero_le _) (by rw [e2]; exact h), e2]
/-- what a number read comes to -/
theorem nx_dec {lo hi : Int} {at' : Nat} {A B X B4 B6 : Option eR} (e1 : A = if at' < k then B else B6) (e2 : at' < k → B = if lo ≤ (num at').toInt ∧ (num at').toInt ≤ hi then X else B4) : (A = X ∧ nx k num lo hi (at', 0) = ((num at').toInt, at' + 1, 0) ∧ lo ≤ (num at').toInt ∧ (num at').toInt ≤ hi) ∨ (A = B4 ∧ (nx k num lo hi (at', 0)).2.2 = -4) ∨ (A = B6 ∧ (nx k num lo hi (at', 0)).2.2 = -6) := by
  rw [nx0]
  by_cases q : at' < k
  · rw [if_pos q, e2 q] at e1
    rw [if_neg (show ¬ k ≤ at' by omega)]
    by_cases q2 : lo ≤ (num at').toInt ∧ (num at').toInt ≤ hi
    · rw [if_pos q2] at e1
      rw [if_neg (by omega)]
      exact Or.inl ⟨e1, rfl, q2⟩
    · rw [if_neg q2] at e1
      rw [if_pos (by omega)]
      exact Or.inr (Or.inl ⟨e1, rfl⟩)
  · rw [if_neg q] at e1
    rw [if_pos (by omega)]
    exact Or.inr (Or.inr ⟨e1, rfl⟩)
end RP1
section NE3
variable {h : eH} {jt mb hi wi rk co : Int32} {ro : Nat → Int32} {s : SC} {R : Nat → Int} {f : Nat → Int32} {sl k : Nat} {x6 x7 x8 x9 x10 x11 : Option Value} {num : Nat → Int64}
/-- refused -/
def BAD (h : eH) (jt mb hi wi rk co : Int32) (ro : Nat → Int32) (R : Nat → Int) (s : SC) (k : Nat) (num : Nat → Int64) (A : Option eR) : Prop := rdR k num ≠ 0 ∧ ∃ f', A = some (some (.int (iI (rdR k num))), hK (hq h f') jt mb hi wi rk co ro R s)
/-- joint j stands in the row -/
def FJn (k : Nat) (num : Nat → Int64) (f : Nat → Int32) (j : Nat) : Prop := f (1 + 3 * j) = iI (rdP k num 0 j) ∧ f (2 + 3 * j) = iI (rdP k num 1 j) ∧ f (3 + 3 * j) = ldI (rdF k num j)
def FMn (k : Nat) (num : Nat → Int64) (f : Nat → Int32) (m : Nat) : Prop := f (2 + 3 * rdJ k num + 3 * m) = nI (rdA k num (tM k num m)) ∧ f (3 + 3 * rdJ k num + 3 * m) = nI (rdB k num (tM k num m)) ∧ f (4 + 3 * rdJ k num + 3 * m) = nI (rdS k num (tM k num m))
theorem FJn.up {j a : Nat} {v : Int32} (x : FJn k num f j) (ha : 3 + 3 * j < a) : FJn k num (upd f a v) j := by
  obtain ⟨x1, x2, x3⟩ := x
  unfold FJn upd
  rw [if_neg (by omega), if_neg (by omega), if_neg (by omega)]
  exact ⟨x1, x2, x3⟩
theorem FMn.up {m a : Nat} {v : Int32} (x : FMn k num f m) (ha : 4 + 3 * rdJ k num + 3 * m < a) : FMn k num (upd f a v) m := by
  obtain ⟨x1, x2, x3⟩ := x
  unfold FMn upd
  rw [if_neg (by omega), if_neg (by omega), if_neg (by omega)]
  exact ⟨x1, x2, x3⟩
theorem nu_q (nu : NU h sl k num) (f : Nat → Int32) : NU (hq h f) sl k num := by
  obtain ⟨f3, e1, e2⟩ := nu
  exact ⟨f3, (hq_ne (by decide)).trans e1, e2⟩
theorem iI_01 {z : Int} (h : 0 ≤ z ∧ z ≤ 1) : iI z = ldI (decide (z = 1)) := by
  rcases (by omega : z = 0 ∨ z = 1) with e | e <;> subst e <;> rfl
/-- one joint -/
theorem n66_jt {j : Nat} (nu : NU h sl k num) (hs : sl < 8) (hk : k ≤ 60) (hj : j < rdJ k num) (ht : tJ k num j = (1 + 3 * j, 0)) (fj : ∀ i, i < j → FJn k num f i) : (tJ k num (j + 1) = (1 + 3 * (j + 1), 0) ∧ ∃ (f' : Nat → Int32) (y6 y7 y8 y9 y10 y11 : Option Value), ru 66 39 (LL sl k (1 + 3 * j) (rdJ k num) 0 x6 x7 x8 x9 x10 x11) [] (hK (hq h f) jt mb hi wi rk co ro R s) = ru 66 39 (LL sl k (1 + 3 * (j + 1)) (rdJ k num) 0 y6 y7 y8 y9 y10 y11) [] (hK (hq h f') jt mb hi wi rk co ro R s) ∧ ∀ i, i < j + 1 → FJn k num f' i) ∨ BAD h jt mb hi wi rk co ro R s k num (ru 66 39 (LL sl k (1 + 3 * j) (rdJ k num) 0 x6 x7 x8 x9 x10 x11) [] (hK (hq h f) jt mb hi wi rk co ro R s)) := by
  have hJ := rdJ_bd k num
  have dT : tJ k num (j + 1) = (nx k num 0 1 (nx k num (-20) 20 (nx k num (-20) 20 (1 + 3 * j, 0)).2).2).2 := by rw [← ht]; rfl
  have bad : ∀ {A : Option eR} (g : Nat → Int32) (r : Int), (tJ k num (j + 1)).2 = r → (r = -4 ∨ r = -6) → A = some (some (.int (if r = -4 then -4 else -6)), hK (hq h g) jt mb hi wi rk co ro R s) → BAD h jt mb hi wi rk co ro R s k num A := by
    intro A g r e1 e2 e3
    have e4 := rdR_J (k := k) (num := num) (j := j + 1) (by omega) (by rw [e1]; omega)
    refine ⟨by rw [e4, e1]; omega, g, ?_⟩
    rw [e3, e4, e1]
    rcases e2 with e2 | e2 <;> subst e2 <;> rfl
  obtain ⟨w1, E1⟩ := n66_p1 (h := hq h f) (jt := jt) (mb := mb) (hi := hi) (wi := wi) (rk := rk) (co := co) (ro := ro) (s := s) (R := R) (M := 0) (x6 := x6) (x7 := x7) (x8 := x8) (x9 := x9) (x10 := x10) (x11 := x11) (at' := 1 + 3 * j) (j := j) (a := 0) (nu_q nu f) hs hk rfl (by decide) hj hJ.2.1
  rcases nx_dec (k := k) (num := num) (lo := -20) (hi := 20) E1 (fun hlt => n66_a12 (a := 0) (by decide) (lok_of _) (by omega)) with ⟨a1, p1, b1⟩ | ⟨a1, p1⟩ | ⟨a1, p1⟩
  rotate_left
  · exact Or.inr (bad f (-4) (by rw [dT, nx_bad (t := (nx k num (-20) 20 (1 + 3 * j, 0)).2) (by rw [p1]; decide), nx_bad (by rw [p1]; decide)]; exact p1) (Or.inl rfl) (by rw [a1]; rfl))
  · exact Or.inr (bad f (-6) (by rw [dT, nx_bad (t := (nx k num (-20) 20 (1 + 3 * j, 0)).2) (by rw [p1]; decide), nx_bad (by rw [p1]; decide)]; exact p1) (Or.inr rfl) (by rw [a1]; rfl))
  · obtain ⟨f1, hf1⟩ : ∃ f1, f1 = upd f (1 + 3 * j) (iI (num (1 + 3 * j)).toInt) := ⟨_, rfl⟩
    rw [← hf1] at a1
    rw [p1] at dT
    have dT2 : tJ k num (j + 1) = (nx k num 0 1 (nx k num (-20) 20 (1 + 3 * j + 1, 0)).2).2 := dT
    obtain ⟨w2, E2⟩ := n66_p1 (h := hq h f1) (jt := jt) (mb := mb) (hi := hi) (wi := wi) (rk := rk) (co := co) (ro := ro) (s := s) (R := R) (M := 0) (x6 := some (.int (nI (1 + 3 * rdJ k num)))) (x7 := w1) (x8 := some (.long (lI (num (1 + 3 * j)).toInt))) (x9 := none) (x10 := some (.int (nI (1 + 0)))) (x11 := some (.int (nI 1))) (at' := 1 + 3 * j + 1) (j := j) (a := 1) (nu_q nu f1) hs hk (by omega) (by decide) hj hJ.2.1
    rcases nx_dec (k := k) (num := num) (lo := -20) (hi := 20) E2 (fun hlt => n66_a12 (a := 1) (by decide) (lok_of _) (by omega)) with ⟨a2, p2, b2⟩ | ⟨a2, p2⟩ | ⟨a2, p2⟩
    rotate_left
    · exact Or.inr (bad f1 (-4) (by rw [dT2, nx_bad (by rw [p2]; decide)]; exact p2) (Or.inl rfl) (by rw [a1, a2]; rfl))
    · exact Or.inr (bad f1 (-6) (by rw [dT2, nx_bad (by rw [p2]; decide)]; exact p2) (Or.inr rfl) (by rw [a1, a2]; rfl))
    · obtain ⟨f2, hf2⟩ : ∃ f2, f2 = upd f1 (1 + 3 * j + 1) (iI (num (1 + 3 * j + 1)).toInt) := ⟨_, rfl⟩
      rw [← hf2] at a2
      rw [p2] at dT2
      have dT3 : tJ k num (j + 1) = (nx k num 0 1 (1 + 3 * j + 1 + 1, 0)).2 := dT2
      obtain ⟨w3, E3⟩ := n66_p1 (h := hq h f2) (jt := jt) (mb := mb) (hi := hi) (wi := wi) (rk := rk) (co := co) (ro := ro) (s := s) (R := R) (M := 0) (x6 := some (.int (nI (1 + 3 * rdJ k num)))) (x7 := w2) (x8 := some (.long (lI (num (1 + 3 * j + 1)).toInt))) (x9 := none) (x10 := some (.int (nI (1 + 1)))) (x11 := some (.int (nI 1))) (at' := 1 + 3 * j + 1 + 1) (j := j) (a := 2) (nu_q nu f2) hs hk (by omega) (by decide) hj hJ.2.1
      rcases nx_dec (k := k) (num := num) (lo := 0) (hi := 1) E3 (fun hlt => n66_a3 (lok_of _) (by omega)) with ⟨a3, p3, b3⟩ | ⟨a3, p3⟩ | ⟨a3, p3⟩
      rotate_left
      · exact Or.inr (bad f2 (-4) (by rw [dT3]; exact p3) (Or.inl rfl) (by rw [a1, a2, a3]; rfl))
      · exact Or.inr (bad f2 (-6) (by rw [dT3]; exact p3) (Or.inr rfl) (by rw [a1, a2, a3]; rfl))
      · refine Or.inl ⟨by rw [dT3, p3, show 1 + 3 * (j + 1) = 1 + 3 * j + 1 + 1 + 1 by omega], upd f2 (1 + 3 * j + 1 + 1) (iI (num (1 + 3 * j + 1 + 1)).toInt), some (.int (nI (1 + 3 * rdJ k num))), w3, some (.long (lI (num (1 + 3 * j + 1 + 1)).toInt)), none, some (.int (nI 3)), some (.int (nI 1)), ?_, ?_⟩
        · rw [a1, a2, a3, show 1 + 3 * (j + 1) = 1 + 3 * j + 1 + 1 + 1 by omega]
        · intro i hi'
          by_cases q : i < j
          · rw [hf2, hf1]
            exact (((fj i q).up (by omega)).up (by omega)).up (by omega)
          · have : i = j := by omega
            subst this
            have r0 : rdP k num 0 i = (num (1 + 3 * i)).toInt := by
              unfold rdP
              rw [if_pos rfl, ht, p1]
            have r1 : rdP k num 1 i = (num (1 + 3 * i + 1)).toInt := by
              unfold rdP
              rw [if_neg (by decide), ht, p1, p2]
            have r2 : rdF k num i = decide ((num (1 + 3 * i + 1 + 1)).toInt = 1) := by
              unfold rdF
              rw [ht, p1, p2, p3]
            unfold FJn
            rw [r0, r1, r2, ← iI_01 b3, hf2, hf1]
            unfold upd
            refine ⟨?_, ?_, ?_⟩
            · rw [if_neg (by omega), if_neg (by omega), if_pos rfl]
            · rw [if_neg (by omega), if_pos (by omega)]
            · rw [if_pos (by omega)]
theorem n66_js (nu : NU h sl k num) (hs : sl < 8) (hk : k ≤ 60) : ∀ r j f x6 x7 x8 x9 x10 x11, j + r = rdJ k num → tJ k num j = (1 + 3 * j, 0) → (∀ i, i < j → FJn k num f i) → (tJ k num (rdJ k num) = (1 + 3 * rdJ k num, 0) ∧ ∃ (f' : Nat → Int32) (y6 y7 y8 y9 y10 y11 : Option Value), ru 66 39 (LL sl k (1 + 3 * j) (rdJ k num) 0 x6 x7 x8 x9 x10 x11) [] (hK (hq h f) jt mb hi wi rk co ro R s) = ru 66 39 (LL sl k (1 + 3 * rdJ k num) (rdJ k num) 0 y6 y7 y8 y9 y10 y11) [] (hK (hq h f') jt mb hi wi rk co ro R s) ∧ ∀ i, i < rdJ k num → FJn k num f' i) ∨ BAD h jt mb hi wi rk co ro R s k num (ru 66 39 (LL sl k (1 + 3 * j) (rdJ k num) 0 x6 x7 x8 x9 x10 x11) [] (hK (hq h f) jt mb hi wi rk co ro R s)) := by
  intro r
  induction r with
  | zero =>
    intro j f x6 x7 x8 x9 x10 x11 hj ht fj
    have : j = rdJ k num := by omega
    subst this
    exact Or.inl ⟨ht, f, x6, x7, x8, x9, x10, x11, rfl, fj⟩
  | succ r ih =>
    intro j f x6 x7 x8 x9 x10 x11 hj ht fj
    rcases n66_jt (jt := jt) (mb := mb) (hi := hi) (wi := wi) (rk := rk) (co := co) (ro := ro) (s := s) (R := R) (x6 := x6) (x7 := x7) (x8 := x8) (x9 := x9) (x10 := x10) (x11 := x11) nu hs hk (show j < rdJ k num by omega) ht fj with ⟨t1, f', y6, y7, y8, y9, y10, y11, e, fj'⟩ | b
    · rw [e]
      exact ih (j + 1) f' y6 y7 y8 y9 y10 y11 (by omega) t1 fj'
    · exact Or.inr b
end NE3
