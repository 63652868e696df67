/-! THE REFERENCE: net: members -/
theorem nx_dec6 {k : Nat} {num : Nat → Int64} {lo hi : Int} {at' : Nat} {Q : Prop} {A B X B4 B6 : Option eR} {dq : Decidable ((lo ≤ (num at').toInt ∧ (num at').toInt ≤ hi) ∧ ¬ Q)} (e1 : A = if at' < k then B else B6) (e2 : at' < k → B = @ite _ ((lo ≤ (num at').toInt ∧ (num at').toInt ≤ hi) ∧ ¬ Q) dq X B4) : (A = X ∧ nx k num lo hi (at', 0) = ((num at').toInt, at' + 1, 0) ∧ (lo ≤ (num at').toInt ∧ (num at').toInt ≤ hi) ∧ ¬ Q) ∨ (A = B4 ∧ nx k num lo hi (at', 0) = ((num at').toInt, at' + 1, 0) ∧ (lo ≤ (num at').toInt ∧ (num at').toInt ≤ hi) ∧ Q) ∨ (A = B4 ∧ (nx k num lo hi (at', 0)).2.2 = -4) ∨ (A = B6 ∧ (nx k num lo hi (at', 0)).2.2 = -6) := by
  rw [nx0]
  by_cases q : at' < k
  · rw [if_pos q, e2 q] at e1
    rw [if_neg (show ¬ k ≤ at' by omega)]
    by_cases q2 : lo ≤ (num at').toInt ∧ (num at').toInt ≤ hi
    · rw [if_neg (show ¬ ((num at').toInt < lo ∨ hi < (num at').toInt) by omega)]
      by_cases q3 : Q
      · rw [if_neg (fun e => e.2 q3)] at e1
        exact Or.inr (Or.inl ⟨e1, rfl, q2, q3⟩)
      · rw [if_pos ⟨q2, q3⟩] at e1
        exact Or.inl ⟨e1, rfl, q2, q3⟩
    · rw [if_neg (fun e => q2 e.1)] at e1
      rw [if_pos (by omega)]
      exact Or.inr (Or.inr (Or.inl ⟨e1, rfl⟩))
  · rw [if_neg q] at e1
    rw [if_pos (by omega)]
    exact Or.inr (Or.inr (Or.inr ⟨e1, rfl⟩))
section NE4
variable {h : eH} {jt mb hi wi rk co : Int32} {ro : Nat → Int32} {s : SC} {R : Nat → Int} {f : Nat → Int32} {sl k : Nat} {x6 x7 x8 x9 x10 x11 : Option Value} {num : Nat → Int64}
theorem n66_mb {m : Nat} (nu : NU h sl k num) (hs : sl < 8) (hk : k ≤ 60) (hm : m < rdM k num) (ht : tM k num m = (2 + 3 * rdJ k num + 3 * m, 0)) (fj : ∀ i, i < rdJ k num → FJn k num f i) (fm : ∀ i, i < m → FMn k num f i) : (tM k num (m + 1) = (2 + 3 * rdJ k num + 3 * (m + 1), 0) ∧ ∃ (f' : Nat → Int32) (y6 y7 y8 y9 y10 y11 : Option Value), ru 66 39 (LL sl k (2 + 3 * rdJ k num + 3 * m) (rdJ k num) (rdM k num) x6 x7 x8 x9 x10 x11) [] (hK (hq h f) jt mb hi wi rk co ro R s) = ru 66 39 (LL sl k (2 + 3 * rdJ k num + 3 * (m + 1)) (rdJ k num) (rdM k num) y6 y7 y8 y9 y10 y11) [] (hK (hq h f') jt mb hi wi rk co ro R s) ∧ (∀ i, i < rdJ k num → FJn k num f' i) ∧ ∀ i, i < m + 1 → FMn k num f' i) ∨ BAD h jt mb hi wi rk co ro R s k num (ru 66 39 (LL sl k (2 + 3 * rdJ k num + 3 * m) (rdJ k num) (rdM k num) x6 x7 x8 x9 x10 x11) [] (hK (hq h f) jt mb hi wi rk co ro R s)) := by
  have hJ := rdJ_bd k num
  have hM := rdM_bd k num
  obtain ⟨at', hat⟩ : ∃ at', at' = 2 + 3 * rdJ k num + 3 * m := ⟨_, rfl⟩
  rw [← hat] at ht ⊢
  have dT : tM k num (m + 1) = (nx k num 0 2 (rdT k num (at', 0))).2 := by rw [← ht]; rfl
  have bad : ∀ {A : Option eR} (g : Nat → Int32) (r : Int), (tM k num (m + 1)).2 = r → (r = -4 ∨ r = -6) → A = some (some (.int (if r = -4 then -4 else -6)), hK (hq h g) jt mb hi wi rk co ro R s) → BAD h jt mb hi wi rk co ro R s k num A := by
    intro A g r e1 e2 e3
    have e4 := rdR_M (k := k) (num := num) (m := m + 1) (by omega) (by rw [e1]; omega)
    refine ⟨by rw [e4, e1]; omega, g, ?_⟩
    rw [e3, e4, e1]
    rcases e2 with e2 | e2 <;> subst e2 <;> rfl
  have tb : ∀ (t : Nat × Int) (p : Int × Nat × Int), nx k num 0 ((rdJ k num : Int) - 1) (nx k num 0 ((rdJ k num : Int) - 1) t).2 = p → p.2.2 ≠ 0 → (nx k num 0 2 (rdT k num t)).2.2 = p.2.2 := by
    intro t p hp h0
    have e : rdT k num t = p.2 := by
      unfold rdT
      rw [hp]
      split
      · unfold rfs
        rw [if_neg h0]
      · rfl
    rw [e, nx_bad h0]
  obtain ⟨w1, E1⟩ := n66_p3 (h := hq h f) (jt := jt) (mb := mb) (hi := hi) (wi := wi) (rk := rk) (co := co) (ro := ro) (s := s) (R := R) (x6 := x6) (x7 := x7) (x8 := x8) (x9 := x9) (x10 := x10) (x11 := x11) (at' := at') (m := m) (a := 0) (nu_q nu f) hs hk (by omega) (by decide) hm hJ.2.1 hM.1
  rcases nx_dec (k := k) (num := num) (lo := 0) (hi := (rdJ k num : Int) - 1) E1 (fun hlt => n66_a5 (lok_of _) (by omega) hJ.2.1) with ⟨a1, p1, b1⟩ | ⟨a1, p1⟩ | ⟨a1, p1⟩
  rotate_left
  · exact Or.inr (bad f (-4) (by rw [dT, tb (at', 0) _ rfl (by rw [nx_bad (by rw [p1]; decide), p1]; decide), nx_bad (by rw [p1]; decide)]; exact p1) (Or.inl rfl) (by rw [a1]; rfl))
  · exact Or.inr (bad f (-6) (by rw [dT, tb (at', 0) _ rfl (by rw [nx_bad (by rw [p1]; decide), p1]; decide), nx_bad (by rw [p1]; decide)]; exact p1) (Or.inr rfl) (by rw [a1]; rfl))
  · obtain ⟨f1, hf1⟩ : ∃ f1, f1 = upd f at' (iI (num at').toInt) := ⟨_, rfl⟩
    rw [← hf1] at a1
    have rA : (rdA k num (at', 0) : Int) = (num at').toInt := by rw [(rdA_bd k num (at', 0)).2, p1]
    have fj1 : ∀ i, i < rdJ k num → FJn k num f1 i := fun i hi' => by rw [hf1]; exact (fj i hi').up (by omega)
    have fA : f1 (at' + 1 - 1) = nI (rdA k num (at', 0)) := by
      rw [hf1, show at' + 1 - 1 = at' by omega]
      unfold upd
      rw [if_pos rfl, ← rA]
      rfl
    obtain ⟨w2, E2⟩ := n66_p3 (h := hq h f1) (jt := jt) (mb := mb) (hi := hi) (wi := wi) (rk := rk) (co := co) (ro := ro) (s := s) (R := R) (x6 := some (.int (nI (1 + 3 * rdJ k num)))) (x7 := w1) (x8 := some (.long (lI (num at').toInt))) (x9 := none) (x10 := some (.int (nI 5))) (x11 := some (.int (nI 1))) (at' := at' + 1) (m := m) (a := 1) (nu_q nu f1) hs hk (by omega) (by decide) hm hJ.2.1 hM.1
    have pp : nx k num 0 ((rdJ k num : Int) - 1) (nx k num 0 ((rdJ k num : Int) - 1) (at', 0)).2 = nx k num 0 ((rdJ k num : Int) - 1) (at' + 1, 0) := by rw [p1]
    rcases nx_dec6 (k := k) (num := num) (lo := 0) (hi := (rdJ k num : Int) - 1) E2 (fun hlt => n66_a6 (A := rdA k num (at', 0)) (P := rdP k num) (lok_of _) (by omega) (by omega) hJ.2.1 (rdA_bd k num (at', 0)).1 fA (fun j hj => ⟨(fj1 j hj).1, (fj1 j hj).2.1⟩) (fun x j => rdP_bd k num x j)) with ⟨a2, p2, b2, c2⟩ | ⟨a2, p2, b2, c2⟩ | ⟨a2, p2⟩ | ⟨a2, p2⟩
    rotate_left
    · have rB : rdB k num (at', 0) = (num (at' + 1)).toInt.toNat := by unfold rdB; rw [pp, p2]
      have e : rdT k num (at', 0) = (at' + 1 + 1, -4) := by
        unfold rdT
        rw [pp, p2, rB, if_pos c2]
        rfl
      exact Or.inr (bad f1 (-4) (by rw [dT, e, nx_bad (show (-4 : Int) ≠ 0 by decide)]) (Or.inl rfl) (by rw [a1, a2]; rfl))
    · exact Or.inr (bad f1 (-4) (by rw [dT, tb (at', 0) _ pp (by rw [p2]; decide)]; exact p2) (Or.inl rfl) (by rw [a1, a2]; rfl))
    · exact Or.inr (bad f1 (-6) (by rw [dT, tb (at', 0) _ pp (by rw [p2]; decide)]; exact p2) (Or.inr rfl) (by rw [a1, a2]; rfl))
    · obtain ⟨f2, hf2⟩ : ∃ f2, f2 = upd f1 (at' + 1) (iI (num (at' + 1)).toInt) := ⟨_, rfl⟩
      rw [← hf2] at a2
      have rB : (rdB k num (at', 0) : Int) = (num (at' + 1)).toInt := by rw [(rdB_bd k num (at', 0)).2, pp, p2]
      have eT : rdT k num (at', 0) = (at' + 1 + 1, 0) := by
        unfold rdT
        rw [pp, p2, if_neg (fun e => c2 (by rw [show (num (at' + 1)).toInt.toNat = rdB k num (at', 0) by omega]; exact e))]
      rw [eT] at dT
      obtain ⟨w3, E3⟩ := n66_p3 (h := hq h f2) (jt := jt) (mb := mb) (hi := hi) (wi := wi) (rk := rk) (co := co) (ro := ro) (s := s) (R := R) (x6 := some (.int (nI (1 + 3 * rdJ k num)))) (x7 := w2) (x8 := some (.long (lI (num (at' + 1)).toInt))) (x9 := none) (x10 := some (.int (nI 6))) (x11 := some (.int (nI 1))) (at' := at' + 1 + 1) (m := m) (a := 2) (nu_q nu f2) hs hk (by omega) (by decide) hm hJ.2.1 hM.1
      rcases nx_dec (k := k) (num := num) (lo := 0) (hi := 2) E3 (fun hlt => n66_a7 (lok_of _) (by omega)) with ⟨a3, p3, b3⟩ | ⟨a3, p3⟩ | ⟨a3, p3⟩
      rotate_left
      · exact Or.inr (bad f2 (-4) (by rw [dT]; exact p3) (Or.inl rfl) (by rw [a1, a2, a3]; rfl))
      · exact Or.inr (bad f2 (-6) (by rw [dT]; exact p3) (Or.inr rfl) (by rw [a1, a2, a3]; rfl))
      · have rS : (rdS k num (at', 0) : Int) = (num (at' + 1 + 1)).toInt := by rw [(rdS_bd k num (at', 0)).2, eT, p3]
        refine Or.inl ⟨by rw [dT, p3, show 2 + 3 * rdJ k num + 3 * (m + 1) = at' + 1 + 1 + 1 by omega], upd f2 (at' + 1 + 1) (iI (num (at' + 1 + 1)).toInt), some (.int (nI (1 + 3 * rdJ k num))), w3, some (.long (lI (num (at' + 1 + 1)).toInt)), none, some (.int (nI 7)), some (.int (nI 1)), ?_, ?_, ?_⟩
        · rw [a1, a2, a3, show 2 + 3 * rdJ k num + 3 * (m + 1) = at' + 1 + 1 + 1 by omega]
        · intro i hi'
          rw [hf2]
          exact ((fj1 i hi').up (by omega)).up (by omega)
        · intro i hi'
          by_cases q : i < m
          · rw [hf2, hf1]
            exact (((fm i q).up (by omega)).up (by omega)).up (by omega)
          · have : i = m := by omega
            subst this
            unfold FMn
            rw [ht, hf2, hf1, show 2 + 3 * rdJ k num + 3 * i = at' by omega, show 3 + 3 * rdJ k num + 3 * i = at' + 1 by omega, show 4 + 3 * rdJ k num + 3 * i = at' + 1 + 1 by omega]
            unfold upd
            refine ⟨?_, ?_, ?_⟩
            · rw [if_neg (by omega), if_neg (by omega), if_pos rfl, ← rA]; rfl
            · rw [if_neg (by omega), if_pos rfl, ← rB]; rfl
            · rw [if_pos rfl, ← rS]; rfl
theorem n66_ms (nu : NU h sl k num) (hs : sl < 8) (hk : k ≤ 60) : ∀ r m f x6 x7 x8 x9 x10 x11, m + r = rdM k num → tM k num m = (2 + 3 * rdJ k num + 3 * m, 0) → (∀ i, i < rdJ k num → FJn k num f i) → (∀ i, i < m → FMn k num f i) → (rdR k num = 0 ∧ ∃ (f' : Nat → Int32) (y6 y7 y8 y9 y10 y11 : Option Value), ru 66 39 (LL sl k (2 + 3 * rdJ k num + 3 * m) (rdJ k num) (rdM k num) x6 x7 x8 x9 x10 x11) [] (hK (hq h f) jt mb hi wi rk co ro R s) = ru 66 39 (LL sl k (2 + 3 * rdJ k num + 3 * rdM k num) (rdJ k num) (rdM k num) y6 y7 y8 y9 y10 y11) [] (hK (hq h f') jt mb hi wi rk co ro R s) ∧ (∀ i, i < rdJ k num → FJn k num f' i) ∧ ∀ i, i < rdM k num → FMn k num f' i) ∨ BAD h jt mb hi wi rk co ro R s k num (ru 66 39 (LL sl k (2 + 3 * rdJ k num + 3 * m) (rdJ k num) (rdM k num) x6 x7 x8 x9 x10 x11) [] (hK (hq h f) jt mb hi wi rk co ro R s)) := by
  intro r
  induction r with
  | zero =>
    intro m f x6 x7 x8 x9 x10 x11 hm ht fj fm
    have e : m = rdM k num := by omega
    rw [e] at ht fm ⊢
    exact Or.inl ⟨by unfold rdR; rw [ht], f, x6, x7, x8, x9, x10, x11, rfl, fj, fm⟩
  | succ r ih =>
    intro m f x6 x7 x8 x9 x10 x11 hm ht fj fm
    rcases n66_mb (jt := jt) (mb := mb) (hi := hi) (wi := wi) (rk := rk) (co := co) (ro := ro) (s := s) (R := R) (x6 := x6) (x7 := x7) (x8 := x8) (x9 := x9) (x10 := x10) (x11 := x11) nu hs hk (show m < rdM k num by omega) ht fj fm with ⟨t1, f', y6, y7, y8, y9, y10, y11, e, fj', fm'⟩ | b
    · rw [e]
      exact ih (m + 1) f' y6 y7 y8 y9 y10 y11 (by omega) t1 fj' fm'
    · exact Or.inr b
/-- the whole reading -/
theorem n66_rd (nu : NU h sl k num) (hs : sl < 8) (hk : k ≤ 60) : (rdR k num = 0 ∧ ∃ (f' : Nat → Int32) (y6 y7 y8 y9 y10 y11 : Option Value), ru 66 39 (LL sl k 0 0 0 none none none none none none) [] (hK (hq h f) jt mb hi wi rk co ro R s) = ru 66 445 (LL sl k (2 + 3 * rdJ k num + 3 * rdM k num) (rdJ k num) (rdM k num) y6 y7 y8 y9 y10 y11) [] (hK (hq h f') jt mb hi wi rk co ro R s) ∧ (∀ i, i < rdJ k num → FJn k num f' i) ∧ ∀ i, i < rdM k num → FMn k num f' i) ∨ BAD h jt mb hi wi rk co ro R s k num (ru 66 39 (LL sl k 0 0 0 none none none none none none) [] (hK (hq h f) jt mb hi wi rk co ro R s)) := by
  have hJ := rdJ_bd k num
  have hM := rdM_bd k num
  have badJ : ∀ {A : Option eR} (g : Nat → Int32) (r : Int), (tJ k num 0).2 = r → (r = -4 ∨ r = -6) → A = some (some (.int (if r = -4 then -4 else -6)), hK (hq h g) jt mb hi wi rk co ro R s) → BAD h jt mb hi wi rk co ro R s k num A := by
    intro A g r e1 e2 e3
    have e4 := rdR_J (k := k) (num := num) (j := 0) (by omega) (by rw [e1]; omega)
    refine ⟨by rw [e4, e1]; omega, g, ?_⟩
    rw [e3, e4, e1]
    rcases e2 with e2 | e2 <;> subst e2 <;> rfl
  have badM : ∀ {A : Option eR} (g : Nat → Int32) (r : Int), (tM k num 0).2 = r → (r = -4 ∨ r = -6) → A = some (some (.int (if r = -4 then -4 else -6)), hK (hq h g) jt mb hi wi rk co ro R s) → BAD h jt mb hi wi rk co ro R s k num A := by
    intro A g r e1 e2 e3
    have e4 := rdR_M (k := k) (num := num) (m := 0) (by omega) (by rw [e1]; omega)
    refine ⟨by rw [e4, e1]; omega, g, ?_⟩
    rw [e3, e4, e1]
    rcases e2 with e2 | e2 <;> subst e2 <;> rfl
  obtain ⟨w1, E1⟩ := n66_p0 (h := hq h f) (jt := jt) (mb := mb) (hi := hi) (wi := wi) (rk := rk) (co := co) (ro := ro) (s := s) (R := R) (x6 := none) (x7 := none) (x8 := none) (x9 := none) (x10 := none) (x11 := none) (nu_q nu f) hs hk
  rcases nx_dec (k := k) (num := num) (lo := 1) (hi := 8) E1 (fun hlt => n66_a0 (lok_of _) (by omega)) with ⟨a1, p1, b1⟩ | ⟨a1, p1⟩ | ⟨a1, p1⟩
  rotate_left
  · exact Or.inr (badJ f (-4) p1 (Or.inl rfl) (by rw [a1]; rfl))
  · exact Or.inr (badJ f (-6) p1 (Or.inr rfl) (by rw [a1]; rfl))
  · have rJ : (rdJ k num : Int) = (num 0).toInt := by rw [hJ.2.2, p1]
    have t0 : tJ k num 0 = (1 + 3 * 0, 0) := by
      show (nx k num 1 8 (0, 0)).2 = _
      rw [p1]
    rw [show iI (num 0).toInt = nI (rdJ k num) by rw [← rJ]; rfl] at a1
    rw [a1]
    rcases n66_js (h := h) (jt := jt) (mb := mb) (hi := hi) (wi := wi) (rk := rk) (co := co) (ro := ro) (s := s) (R := R) nu hs hk (rdJ k num) 0 (upd f 0 (nI (rdJ k num))) (some (.int (nI 1))) w1 (some (.long (lI (num 0).toInt))) none (some (.int (nI 0))) (some (.int (nI 1))) (by omega) t0 (fun i hi' => absurd hi' (Nat.not_lt_zero _)) with ⟨t1, f1, y6, y7, y8, y9, y10, y11, e1, fj⟩ | b
    · have e1' : ru 66 39 [some (.ref 239), some (.int (nI sl)), some (.int (nI k)), some (.int (nI (0 + 1))), some (.int (nI (rdJ k num))), some (.int (nI 0)), some (.int (nI 1)), w1, some (.long (lI (num 0).toInt)), none, some (.int (nI 0)), some (.int (nI 1))] [] (hK (hq h (upd f 0 (nI (rdJ k num)))) jt mb hi wi rk co ro R s) = _ := e1
      rw [e1']
      obtain ⟨w2, E2⟩ := n66_p2 (h := hq h f1) (jt := jt) (mb := mb) (hi := hi) (wi := wi) (rk := rk) (co := co) (ro := ro) (s := s) (R := R) (M := 0) (x6 := y6) (x7 := y7) (x8 := y8) (x9 := y9) (x10 := y10) (x11 := y11) (at' := 1 + 3 * rdJ k num) (nu_q nu f1) hs hk rfl hJ.2.1
      have dM : tM k num 0 = (nx k num 0 14 (1 + 3 * rdJ k num, 0)).2 := by
        show (nx k num 0 14 (tJ k num (rdJ k num))).2 = _
        rw [t1]
      rcases nx_dec (k := k) (num := num) (lo := 0) (hi := 14) E2 (fun hlt => n66_a4 (lok_of _) (by omega)) with ⟨a2, p2, b2⟩ | ⟨a2, p2⟩ | ⟨a2, p2⟩
      rotate_left
      · exact Or.inr (badM f1 (-4) (by rw [dM]; exact p2) (Or.inl rfl) (by rw [a2]; rfl))
      · exact Or.inr (badM f1 (-6) (by rw [dM]; exact p2) (Or.inr rfl) (by rw [a2]; rfl))
      · have rM : (rdM k num : Int) = (num (1 + 3 * rdJ k num)).toInt := by rw [hM.2, t1, p2]
        rw [show iI (num (1 + 3 * rdJ k num)).toInt = nI (rdM k num) by rw [← rM]; rfl] at a2
        rw [a2]
        rcases n66_ms (h := h) (jt := jt) (mb := mb) (hi := hi) (wi := wi) (rk := rk) (co := co) (ro := ro) (s := s) (R := R) nu hs hk (rdM k num) 0 (upd f1 (1 + 3 * rdJ k num) (nI (rdM k num))) (some (.int (nI (1 + 3 * rdJ k num)))) w2 (some (.long (lI (num (1 + 3 * rdJ k num)).toInt))) none (some (.int (nI 4))) (some (.int (nI 1))) (by omega) (by rw [dM, p2, show 2 + 3 * rdJ k num + 3 * 0 = 1 + 3 * rdJ k num + 1 by omega]) (fun i hi' => (fj i hi').up (by omega)) (fun i hi' => absurd hi' (Nat.not_lt_zero _)) with ⟨z0, f2, v6, v7, v8, v9, v10, v11, e2, gj, gm⟩ | b
        · rw [show 2 + 3 * rdJ k num + 3 * 0 = 1 + 3 * rdJ k num + 1 by omega] at e2
          have e2' : ru 66 39 [some (.ref 239), some (.int (nI sl)), some (.int (nI k)), some (.int (nI (1 + 3 * rdJ k num + 1))), some (.int (nI (rdJ k num))), some (.int (nI (rdM k num))), some (.int (nI (1 + 3 * rdJ k num))), w2, some (.long (lI (num (1 + 3 * rdJ k num)).toInt)), none, some (.int (nI 4)), some (.int (nI 1))] [] (hK (hq h (upd f1 (1 + 3 * rdJ k num) (nI (rdM k num)))) jt mb hi wi rk co ro R s) = _ := e2
          rw [e2']
          obtain ⟨u6, u7, e3⟩ := n66_end (h := hq h f2) (jt := jt) (mb := mb) (hi := hi) (wi := wi) (rk := rk) (co := co) (ro := ro) (s := s) (R := R) (sl := sl) (k := k) (J := rdJ k num) (M := rdM k num) (x6 := v6) (x7 := v7) (x8 := v8) (x9 := v9) (x10 := v10) (x11 := v11) hJ.2.1 hM.1
          exact Or.inl ⟨z0, f2, u6, u7, v8, v9, v10, v11, e3, gj, gm⟩
        · rw [show 2 + 3 * rdJ k num + 3 * 0 = 1 + 3 * rdJ k num + 1 by omega] at b
          exact Or.inr b
    · exact Or.inr b
end NE4
