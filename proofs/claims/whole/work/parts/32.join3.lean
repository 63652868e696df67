/-! WHOLE: join in numbers -/
theorem d99 {h : eH} {a b N M : Nat} {x y : Int} (wa : WV h a N x) (wb : WV h b M y) (hab : a ≠ b) (hN : N < 2 ^ 30) (hM : M < 2 ^ 30) (away : Bool) {z : Int} (hz : z = if away = true then x - y else x + y) (hfit : nd z.natAbs ≤ N) : ∃ h', den 99 [.ref a, .ref b, .int (if away = true then nI 1 else nI 0)] h = some (none, h') ∧ F2 a h h' ∧ WV h' a N z := by
  obtain ⟨c, hc, hc1, -⟩ := d97 wa wb hN hM
  obtain ⟨f, w1, w3, w4⟩ := wa
  obtain ⟨g, v1, v3, v4⟩ := wb
  have hs2 : (if away = true then nI 1 else nI 0) = nI 0 ∨ (if away = true then nI 1 else nI 0) = nI 1 := by
    cases away
    · exact Or.inl rfl
    · exact Or.inr rfl
  have key : ((z.natAbs : Int) = if x.natAbs < y.natAbs then (y.natAbs : Int) + (if sb x = (if sb y = (if away = true then nI 1 else nI 0) then 0 else 1) then 1 else -1) * x.natAbs else (x.natAbs : Int) + (if sb x = (if sb y = (if away = true then nI 1 else nI 0) then 0 else 1) then 1 else -1) * y.natAbs) ∧ (if z.natAbs = 0 then 0 else if x.natAbs < y.natAbs then (if sb y = (if away = true then nI 1 else nI 0) then 0 else 1) else sb x) = sb z := by
    unfold sb
    have q1 : ((0 : Int32) = nI 1) = False := by decide
    have q2 : ((0 : Int32) = nI 0) = True := by decide
    have q3 : ((1 : Int32) = nI 1) = True := by decide
    have q4 : ((1 : Int32) = nI 0) = False := by decide
    have q5 : ((1 : Int32) = 0) = False := by decide
    have q6 : ((0 : Int32) = 1) = False := by decide
    cases away <;> by_cases hx : x < 0 <;> by_cases hy : y < 0 <;> simp only [hx, hy, if_true, if_false, Bool.false_eq_true, q1, q2, q3, q4, q5, q6] at hz ⊢ <;> by_cases hlt : x.natAbs < y.natAbs <;> simp only [hlt, if_true, if_false] <;> refine ⟨by omega, ?_⟩ <;> by_cases h0 : z.natAbs = 0 <;> simp only [h0, if_true, if_false] <;> by_cases hzn : z < 0 <;> simp only [hzn, if_true, if_false] <;> first | rfl | (exfalso; omega)
  obtain ⟨F, hd, hF⟩ := d99_core w1 v1 hab hN hM w3 v3 w4 v4 (sb01 x) (sb01 y) hs2 hc hc1 key.1 hfit
  refine ⟨_, hd, (F2.up1 a h _).trans (F2.up a _ _), F, ⟨?_, ?_⟩, hfit, hF⟩
  · rw [eUp_at, key.2]
  · rw [eUp_ne (ne1 a), eUp_at]
