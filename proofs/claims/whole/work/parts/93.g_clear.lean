/-! THE REFERENCE: clear is the reduction -/
def PC (k : Nat) : Prop := (6 ≤ k ∧ k ≤ 10) ∨ (20 ≤ k ∧ k < 292)
def KC (R : Nat → Int) (M : Nat → Nat → Int) (hh w : Nat) : Prop := ∀ i j, i < hh → j < w → R (cel i j) = M i j
theorem pc_cel {i j : Nat} (hi : i < 16) (hj : j < 17) : PC (cel i j) := by unfold PC cel; omega
theorem sw_rk (M : Nat → Nat → Int) (f rk c : Nat) : sw M f rk rk c = M f c := by
  unfold sw
  by_cases q : rk = f
  · rw [if_pos q, q]
  · rw [if_neg q, if_pos rfl]
theorem sw_f (M : Nat → Nat → Int) (f rk c : Nat) : sw M f rk f c = M rk c := by
  unfold sw
  rw [if_pos rfl]
theorem sw_ne {M : Nat → Nat → Int} {f rk r c : Nat} (h1 : r ≠ f) (h2 : r ≠ rk) : sw M f rk r c = M r c := by
  unfold sw
  rw [if_neg h1, if_neg h2]
theorem sw_same (M : Nat → Nat → Int) (f r c : Nat) : sw M f f r c = M r c := by
  by_cases q : r = f
  · rw [q, sw_f]
  · rw [sw_ne q q]
section CL2
variable {h : eH} {jt mb co : Int32} {ro : Nat → Int32} {u c w hh rk : Nat} {M : Nat → Nat → Int} {x4 : Option Value}
theorem m31_find {R : Nat → Int} {s : SC} (hh16 : hh ≤ 16) (hw : w ≤ 17) (hc : c < w) (kc : KC R M hh w) (hb : ∀ i j, i < hh → j < w → (M i j).natAbs < BB ^ 5) : ∀ r p, p + r = hh → ru 31 31 [some (.ref 239), some (.int (nI u)), some (.int (nI c)), some (.int (nI p)), x4] [] (hK h jt mb (nI hh) (nI w) (nI rk) co ro R s) = ru 31 58 [some (.ref 239), some (.int (nI u)), some (.int (nI c)), some (.int (nI ((fr M c r p).getD hh))), x4] [] (hK h jt mb (nI hh) (nI w) (nI rk) co ro R s) := by
  intro r
  induction r with
  | zero =>
    intro p hp
    have : p = hh := by omega
    subst this
    rw [H31_31]
    simp only [S31, gFs, pFs, okq, bls, bo_true, eUp_at, eUp_eUp, eKls, cl_some, Option.toList_some, Option.toList_none, List.cons_append, List.nil_append, hK_o]
    rw [if_pos (nI_le (Nat.le_refl _) (by omega))]
    rfl
  | succ r ih =>
    intro p hp
    have u1 : 20 + 17 * p + c = cel p c := rfl
    have k1 := kc p c (by omega) hc
    have e1 := m25 (h := h) (jt := jt) (mb := mb) (hi := nI hh) (wi := nI w) (rk := nI rk) (co := co) (ro := ro) (s := s) (R := R) (a := cel p c) (by unfold cel; omega) (by rw [k1]; exact n23_5 (hb p c (by omega) hc))
    rw [k1] at e1
    rw [H31_31]
    simp only [S31, gFs, pFs, okq, bls, bo_true, eUp_at, eUp_eUp, eKls, cl_some, Option.toList_some, Option.toList_none, List.cons_append, List.nil_append, hK_o]
    rw [if_neg (nI_ge (by omega) (by omega))]
    simp only [S31, gFs, pFs, okq, bls, bo_true, eUp_at, eUp_eUp, eKls, cl_some, Option.toList_some, Option.toList_none, List.cons_append, List.nil_append, hK_o, m21, u1, e1]
    unfold fr
    by_cases q : M p c = 0
    · rw [decide_eq_true q, if_neg (show ¬ ldI true = 0 by decide), if_pos q]
      simp only [S31, gFs, pFs, okq, bls, bo_true, eUp_at, eUp_eUp, eKls, cl_some, Option.toList_some, Option.toList_none, List.cons_append, List.nil_append]
      rw [nI_1]
      exact ih (p + 1) (by omega)
    · rw [decide_eq_false q, if_pos (show ldI false = 0 by decide), if_neg q]
      rfl
theorem m31_swap {f : Nat} (hf : f < hh) (hr : rk < hh) (hfr : f ≠ rk) (hh16 : hh ≤ 16) (hw : w ≤ 17) {R0 : Nat → Int} : ∀ r j (R : Nat → Int) (s : SC), j + r = w → (∀ i x, i < hh → x < w → R (cel i x) = if x < j then sw M f rk i x else M i x) → Kr PC R0 R → R 8 = R0 8 → ∃ R' y4, ru 31 72 [some (.ref 239), some (.int (nI u)), some (.int (nI c)), some (.int (nI f)), some (.int (nI j))] [] (hK h jt mb (nI hh) (nI w) (nI rk) co ro R s) = ru 31 145 [some (.ref 239), some (.int (nI u)), some (.int (nI c)), some (.int (nI f)), y4] [] (hK h jt mb (nI hh) (nI w) (nI rk) co ro R' s) ∧ KC R' (sw M f rk) hh w ∧ Kr PC R0 R' ∧ R' 8 = R0 8 := by
  intro r
  induction r with
  | zero =>
    intro j R s hj k1 k2 k3
    have : j = w := by omega
    subst this
    refine ⟨R, _, ?_, fun i x hi hx => by rw [k1 i x hi hx, if_pos hx], k2, k3⟩
    rotate_left
    · rw [H31_72]
      simp only [S31, gFs, pFs, okq, bls, bo_true, eUp_at, eUp_eUp, eKls, cl_some, Option.toList_some, Option.toList_none, List.cons_append, List.nil_append, hK_o]
      rw [if_pos (nI_le (Nat.le_refl _) (by omega))]
  | succ r ih =>
    intro j R s hj k1 k2 k3
    have hjw : j < w := by omega
    have cf : cel f j < 412 ∧ cel f j ≠ 9 ∧ cel f j ≠ 8 := by unfold cel; omega
    have cr : cel rk j < 412 ∧ cel rk j ≠ 9 ∧ cel rk j ≠ 8 := by unfold cel; omega
    have cfr : cel rk j ≠ cel f j := fun e => hfr (((cel_inj (by omega) (by omega)).mp e).1).symm
    have r1 := k1 f j hf hjw
    have r2 := k1 rk j hr hjw
    rw [if_neg (Nat.lt_irrefl _)] at r1 r2
    have e1 := m20 (h := h) (jt := jt) (mb := mb) (hi := nI hh) (wi := nI w) (rk := nI rk) (co := co) (ro := ro) (s := s) (R := R) (a := 9) (b := cel f j) (by decide) cf.1 cf.2.1
    rw [r1] at e1
    have e2 := m20 (h := h) (jt := jt) (mb := mb) (hi := nI hh) (wi := nI w) (rk := nI rk) (co := co) (ro := ro) (s := s) (R := ur R 9 (M f j)) (a := cel f j) (b := cel rk j) cf.1 cr.1 cfr
    rw [ur_ne cr.2.1, r2] at e2
    have e3 := m20 (h := h) (jt := jt) (mb := mb) (hi := nI hh) (wi := nI w) (rk := nI rk) (co := co) (ro := ro) (s := s) (R := ur (ur R 9 (M f j)) (cel f j) (M rk j)) (a := cel rk j) (b := 9) cr.1 (by decide) (fun e => cr.2.1 e.symm)
    rw [ur_ne (fun e => cf.2.1 e.symm), ur_at] at e3
    obtain ⟨R', y4, z1, z2, z3, z4⟩ := ih (j + 1) (ur (ur (ur R 9 (M f j)) (cel f j) (M rk j)) (cel rk j) (M f j)) s (by omega) (by
      intro i x hi hx
      by_cases q : x = j
      · subst q
        rw [if_pos (Nat.lt_succ_self _)]
        by_cases q1 : i = rk
        · rw [q1, ur_at, sw_rk]
        · rw [ur_ne (fun e => q1 ((cel_inj (by omega) (by omega)).mp e).1)]
          by_cases q2 : i = f
          · rw [q2, ur_at, sw_f]
          · rw [ur_ne (fun e => q2 ((cel_inj (by omega) (by omega)).mp e).1), ur_ne (by unfold cel; omega), k1 i x hi hx, if_neg (Nat.lt_irrefl _), sw_ne q2 q1]
      · rw [ur_ne (fun e => q ((cel_inj (by omega) (by omega)).mp e).2), ur_ne (fun e => q ((cel_inj (by omega) (by omega)).mp e).2), ur_ne (by unfold cel; omega), k1 i x hi hx]
        by_cases q2 : x < j
        · rw [if_pos q2, if_pos (by omega)]
        · rw [if_neg q2, if_neg (by omega)]) (((k2.up' (by unfold PC; omega)).up' (pc_cel (by omega) (by omega))).up' (pc_cel (by omega) (by omega))) (by rw [ur_ne (fun e => cr.2.2 e.symm), ur_ne (fun e => cf.2.2 e.symm), ur_ne (by decide)]; exact k3)
    refine ⟨R', y4, ?_, z2, z3, z4⟩
    have u1 : 20 + 17 * f + j = cel f j := rfl
    have u2 : 20 + 17 * rk + j = cel rk j := rfl
    rw [← z1, H31_72]
    simp only [S31, gFs, pFs, okq, bls, bo_true, eUp_at, eUp_eUp, eKls, cl_some, Option.toList_some, Option.toList_none, List.cons_append, List.nil_append, hK_o]
    rw [if_neg (nI_ge hjw (by omega))]
    simp only [S31, gFs, pFs, okq, bls, bo_true, eUp_at, eUp_eUp, eKls, cl_some, Option.toList_some, Option.toList_none, List.cons_append, List.nil_append, hK_o]
    rw [if_neg (fun e => hfr ((nI_inj (by omega) (by omega)).mp e))]
    simp only [S31, gFs, pFs, okq, bls, bo_true, eUp_at, eUp_eUp, eKls, cl_some, Option.toList_some, Option.toList_none, List.cons_append, List.nil_append, hK_o, m21, u1, u2, e1, e2, e3]
    rw [nI_1]
theorem m31_rows {bot : Int} {x3 : Option Value} (hr : rk < hh) (hh16 : hh ≤ 16) (hw : w ≤ 17) (hc : c < w) (b0 : bot ≠ 0) (bb : bot.natAbs < BB ^ 5) (hb : ∀ i j, i < hh → j < w → (M i j).natAbs < BB ^ 5) {R0 : Nat → Int} : ∀ r i (R : Nat → Int) (s : SC), i + r = hh → (∀ i' x, i' < hh → x < w → R (cel i' x) = if i' < i then clr M rk c (M rk c) bot i' x else M i' x) → Kr PC R0 R → R 8 = bot → ∃ R' y4 s', ru 31 148 [some (.ref 239), some (.int (nI u)), some (.int (nI c)), x3, some (.int (nI i))] [] (hK h jt mb (nI hh) (nI w) (nI rk) co ro R s) = ru 31 179 [some (.ref 239), some (.int (nI u)), some (.int (nI c)), x3, y4] [] (hK h jt mb (nI hh) (nI w) (nI rk) co ro R' s') ∧ KC R' (clr M rk c (M rk c) bot) hh w ∧ Kr PC R0 R' ∧ R' 8 = bot := by
  intro r
  induction r with
  | zero =>
    intro i R s hj k1 k2 k3
    have : i = hh := by omega
    subst this
    refine ⟨R, _, s, ?_, fun i x hi hx => by rw [k1 i x hi hx, if_pos hi], k2, k3⟩
    rotate_left
    · rw [H31_148]
      simp only [S31, gFs, pFs, okq, bls, bo_true, eUp_at, eUp_eUp, eKls, cl_some, Option.toList_some, Option.toList_none, List.cons_append, List.nil_append, hK_o]
      rw [if_pos (nI_le (Nat.le_refl _) (by omega))]
  | succ r ih =>
    intro i R s hj k1 k2 k3
    have hih : i < hh := by omega
    by_cases q : i = rk
    · subst q
      obtain ⟨R', y4, s', z1, z2⟩ := ih (i + 1) R s (by omega) (by
        intro i' x hi hx
        rw [k1 i' x hi hx]
        by_cases q2 : i' < i
        · rw [if_pos q2, if_pos (by omega)]
        · rw [if_neg q2]
          by_cases q3 : i' = i
          · rw [if_pos (by omega), q3]
            unfold clr
            rw [if_pos rfl]
          · rw [if_neg (by omega)]) k2 k3
      refine ⟨R', y4, s', ?_, z2⟩
      rw [← z1, H31_148]
      simp only [S31, gFs, pFs, okq, bls, bo_true, eUp_at, eUp_eUp, eKls, cl_some, Option.toList_some, Option.toList_none, List.cons_append, List.nil_append, hK_o]
      rw [if_neg (nI_ge hih (by omega))]
      simp only [S31, gFs, pFs, okq, bls, bo_true, eUp_at, eUp_eUp, eKls, cl_some, Option.toList_some, Option.toList_none, List.cons_append, List.nil_append, hK_o]
      rw [if_pos trivial]
      simp only [S31, gFs, pFs, okq, bls, bo_true, eUp_at, eUp_eUp, eKls, cl_some, Option.toList_some, Option.toList_none, List.cons_append, List.nil_append]
      rw [nI_1]
    · have rp : ∀ x, x < w → R (cel rk x) = M rk x := fun x hx => by
        rw [k1 rk x hr hx]
        by_cases q2 : rk < i
        · rw [if_pos q2]
          unfold clr
          rw [if_pos rfl]
        · rw [if_neg q2]
      have ri : ∀ x, x < w → R (cel i x) = M i x := fun x hx => by rw [k1 i x hih hx, if_neg (Nat.lt_irrefl _)]
      obtain ⟨R1, s1, e1, c1, c2, c3, c4⟩ := m30 (h := h) (jt := jt) (mb := mb) (hi := nI hh) (co := co) (ro := ro) (R := R) (s := s) (i := i) (p := rk) (c := c) (w := w) (M := M) (bot := bot) (by omega) (by omega) q hw hc rp ri (fun x hx => ⟨hb i x hih hx, hb rk x hr hx⟩) k3 b0 bb
      obtain ⟨R', y4, s', z1, z2⟩ := ih (i + 1) R1 s1 (by omega) (by
        intro i' x hi hx
        by_cases q2 : i' = i
        · subst q2
          rw [c1 x hx, if_pos hx, if_pos (Nat.lt_succ_self _)]
          unfold clr
          rw [if_neg q]
        · rw [c4 (cel i' x) (by unfold cel; omega) (by unfold cel; omega) (by unfold cel; omega) (fun y hy e => q2 ((cel_inj (by omega) (by omega)).mp e).1), k1 i' x hi hx]
          by_cases q3 : i' < i
          · rw [if_pos q3, if_pos (by omega)]
          · rw [if_neg q3, if_neg (by omega)]) (k2.trans (fun k hk => c4 k (fun e => hk (by unfold PC; omega)) (fun e => hk (by unfold PC; omega)) (fun e => hk (by unfold PC; omega)) (fun x hx e => hk (by rw [e]; exact pc_cel (by omega) (by omega))))) c3
      refine ⟨R', y4, s', ?_, z2⟩
      rw [← z1, H31_148]
      simp only [S31, gFs, pFs, okq, bls, bo_true, eUp_at, eUp_eUp, eKls, cl_some, Option.toList_some, Option.toList_none, List.cons_append, List.nil_append, hK_o]
      rw [if_neg (nI_ge hih (by omega))]
      simp only [S31, gFs, pFs, okq, bls, bo_true, eUp_at, eUp_eUp, eKls, cl_some, Option.toList_some, Option.toList_none, List.cons_append, List.nil_append, hK_o]
      rw [if_neg (fun e => q ((nI_inj (by omega) (by omega)).mp e))]
      simp only [S31, gFs, pFs, okq, bls, bo_true, eUp_at, eUp_eUp, eKls, cl_some, Option.toList_some, Option.toList_none, List.cons_append, List.nil_append, e1]
      rw [nI_1]
end CL2
