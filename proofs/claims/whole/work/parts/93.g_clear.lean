/-! THE REFERENCE: clear is the reduction -/
def PC (k : Nat) : Prop := (6 ≤ k ∧ k ≤ 10) ∨ (20 ≤ k ∧ k < 292)
def KC (R : Nat → Int) (M : Nat → Nat → Int) (hh w : Nat) : Prop := ∀ i j, i < hh → j < w → R (cel i j) = M i j
theorem pc_cel {i j : Nat} (hi : i < 16) (hj : j < 17) : PC (cel i j) := by unfold PC cel; omega
theorem sw_rk (M : Nat → Nat → Int) (f rk c : Nat) : sw M f rk rk c = M f c := by
  unfold sw
  by_cases q : rk = f
  · rw [if_pos q, q]
  · rw [if_neg q, if_pos rfl]
theorem sw_f (M : Nat → Nat → Int) (f rk c : Nat) : sw M f rk f c = M rk c := by
  unfold sw
  rw [if_pos rfl]
theorem sw_ne {M : Nat → Nat → Int} {f rk r c : Nat} (h1 : r ≠ f) (h2 : r ≠ rk) : sw M f rk r c = M r c := by
  unfold sw
  rw [if_neg h1, if_neg h2]
theorem sw_same (M : Nat → Nat → Int) (f r c : Nat) : sw M f f r c = M r c := by
  by_cases q : r = f
  · rw [q, sw_f]
  · rw [sw_ne q q]
section CL2
variable {h : eH} {jt mb co : Int32} {ro : Nat → Int32} {u c w hh rk : Nat} {M : Nat → Nat → Int} {x4 : Option Value}
theorem m31_find {R : Nat → Int} {s : SC} (hh16 : hh ≤ 16) (hw : w ≤ 17) (hc : c < w) (kc : KC R M hh w) (hb : ∀ i j, i < hh → j < w → (M i j).natAbs < BB ^ 5) : ∀ r p, p + r = hh → ru 31 31 [some (.ref 239), some (.int (nI u)), some (.int (nI c)), some (.int (nI p)), x4] [] (hK h jt mb (nI hh) (nI w) (nI rk) co ro R s) = ru 31 58 [some (.ref 239), some (.int (nI u)), some (.int (nI c)), some (.int (nI ((fr M c r p).getD hh))), x4] [] (hK h jt mb (nI hh) (nI w) (nI rk) co ro R s) := by
  intro r
  induction r with
  | zero =>
    intro p hp
    have : p = hh := by omega
    subst this
    rw [H31_31]
    simp only [S31, gFs, pFs, okq, bls, bo_true, eUp_at, eUp_eUp, eKls, cl_some, Option.toList_some, Option.toList_none, List.cons_append, List.nil_append, hK_o]
    rw [if_pos (nI_le (Nat.le_refl _) (by omega))]
    rfl
  | succ r ih =>
    intro p hp
    have u1 : 20 + 17 * p + c = cel p c := rfl
    have k1 := kc p c (by omega) hc
    have e1 := m25 (h := h) (jt := jt) (mb := mb) (hi := nI hh) (wi := nI w) (rk := nI rk) (co := co) (ro := ro) (s := s) (R := R) (a := cel p c) (by unfold cel; omega) (by rw [k1]; exact n23_5 (hb p c (by omega) hc))
    rw [k1] at e1
    rw [H31_31]
    simp only [S31, gFs, pFs, okq, bls, bo_true, eUp_at, eUp_eUp, eKls, cl_some, Option.toList_some, Option.toList_none, List.cons_append, List.nil_append, hK_o]
    rw [if_neg (nI_ge (by omega) (by omega))]
    simp only [S31, gFs, pFs, okq, bls, bo_true, eUp_at, eUp_eUp, eKls, cl_some, Option.toList_some, Option.toList_none, List.cons_append, List.nil_append, hK_o, m21, u1, e1]
    unfold fr
    by_cases q : M p c = 0
    · rw [decide_eq_true q, if_neg (show ¬ ldI true = 0 by decide), if_pos q]
      rw [nI_1]
      exact ih (p + 1) (by omega)
    · rw [decide_eq_false q, if_pos (show ldI false = 0 by decide), if_neg q]
      rfl
theorem m31_swap {f : Nat} (hf : f < hh) (hr : rk < hh) (hfr : f ≠ rk) (hh16 : hh ≤ 16) (hw : w ≤ 17) {R0 : Nat → Int} : ∀ r j (R : Nat → Int) (s : SC), j + r = w → (∀ i x, i < hh → x < w → R (cel i x) = if x < j then sw M f rk i x else M i x) → Kr PC R0 R → R 8 = R0 8 → ∃ R' y4, ru 31 72 [some (.ref 239), some (.int (nI u)), some (.int (nI c)), some (.int (nI f)), some (.int (nI j))] [] (hK h jt mb (nI hh) (nI w) (nI rk) co ro R s) = ru 31 145 [some (.ref 239), some (.int (nI u)), some (.int (nI c)), some (.int (nI f)), y4] [] (hK h jt mb (nI hh) (nI w) (nI rk) co ro R' s) ∧ KC R' (sw M f rk) hh w ∧ Kr PC R0 R' ∧ R' 8 = R0 8 := by
  intro r
  induction r with
  | zero =>
    intro j R s hj k1 k2 k3
    have : j = w := by omega
    subst this
    refine ⟨R, some (.int (nI j)), ?_, fun i x hi hx => by rw [k1 i x hi hx, if_pos hx], k2, k3⟩
    · rw [H31_72]
      simp only [S31, gFs, pFs, okq, bls, bo_true, eUp_at, eUp_eUp, eKls, cl_some, Option.toList_some, Option.toList_none, List.cons_append, List.nil_append, hK_o]
      rw [if_pos (nI_le (Nat.le_refl _) (by omega))]
  | succ r ih =>
    intro j R s hj k1 k2 k3
    have hjw : j < w := by omega
    have cf : cel f j < 412 ∧ cel f j ≠ 9 ∧ cel f j ≠ 8 := by unfold cel; omega
    have cr : cel rk j < 412 ∧ cel rk j ≠ 9 ∧ cel rk j ≠ 8 := by unfold cel; omega
    have cfr : cel rk j ≠ cel f j := fun e => hfr (((cel_inj (by omega) (by omega)).mp e).1).symm
    have r1 := k1 f j hf hjw
    have r2 := k1 rk j hr hjw
    rw [if_neg (Nat.lt_irrefl _)] at r1 r2
    have e1 := m20 (h := h) (jt := jt) (mb := mb) (hi := nI hh) (wi := nI w) (rk := nI rk) (co := co) (ro := ro) (s := s) (R := R) (a := 9) (b := cel f j) (by decide) cf.1 cf.2.1
    rw [r1] at e1
    have e2 := m20 (h := h) (jt := jt) (mb := mb) (hi := nI hh) (wi := nI w) (rk := nI rk) (co := co) (ro := ro) (s := s) (R := ur R 9 (M f j)) (a := cel f j) (b := cel rk j) cf.1 cr.1 cfr
    rw [ur_ne cr.2.1, r2] at e2
    have e3 := m20 (h := h) (jt := jt) (mb := mb) (hi := nI hh) (wi := nI w) (rk := nI rk) (co := co) (ro := ro) (s := s) (R := ur (ur R 9 (M f j)) (cel f j) (M rk j)) (a := cel rk j) (b := 9) cr.1 (by decide) (fun e => cr.2.1 e.symm)
    rw [ur_ne (fun e => cf.2.1 e.symm), ur_at] at e3
    obtain ⟨R', y4, z1, z2, z3, z4⟩ := ih (j + 1) (ur (ur (ur R 9 (M f j)) (cel f j) (M rk j)) (cel rk j) (M f j)) s (by omega) (by
      intro i x hi hx
      by_cases q : x = j
      · subst q
        rw [if_pos (Nat.lt_succ_self _)]
        by_cases q1 : i = rk
        · rw [q1, ur_at, sw_rk]
        · rw [ur_ne (fun e => q1 ((cel_inj (by omega) (by omega)).mp e).1)]
          by_cases q2 : i = f
          · rw [q2, ur_at, sw_f]
          · rw [ur_ne (fun e => q2 ((cel_inj (by omega) (by omega)).mp e).1), ur_ne (by unfold cel; omega), k1 i x hi hx, if_neg (Nat.lt_irrefl _), sw_ne q2 q1]
      · rw [ur_ne (fun e => q ((cel_inj (by omega) (by omega)).mp e).2), ur_ne (fun e => q ((cel_inj (by omega) (by omega)).mp e).2), ur_ne (by unfold cel; omega), k1 i x hi hx]
        by_cases q2 : x < j
        · rw [if_pos q2, if_pos (by omega)]
        · rw [if_neg q2, if_neg (by omega)]) (((k2.up' (by unfold PC; omega)).up' (pc_cel (by omega) (by omega))).up' (pc_cel (by omega) (by omega))) (by rw [ur_ne (fun e => cr.2.2 e.symm), ur_ne (fun e => cf.2.2 e.symm), ur_ne (by decide)]; exact k3)
    refine ⟨R', y4, ?_, z2, z3, z4⟩
    have u1 : 20 + 17 * f + j = cel f j := rfl
    have u2 : 20 + 17 * rk + j = cel rk j := rfl
    rw [← z1, H31_72]
    simp only [S31, gFs, pFs, okq, bls, bo_true, eUp_at, eUp_eUp, eKls, cl_some, Option.toList_some, Option.toList_none, List.cons_append, List.nil_append, hK_o]
    rw [if_neg (nI_ge hjw (by omega))]
    rw [if_neg (fun e => hfr ((nI_inj (by omega) (by omega)).mp e))]
    simp only [S31, gFs, pFs, okq, bls, bo_true, eUp_at, eUp_eUp, eKls, cl_some, Option.toList_some, Option.toList_none, List.cons_append, List.nil_append, hK_o, m21, u1, u2, e1, e2, e3]
    rw [nI_1]
theorem m31_rows {bot : Int} {x3 : Int32} (hr : rk < hh) (hh16 : hh ≤ 16) (hw : w ≤ 17) (hc : c < w) (b0 : bot ≠ 0) (bb : bot.natAbs < BB ^ 5) (hb : ∀ i j, i < hh → j < w → (M i j).natAbs < BB ^ 5) {R0 : Nat → Int} : ∀ r i (R : Nat → Int) (s : SC), i + r = hh → (∀ i' x, i' < hh → x < w → R (cel i' x) = if i' < i then clr M rk c (M rk c) bot i' x else M i' x) → Kr PC R0 R → R 8 = bot → ∃ R' y4 s', ru 31 148 [some (.ref 239), some (.int (nI u)), some (.int (nI c)), some (.int x3), some (.int (nI i))] [] (hK h jt mb (nI hh) (nI w) (nI rk) co ro R s) = ru 31 179 [some (.ref 239), some (.int (nI u)), some (.int (nI c)), some (.int x3), y4] [] (hK h jt mb (nI hh) (nI w) (nI rk) co ro R' s') ∧ KC R' (clr M rk c (M rk c) bot) hh w ∧ Kr PC R0 R' ∧ R' 8 = bot := by
  intro r
  induction r with
  | zero =>
    intro i R s hj k1 k2 k3
    have : i = hh := by omega
    subst this
    refine ⟨R, some (.int (nI i)), s, ?_, fun i x hi hx => by rw [k1 i x hi hx, if_pos hi], k2, k3⟩
    · rw [H31_148]
      simp only [S31, gFs, pFs, okq, bls, bo_true, eUp_at, eUp_eUp, eKls, cl_some, Option.toList_some, Option.toList_none, List.cons_append, List.nil_append, hK_o]
      rw [if_pos (nI_le (Nat.le_refl _) (by omega))]
  | succ r ih =>
    intro i R s hj k1 k2 k3
    have hih : i < hh := by omega
    by_cases q : i = rk
    · subst q
      obtain ⟨R', y4, s', z1, z2⟩ := ih (i + 1) R s (by omega) (by
        intro i' x hi hx
        rw [k1 i' x hi hx]
        by_cases q2 : i' < i
        · rw [if_pos q2, if_pos (by omega)]
        · rw [if_neg q2]
          by_cases q3 : i' = i
          · rw [if_pos (by omega), q3]
            unfold clr
            rw [if_pos rfl]
          · rw [if_neg (by omega)]) k2 k3
      refine ⟨R', y4, s', ?_, z2⟩
      rw [← z1, H31_148]
      simp only [S31, gFs, pFs, okq, bls, bo_true, eUp_at, eUp_eUp, eKls, cl_some, Option.toList_some, Option.toList_none, List.cons_append, List.nil_append, hK_o]
      rw [if_neg (nI_ge hih (by omega)), if_pos trivial]
      rw [nI_1]
    · have rp : ∀ x, x < w → R (cel rk x) = M rk x := fun x hx => by
        rw [k1 rk x hr hx]
        by_cases q2 : rk < i
        · rw [if_pos q2]
          unfold clr
          rw [if_pos rfl]
        · rw [if_neg q2]
      have ri : ∀ x, x < w → R (cel i x) = M i x := fun x hx => by rw [k1 i x hih hx, if_neg (Nat.lt_irrefl _)]
      obtain ⟨R1, s1, e1, c1, c2, c3, c4⟩ := m30 (h := h) (jt := jt) (mb := mb) (hi := nI hh) (co := co) (ro := ro) (R := R) (s := s) (i := i) (p := rk) (c := c) (w := w) (M := M) (bot := bot) (by omega) (by omega) q hw hc rp ri (fun x hx => ⟨hb i x hih hx, hb rk x hr hx⟩) k3 b0 bb
      obtain ⟨R', y4, s', z1, z2⟩ := ih (i + 1) R1 s1 (by omega) (by
        intro i' x hi hx
        by_cases q2 : i' = i
        · subst q2
          rw [c1 x hx, if_pos hx, if_pos (Nat.lt_succ_self _)]
          unfold clr
          rw [if_neg q]
        · rw [c4 (cel i' x) (by unfold cel; omega) (by unfold cel; omega) (by unfold cel; omega) (fun y hy e => q2 ((cel_inj (by omega) (by omega)).mp e).1), k1 i' x hi hx]
          by_cases q3 : i' < i
          · rw [if_pos q3, if_pos (by omega)]
          · rw [if_neg q3, if_neg (by omega)]) (k2.trans (fun k hk => c4 k (fun e => hk (by unfold PC; omega)) (fun e => hk (by unfold PC; omega)) (fun e => hk (by unfold PC; omega)) (fun x hx e => hk (by rw [e]; exact pc_cel (by omega) (by omega))))) c3
      refine ⟨R', y4, s', ?_, z2⟩
      rw [← z1, H31_148]
      simp only [S31, gFs, pFs, okq, bls, bo_true, eUp_at, eUp_eUp, eKls, cl_some, Option.toList_some, Option.toList_none, List.cons_append, List.nil_append, hK_o]
      rw [if_neg (nI_ge hih (by omega))]
      rw [if_neg (fun e => q ((nI_inj (by omega) (by omega)).mp e))]
      simp only [S31, gFs, pFs, okq, bls, bo_true, eUp_at, eUp_eUp, eKls, cl_some, Option.toList_some, Option.toList_none, List.cons_append, List.nil_append, e1]
      rw [nI_1]
end CL2
theorem clr_self (M : Nat → Nat → Int) (rk c : Nat) (piv bot : Int) (x : Nat) : clr M rk c piv bot rk x = M rk x := by
  unfold clr
  rw [if_pos rfl]
section CL3
variable {h : eH} {jt mb co : Int32} {u w hh : Nat} {M : Nat → Nat → Int}
theorem m31_loop (hh16 : hh ≤ 16) (hw : w ≤ 17) (hu : u ≤ w) (gb : GBd hh w u M) {R0 : Nat → Int} : ∀ r c (R : Nat → Int) (s : SC) (ro : Nat → Int32) x3 x4, c + r = u → KC R (red hh M c).1 hh w → R 8 = (red hh M c).2.2.1 → (∀ j, j < c → ro j = roI ((red hh M c).2.2.2.1 j)) → Kr PC R0 R → ∃ (R' : Nat → Int) (s' : SC) (ro' : Nat → Int32), ru 31 14 [some (.ref 239), some (.int (nI u)), some (.int (nI c)), x3, x4] [] (hK h jt mb (nI hh) (nI w) (nI (red hh M c).2.1) co ro R s) = some (none, hK h jt mb (nI hh) (nI w) (nI (red hh M u).2.1) co ro' R' s') ∧ KC R' (red hh M u).1 hh w ∧ R' 8 = (red hh M u).2.2.1 ∧ (∀ j, j < u → ro' j = roI ((red hh M u).2.2.2.1 j)) ∧ Kr PC R0 R' := by
  intro r
  induction r with
  | zero =>
    intro c R s ro x3 x4 hc k1 k2 k3 k4
    have : c = u := by omega
    subst this
    refine ⟨R, s, ro, ?_, k1, k2, k3, k4⟩
    rw [H31_14]
    simp only [S31, gFs, pFs, okq, bls, bo_true, eUp_at, eUp_eUp, eKls, cl_some, Option.toList_some, Option.toList_none, List.cons_append, List.nil_append]
    rw [if_pos (nI_le (Nat.le_refl _) (by omega))]
  | succ r ih =>
    intro c R s ro x3 x4 hc k1 k2 k3 k4
    have hcu : c < u := by omega
    have hrk := (red_rank hh M c).1
    obtain ⟨g1, g2⟩ := gb c (by omega)
    have b0 := red_bot hh M c
    have fi := m31_find (h := h) (jt := jt) (mb := mb) (co := co) (ro := upd ro c (-1)) (u := u) (c := c) (rk := (red hh M c).2.1) (x4 := x4) (s := s) hh16 hw (by omega) k1 g1 (hh - (red hh M c).2.1) (red hh M c).2.1 (by omega)
    obtain ⟨ih', hih⟩ : ∃ ih', ih' = ih := ⟨_, rfl⟩
    have e0 : red hh M (c + 1) = rst hh (red hh M c) c := rfl
    cases hf : fr (red hh M c).1 c (hh - (red hh M c).2.1) (red hh M c).2.1 with
    | none =>
      rw [hf] at fi
      have e1 : red hh M (c + 1) = ((red hh M c).1, (red hh M c).2.1, (red hh M c).2.2.1, upo (red hh M c).2.2.2.1 c none, false) := by
        rw [e0]
        unfold rst
        rw [hf]
      have st := ih (c + 1) R s (upd ro c (-1)) (some (.int (nI hh))) x4 (by omega) (by rw [e1]; exact k1) (by rw [e1]; exact k2) (by
        rw [e1]
        intro j hj
        show upd ro c (-1) j = roI (upo (red hh M c).2.2.2.1 c none j)
        unfold upd upo
        by_cases q : j = c
        · rw [if_pos q, if_pos q]; rfl
        · rw [if_neg q, if_neg q]; exact k3 j (by omega)) k4
      obtain ⟨R', s', ro', z1, z2⟩ := st
      refine ⟨R', s', ro', ?_, z2⟩
      rw [← z1, e1, H31_14]
      simp only [S31, gFs, pFs, okq, bls, bo_true, eUp_at, eUp_eUp, eKls, cl_some, Option.toList_some, Option.toList_none, List.cons_append, List.nil_append, hK_o, hK_ro]
      rw [if_neg (nI_ge hcu (by omega)), wI_nI (by omega) (by decide)]
      simp only [S31, gFs, pFs, okq, bls, bo_true, eUp_at, eUp_eUp, eKls, cl_some, Option.toList_some, Option.toList_none, List.cons_append, List.nil_append, hK_ur, hK_o]
      rw [fi, H31_58]
      simp only [S31, gFs, pFs, okq, bls, bo_true, eUp_at, eUp_eUp, eKls, cl_some, Option.toList_some, Option.toList_none, List.cons_append, List.nil_append, hK_o, Option.getD_none]
      rw [if_pos trivial, nI_1]
    | some f =>
      rw [hf] at fi
      obtain ⟨f1, f2, f3, -⟩ := fr_some hf
      have hfh : f < hh := by omega
      have e1 : red hh M (c + 1) = (clr (sw (red hh M c).1 f (red hh M c).2.1) (red hh M c).2.1 c ((red hh M c).1 f c) (red hh M c).2.2.1, (red hh M c).2.1 + 1, (red hh M c).1 f c, upo (red hh M c).2.2.2.1 c (some (red hh M c).2.1), (red hh M c).2.2.2.2 && decide (f = (red hh M c).2.1) && decide (0 < (red hh M c).1 f c)) := by
        rw [e0]
        unfold rst
        rw [hf]
      have gs : ∀ i j, i < hh → j < w → (sw (red hh M c).1 f (red hh M c).2.1 i j).natAbs < BB ^ 5 := fun i j hi hj => g1 _ j (sw_lt hfh (by omega) hi) hj
      have sp : ∃ (R1 : Nat → Int) (y4 : Option Value), ru 31 72 [some (.ref 239), some (.int (nI u)), some (.int (nI c)), some (.int (nI f)), some (.int (nI 0))] [] (hK h jt mb (nI hh) (nI w) (nI (red hh M c).2.1) co (upd ro c (-1)) R s) = ru 31 145 [some (.ref 239), some (.int (nI u)), some (.int (nI c)), some (.int (nI f)), y4] [] (hK h jt mb (nI hh) (nI w) (nI (red hh M c).2.1) co (upd ro c (-1)) R1 s) ∧ KC R1 (sw (red hh M c).1 f (red hh M c).2.1) hh w ∧ Kr PC R R1 ∧ R1 8 = R 8 := by
        by_cases q : f = (red hh M c).2.1
        · refine ⟨R, some (.int (nI 0)), ?_, fun i j hi hj => by rw [← q, sw_same]; exact k1 i j hi hj, Kr.refl _ _, rfl⟩
          rw [H31_72]
          simp only [S31, gFs, pFs, okq, bls, bo_true, eUp_at, eUp_eUp, eKls, cl_some, Option.toList_some, Option.toList_none, List.cons_append, List.nil_append, hK_o]
          by_cases q2 : w ≤ 0
          · rw [if_pos (nI_le q2 (by omega))]
          · rw [if_neg (nI_ge (by omega) (by omega)), if_pos (by rw [q])]
        · exact m31_swap hfh (by omega) q hh16 hw w 0 R s (by omega) (fun i x hi hx => by rw [if_neg (Nat.not_lt_zero _)]; exact k1 i x hi hx) (Kr.refl _ _) rfl
      obtain ⟨R1, y4, z1, z2, z3, z4⟩ := sp
      obtain ⟨R2, y5, s2, w1, w2, w3, w4⟩ := m31_rows (h := h) (jt := jt) (mb := mb) (co := co) (ro := upd ro c (-1)) (u := u) (c := c) (rk := (red hh M c).2.1) (x3 := nI f) (bot := (red hh M c).2.2.1) (M := sw (red hh M c).1 f (red hh M c).2.1) (R0 := R) (by omega) hh16 hw (by omega) b0 g2 gs hh 0 R1 s (by omega) (fun i x hi hx => by rw [if_neg (Nat.not_lt_zero _)]; exact z2 i x hi hx) z3 (z4.trans k2)
      rw [sw_rk] at w2
      have ck : cel (red hh M c).2.1 c < 412 ∧ cel (red hh M c).2.1 c ≠ 8 := by unfold cel; omega
      have r2 : R2 (cel (red hh M c).2.1 c) = (red hh M c).1 f c := by rw [w2 _ c (by omega) (by omega), clr_self, sw_rk]
      have e3 := m20 (h := h) (jt := jt) (mb := mb) (hi := nI hh) (wi := nI w) (rk := nI (red hh M c).2.1) (co := co) (ro := upd ro c (-1)) (s := s2) (R := R2) (a := 8) (b := cel (red hh M c).2.1 c) (by decide) ck.1 ck.2
      rw [r2] at e3
      obtain ⟨R', s', ro', v1, v2⟩ := ih (c + 1) (ur R2 8 ((red hh M c).1 f c)) s2 (upd (upd ro c (-1)) c (nI (red hh M c).2.1)) (some (.int (nI f))) y5 (by omega) (by
        rw [e1]
        intro i j hi hj
        rw [ur_ne (by unfold cel; omega)]
        exact w2 i j hi hj) (by rw [e1, ur_at]) (by
        rw [e1]
        intro j hj
        show upd (upd ro c (-1)) c (nI (red hh M c).2.1) j = roI (upo (red hh M c).2.2.2.1 c (some (red hh M c).2.1) j)
        unfold upd upo
        by_cases q : j = c
        · rw [if_pos q, if_pos q]; rfl
        · rw [if_neg q, if_neg q, if_neg q]; exact k3 j (by omega)) ((k4.trans w3).up' (by unfold PC; omega))
      refine ⟨R', s', ro', ?_, v2⟩
      have u1 : 20 + 17 * (red hh M c).2.1 + c = cel (red hh M c).2.1 c := rfl
      rw [← v1, e1, H31_14]
      simp only [S31, gFs, pFs, okq, bls, bo_true, eUp_at, eUp_eUp, eKls, cl_some, Option.toList_some, Option.toList_none, List.cons_append, List.nil_append, hK_o, hK_ro]
      rw [if_neg (nI_ge hcu (by omega)), wI_nI (by omega) (by decide)]
      simp only [S31, gFs, pFs, okq, bls, bo_true, eUp_at, eUp_eUp, eKls, cl_some, Option.toList_some, Option.toList_none, List.cons_append, List.nil_append, hK_ur, hK_o]
      rw [fi, H31_58]
      simp only [S31, gFs, pFs, okq, bls, bo_true, eUp_at, eUp_eUp, eKls, cl_some, Option.toList_some, Option.toList_none, List.cons_append, List.nil_append, hK_o, Option.getD_some]
      rw [if_neg (fun e => by have := (nI_inj (by omega) (by omega)).mp e; omega), z1, H31_145]
      simp only [S31, gFs, pFs, okq, bls, bo_true, eUp_at, eUp_eUp, eKls, cl_some, Option.toList_some, Option.toList_none, List.cons_append, List.nil_append, hK_o]
      rw [w1, H31_179]
      simp only [S31, gFs, pFs, okq, bls, bo_true, eUp_at, eUp_eUp, eKls, cl_some, Option.toList_some, Option.toList_none, List.cons_append, List.nil_append, hK_o, hK_ro, m21, u1, e3]
      rw [wI_nI (by omega) (by decide)]
      simp only [S31, gFs, pFs, okq, bls, bo_true, eUp_at, eUp_eUp, eKls, cl_some, Option.toList_some, Option.toList_none, List.cons_append, List.nil_append, hK_ur, hK_o, hK_uo]
      rw [nI_1, nI_add]
/-- clear: the reduction of what the cells hold -/
theorem m31 {R : Nat → Int} {s : SC} {ro : Nat → Int32} {rk : Int32} (hh16 : hh ≤ 16) (hw : w ≤ 17) (hu : u ≤ w) (gb : GBd hh w u M) (kc : KC R M hh w) : ∃ (R' : Nat → Int) (s' : SC) (ro' : Nat → Int32), den 31 [.ref 239, .int (nI u)] (hK h jt mb (nI hh) (nI w) rk co ro R s) = some (none, hK h jt mb (nI hh) (nI w) (nI (red hh M u).2.1) co ro' R' s') ∧ KC R' (red hh M u).1 hh w ∧ R' 8 = (red hh M u).2.2.1 ∧ RQ ro' (red hh M u).2.2.2.1 u ∧ Kr PC R R' := by
  have e1 := m12 (h := h) (jt := jt) (mb := mb) (hi := nI hh) (wi := nI w) (rk := nI 0) (co := co) (ro := ro) (s := s) (R := R) (v := 1) (show 8 < 412 by decide) (by decide)
  obtain ⟨R', s', ro', z1, z2, z3, z4, z5⟩ := m31_loop (h := h) (jt := jt) (mb := mb) (co := co) hh16 hw hu gb (R0 := R) u 0 (ur R 8 1) s ro none none (by omega) (fun i j hi hj => by rw [ur_ne (by unfold cel; omega)]; exact kc i j hi hj) (by rw [ur_at]; rfl) (fun j hj => absurd hj (Nat.not_lt_zero _)) (Kr.up _ _ (by unfold PC; omega))
  refine ⟨R', s', ro', ?_, z2, z3, ⟨z4, fun c r hr => ?_⟩, z5⟩
  · rw [← z1, E31 239 _ hK_o]
    simp only [S31, gFs, pFs, okq, bls, bo_true, eUp_at, eUp_eUp, eKls, cl_some, Option.toList_some, Option.toList_none, List.cons_append, List.nil_append, hK_o, hK_uo, show (lN 1 : Int64) = lI 1 from rfl, e1]
    rfl
  · have := (red_ro hh M u c r hr).2
    have := (red_rank hh M u).1
    omega
end CL3
