/-! the form: minors at the corner, purely -/
theorem rst_flag {rows c : Nat} {s : RS} (hr : s.2.1 < rows) : ((rst rows s c).2.2.2.2 = true ↔ s.2.2.2.2 = true ∧ 0 < s.1 s.2.1 c) ∧ (0 < s.1 s.2.1 c → (rst rows s c).1 = clr s.1 s.2.1 c (s.1 s.2.1 c) s.2.2.1 ∧ (rst rows s c).2.1 = s.2.1 + 1 ∧ (rst rows s c).2.2.1 = s.1 s.2.1 c) := by
  by_cases q : s.1 s.2.1 c = 0
  · refine ⟨?_, fun e => by omega⟩
    have hn : ¬ (rst rows s c).2.2.2.2 = true := by
      unfold rst
      cases hf : fr s.1 c (rows - s.2.1) s.2.1 with
      | none => intro e; cases e
      | some f =>
        have h1 := fr_some hf
        have hne : f ≠ s.2.1 := fun e => h1.2.2.1 (by rw [e]; exact q)
        dsimp only
        rw [decide_eq_false hne, Bool.and_false, Bool.false_and]
        decide
    exact ⟨fun e => absurd e hn, fun e => by omega⟩
  · have hf : fr s.1 c (rows - s.2.1) s.2.1 = some s.2.1 := by
      obtain ⟨d, hd⟩ : ∃ d, rows - s.2.1 = d + 1 := ⟨rows - s.2.1 - 1, by omega⟩
      rw [hd]
      unfold fr
      rw [if_neg q]
    have es : sw s.1 s.2.1 s.2.1 = s.1 := by
      funext r x
      exact sw_same _ _ _ _
    unfold rst
    rw [hf]
    dsimp only
    rw [es]
    refine ⟨?_, fun _ => ⟨rfl, rfl, rfl⟩⟩
    rw [decide_eq_true rfl, Bool.and_true, Bool.and_eq_true, decide_eq_true_eq]
def q2 (F : Nat → Nat → Int) : Int := F 0 0 * F 1 1 - F 0 1 * F 1 0
def q3 (F : Nat → Nat → Int) : Int := F 0 0 * (F 1 1 * F 2 2 - F 1 2 * F 2 1) + F 0 1 * (F 1 2 * F 2 0 - F 1 0 * F 2 2) + F 0 2 * (F 1 0 * F 2 1 - F 1 1 * F 2 0)
theorem stf_iff {w : Nat} (hw : w ≤ 3) (F : Nat → Nat → Int) : (red w F w).2.2.2.2 = true ↔ (1 ≤ w → 0 < F 0 0) ∧ (2 ≤ w → 0 < q2 F) ∧ (3 ≤ w → 0 < q3 F) := by
  have s1 : 1 ≤ w → (((red w F 1).2.2.2.2 = true ↔ 0 < F 0 0) ∧ (0 < F 0 0 → (red w F 1).1 = clr F 0 0 (F 0 0) 1 ∧ (red w F 1).2.1 = 1 ∧ (red w F 1).2.2.1 = F 0 0)) := fun h => by
    obtain ⟨a, b⟩ := rst_flag (rows := w) (c := 0) (s := red w F 0) (show 0 < w by omega)
    refine ⟨?_, b⟩
    show (rst w (red w F 0) 0).2.2.2.2 = true ↔ _
    rw [a]
    exact ⟨fun e => e.2, fun e => ⟨rfl, e⟩⟩
  have cell1 : ∀ r c, r ≠ 0 → clr F 0 0 (F 0 0) 1 r c = F 0 0 * F r c - F r 0 * F 0 c := fun r c hr => by
    unfold clr
    rw [if_neg hr, Int.tdiv_one]
  have s2 : 2 ≤ w → (((red w F 2).2.2.2.2 = true ↔ 0 < F 0 0 ∧ 0 < q2 F) ∧ (0 < F 0 0 → 0 < q2 F → (red w F 2).1 = clr (clr F 0 0 (F 0 0) 1) 1 1 (q2 F) (F 0 0) ∧ (red w F 2).2.1 = 2 ∧ (red w F 2).2.2.1 = q2 F)) := fun h => by
    obtain ⟨f1, b1⟩ := s1 (by omega)
    by_cases p : 0 < F 0 0
    · obtain ⟨e1, e2, e3⟩ := b1 p
      obtain ⟨a, b⟩ := rst_flag (rows := w) (c := 1) (s := red w F 1) (by rw [e2]; omega)
      have ec : (red w F 1).1 (red w F 1).2.1 1 = q2 F := by
        rw [e1, e2, cell1 1 1 (by decide)]
        unfold q2
        rw [Int.mul_comm (F 1 0)]
      rw [ec] at a b
      refine ⟨?_, fun _ p2 => ?_⟩
      · show (rst w (red w F 1) 1).2.2.2.2 = true ↔ _
        rw [a, f1]
      · obtain ⟨x, y, z⟩ := b p2
        rw [e1, e2, e3] at x
        rw [e2] at y
        exact ⟨x, y, z⟩
    · refine ⟨⟨fun e => ?_, fun e => absurd e.1 p⟩, fun e => absurd e p⟩
      exfalso
      have e' : (rst w (red w F 1) 1).2.2.2.2 = true := e
      have : (red w F 1).2.2.2.2 = true := by
        unfold rst at e'
        cases hf : fr (red w F 1).1 1 (w - (red w F 1).2.1) (red w F 1).2.1 with
        | none => rw [hf] at e'; cases e'
        | some f =>
          rw [hf] at e'
          dsimp only at e'
          rw [Bool.and_eq_true, Bool.and_eq_true] at e'
          exact e'.1.1
      exact p (f1.mp this)
  rcases (by omega : w = 0 ∨ w = 1 ∨ w = 2 ∨ w = 3) with e | e | e | e
  · subst e
    exact ⟨fun _ => ⟨fun h => by omega, fun h => by omega, fun h => by omega⟩, fun _ => rfl⟩
  · subst e
    rw [(s1 (by decide)).1]
    exact ⟨fun x => ⟨fun _ => x, fun h => by omega, fun h => by omega⟩, fun x => x.1 (by decide)⟩
  · subst e
    rw [(s2 (by decide)).1]
    exact ⟨fun x => ⟨fun _ => x.1, fun _ => x.2, fun h => by omega⟩, fun x => ⟨x.1 (by decide), x.2.1 (by decide)⟩⟩
  · subst e
    obtain ⟨f2, b2⟩ := s2 (by decide)
    by_cases p : 0 < F 0 0 ∧ 0 < q2 F
    · obtain ⟨e1, e2, e3⟩ := b2 p.1 p.2
      obtain ⟨a, b⟩ := rst_flag (rows := 3) (c := 2) (s := red 3 F 2) (by rw [e2]; decide)
      have ec : (red 3 F 2).1 (red 3 F 2).2.1 2 = q3 F := by
        rw [e1, e2]
        unfold clr
        rw [if_neg (by decide), if_neg (by decide), if_neg (by decide), if_neg (by decide), Int.tdiv_one, Int.tdiv_one, Int.tdiv_one]
        have k : q2 F * (F 0 0 * F 2 2 - F 2 0 * F 0 2) - (F 0 0 * F 2 1 - F 2 0 * F 0 1) * (F 0 0 * F 1 2 - F 1 0 * F 0 2) = F 0 0 * q3 F := by
          unfold q2 q3
          grind
        rw [k]
        exact Int.mul_tdiv_cancel_left _ (by omega)
      rw [ec] at a
      show (rst 3 (red 3 F 2) 2).2.2.2.2 = true ↔ _
      rw [a, f2]
      exact ⟨fun x => ⟨fun _ => x.1.1, fun _ => x.1.2, fun _ => x.2⟩, fun x => ⟨⟨x.1 (by decide), x.2.1 (by decide)⟩, x.2.2 (by decide)⟩⟩
    · constructor
      · intro e
        exfalso
        have e' : (rst 3 (red 3 F 2) 2).2.2.2.2 = true := e
        have : (red 3 F 2).2.2.2.2 = true := by
          unfold rst at e'
          cases hf : fr (red 3 F 2).1 2 (3 - (red 3 F 2).2.1) (red 3 F 2).2.1 with
          | none => rw [hf] at e'; cases e'
          | some f =>
            rw [hf] at e'
            dsimp only at e'
            rw [Bool.and_eq_true, Bool.and_eq_true] at e'
            exact e'.1.1
        exact p (f2.mp this)
      · intro x
        exact absurd ⟨x.1 (by decide), x.2.1 (by decide)⟩ p
theorem gap_ng (n : NT) : ∃ e, pm1 e ∧ ∀ m ax i, gap n (sN n) (2 * nFr n) m ax i = e * gap n (sM n) (2 * nFr n) m ax i := by
  obtain ⟨e, he, ng⟩ := sN_ng n
  refine ⟨e, he, fun m ax i => ?_⟩
  have f : ∀ c : Int, ffr (sN n) (2 * nFr n) i c = e * ffr (sM n) (2 * nFr n) i c := fun c => ffr_ng ng i c
  unfold gap
  rw [f, f, Int.mul_sub]
theorem frm_ng (n : NT) (i j t : Nat) : frm n (sN n) (2 * nFr n) i j t = frm n (sM n) (2 * nFr n) i j t := by
  obtain ⟨e, he, g⟩ := gap_ng n
  unfold frm
  refine su_congr (fun m hm => ?_)
  unfold trm
  rw [g, g, g, g]
  rcases he with rfl | rfl
  · simp
  · grind
theorem gN_bd {n : NT} (hv : NV n) (m ax i : Nat) : (gap n (sN n) (2 * nFr n) m ax i).natAbs ≤ 2 * 160 ^ 14 := by
  obtain ⟨e, he, g⟩ := gap_ng n
  have v1 := hv.1
  have hrk := (sM_rk n).2
  rw [g, (pm1_abs he).1]
  have p : 160 ^ (sM n).2.1 ≤ 160 ^ 14 := pw_le (by decide) (by omega)
  have h1 := W_bd hv i (mvI (mov n (nA n m) ax))
  have h2 := W_bd hv i (mvI (mov n (nB n m) ax))
  unfold gap
  omega
theorem fN_bd {n : NT} (hv : NV n) (i c : Int) : (ffr (sN n) (2 * nFr n) i c).natAbs ≤ 160 ^ 14 := by
  obtain ⟨e, he, ng⟩ := sN_ng n
  have v1 := hv.1
  have hrk := (sM_rk n).2
  rw [show ffr (sN n) (2 * nFr n) i c = e * ffr (sM n) (2 * nFr n) i c from ffr_ng ng i c, (pm1_abs he).1]
  exact Nat.le_trans (W_bd hv i c) (pw_le (by decide) (by omega))
theorem frmN_bd {n : NT} (hv : NV n) (i j : Nat) {t : Nat} (ht : t ≤ nM n) : (frm n (sN n) (2 * nFr n) i j t).natAbs ≤ b14 := by
  have v1 := hv.1
  have hrk := (sM_rk n).2
  rw [frm_ng]
  have h := su_bd (f := fun m => trm n (sM n) (2 * nFr n) i j m 0 + trm n (sM n) (2 * nFr n) i j m 1) (B := 8000 * (160 ^ 14 * 160 ^ 14)) (t := t) (fun m hm => by
    have h0 := trm_bd hv (i := i) (j := j) (ax := 0) (show m < nM n by omega)
    have h1 := trm_bd hv (i := i) (j := j) (ax := 1) (show m < nM n by omega)
    have p : 160 ^ (sM n).2.1 ≤ 160 ^ 14 := pw_le (by decide) (by omega)
    have := Nat.mul_le_mul p p
    omega)
  unfold frm b14
  have h2 : t * (8000 * (160 ^ 14 * 160 ^ 14)) ≤ 14 * (8000 * (160 ^ 14 * 160 ^ 14)) := Nat.mul_le_mul_right _ (by omega)
  obtain ⟨X, hX⟩ : ∃ X, X = 160 ^ 14 * 160 ^ 14 := ⟨_, rfl⟩
  rw [← hX] at h h2 ⊢
  clear hX
  omega
