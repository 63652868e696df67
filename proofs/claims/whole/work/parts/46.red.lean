/-! THE REDUCTION, purely: cells, rank, bottom, the row of each column, whether all leading minors are above 0 -/
abbrev RS : Type := (Nat → Nat → Int) × Nat × Int × (Nat → Option Nat) × Bool
def fr (M : Nat → Nat → Int) (c : Nat) : Nat → Nat → Option Nat
  | 0, _ => none
  | n + 1, r => if M r c = 0 then fr M c n (r + 1) else some r
def sw (M : Nat → Nat → Int) (a b : Nat) : Nat → Nat → Int := fun r c => M (if r = a then b else if r = b then a else r) c
def clr (M : Nat → Nat → Int) (rk c0 : Nat) (piv bot : Int) : Nat → Nat → Int := fun r c => if r = rk then M r c else (piv * M r c - M r c0 * M rk c).tdiv bot
def upo (f : Nat → Option Nat) (c : Nat) (v : Option Nat) : Nat → Option Nat := fun j => if j = c then v else f j
def rst (rows : Nat) (s : RS) (c : Nat) : RS := match fr s.1 c (rows - s.2.1) s.2.1 with
  | none => (s.1, s.2.1, s.2.2.1, upo s.2.2.2.1 c none, false)
  | some f => (clr (sw s.1 f s.2.1) s.2.1 c (s.1 f c) s.2.2.1, s.2.1 + 1, s.1 f c, upo s.2.2.2.1 c (some s.2.1), s.2.2.2.2 && decide (f = s.2.1) && decide (0 < s.1 f c))
def red (rows : Nat) (M : Nat → Nat → Int) : Nat → RS
  | 0 => (M, 0, 1, fun _ => none, true)
  | n + 1 => rst rows (red rows M n) n
theorem fr_some {M : Nat → Nat → Int} {c f : Nat} : ∀ {n r : Nat}, fr M c n r = some f → r ≤ f ∧ f < r + n ∧ M f c ≠ 0 ∧ ∀ j, r ≤ j → j < f → M j c = 0 := by
  intro n
  induction n with
  | zero => intro r h; cases h
  | succ n ih =>
    intro r h
    unfold fr at h
    by_cases h0 : M r c = 0
    · rw [if_pos h0] at h
      obtain ⟨a, b, d, e⟩ := ih h
      refine ⟨by omega, by omega, d, fun j j1 j2 => ?_⟩
      by_cases hj : j = r
      · rw [hj]; exact h0
      · exact e j (by omega) j2
    · rw [if_neg h0] at h
      cases h
      exact ⟨Nat.le_refl _, by omega, h0, fun j j1 j2 => by omega⟩
theorem fr_none {M : Nat → Nat → Int} {c : Nat} : ∀ {n r : Nat}, fr M c n r = none → ∀ j, r ≤ j → j < r + n → M j c = 0 := by
  intro n
  induction n with
  | zero => intro r h j h1 h2; omega
  | succ n ih =>
    intro r h j h1 h2
    unfold fr at h
    by_cases h0 : M r c = 0
    · rw [if_pos h0] at h
      by_cases hj : j = r
      · rw [hj]; exact h0
      · exact ih h j (by omega) (by omega)
    · rw [if_neg h0] at h
      cases h
theorem fr_congr {M M' : Nat → Nat → Int} {c : Nat} : ∀ {n r : Nat}, (∀ j, r ≤ j → j < r + n → (M j c = 0 ↔ M' j c = 0)) → fr M c n r = fr M' c n r := by
  intro n
  induction n with
  | zero => intro r _; rfl
  | succ n ih =>
    intro r h
    unfold fr
    have := h r (Nat.le_refl _) (by omega)
    by_cases h0 : M r c = 0
    · rw [if_pos h0, if_pos (this.mp h0)]
      exact ih (fun j j1 j2 => h j (by omega) (by omega))
    · rw [if_neg h0, if_neg (fun e => h0 (this.mpr e))]
/-! GRID: firstRowWith, swapRows, clearCell -/
theorem WR.keep {h h' : eH} {b N : Nat} {sz bl : Int32} {f : Nat → Int32} (w : WR h b N sz bl f) (h1 : h'.1 b = h.1 b) (h2 : h'.1 (b + 1) = h.1 (b + 1)) : WR h' b N sz bl f := ⟨h1.trans w.1, h2.trans w.2⟩
theorem WX.keep {h h' : eH} {b N : Nat} (w : WX h b N) (h1 : h'.1 b = h.1 b) (h2 : h'.1 (b + 1) = h.1 (b + 1)) : WX h' b N := by
  obtain ⟨s, c, f, w⟩ := w
  exact ⟨s, c, f, w.keep h1 h2⟩
theorem WV.keep {h h' : eH} {b N : Nat} {z : Int} (w : WV h b N z) (h1 : h'.1 b = h.1 b) (h2 : h'.1 (b + 1) = h.1 (b + 1)) : WV h' b N z := by
  obtain ⟨f, w, q⟩ := w
  exact ⟨f, w.keep h1 h2, q⟩
theorem WX.orr {h h' : eH} {a b N : Nat} (d : WX h b N) (x : F2 a h h') (w : WX h' a N) (hb : b = a ∨ (b ≠ a ∧ b ≠ a + 1 ∧ b + 1 ≠ a)) : WX h' b N := by
  rcases hb with e | ⟨e1, e2, e3⟩
  · subst e; exact w
  · exact d.kept x e1 e2 e3
def DK (h : eH) : Prop := h.1 20 = .inr (1, [.ref 21, .ref 30, .ref 32, .ref 34, .ref 36, .ref 38, .ref 40]) ∧ DV h ∧ WX h 22 36 ∧ WX h 24 36 ∧ WX h 32 36 ∧ WX h 34 36 ∧ WX h 36 36 ∧ WX h 38 36 ∧ WX h 40 36
theorem DK.k2 {h h' : eH} {a : Nat} (d : DK h) (x : F2 a h h') (ha : a = 32 ∨ a = 34 ∨ a = 36 ∨ a = 38 ∨ a = 40) (w : WX h' a 36) : DK h' := by
  obtain ⟨d0, d1, d2, d3, d4, d5, d6, d7, d8⟩ := d
  exact ⟨(x.2 20 (by omega) (by omega)).trans d0, (x.2 21 (by omega) (by omega)).trans d1, d2.kept x (by omega) (by omega) (by omega), d3.kept x (by omega) (by omega) (by omega), d4.orr x w (by omega), d5.orr x w (by omega), d6.orr x w (by omega), d7.orr x w (by omega), d8.orr x w (by omega)⟩
theorem DK.keep {h h' : eH} (d : DK h) (x : ∀ i, (20 ≤ i ∧ i ≤ 25) ∨ (32 ≤ i ∧ i ≤ 41) → h'.1 i = h.1 i) : DK h' := by
  obtain ⟨d0, d1, d2, d3, d4, d5, d6, d7, d8⟩ := d
  exact ⟨(x 20 (by decide)).trans d0, (x 21 (by decide)).trans d1, d2.keep (x 22 (by decide)) (x 23 (by decide)), d3.keep (x 24 (by decide)) (x 25 (by decide)), d4.keep (x 32 (by decide)) (x 33 (by decide)), d5.keep (x 34 (by decide)) (x 35 (by decide)), d6.keep (x 36 (by decide)) (x 37 (by decide)), d7.keep (x 38 (by decide)) (x 39 (by decide)), d8.keep (x 40 (by decide)) (x 41 (by decide))⟩
def FC (g : Nat) (h h' : eH) : Prop := h'.2 = h.2 ∧ ∀ i, ¬ (22 ≤ i ∧ i ≤ 25) → ¬ (32 ≤ i ∧ i ≤ 41) → i ≠ g + 3 → i ≠ g + 4 → h'.1 i = h.1 i
theorem FC.refl (g : Nat) (h : eH) : FC g h h := ⟨rfl, fun _ _ _ _ _ => rfl⟩
theorem FC.trans {g : Nat} {h h' h'' : eH} (x : FC g h h') (y : FC g h' h'') : FC g h h'' := ⟨y.1.trans x.1, fun i h1 h2 h3 h4 => (y.2 i h1 h2 h3 h4).trans (x.2 i h1 h2 h3 h4)⟩
theorem F2.fc {a g : Nat} {h h' : eH} (x : F2 a h h') (ha : 32 ≤ a ∧ a ≤ 40) : FC g h h' := ⟨x.1, fun i h1 h2 h3 h4 => x.2 i (by omega) (by omega)⟩
theorem FA.fc {g : Nat} {h h' : eH} (x : FA g h h') : FC g h h' := ⟨x.1, fun i h1 h2 h3 h4 => x.2 i h3 h4⟩
theorem F6.fc {g : Nat} {h h' : eH} (x : F6 38 h h') : FC g h h' := ⟨x.1, fun i h1 h2 h3 h4 => x.2 i (by omega) (by omega) (by omega) (by omega) (by omega) (by omega)⟩
theorem d120m {h : eH} {r b0 Nb : Nat} {x y : Int} (hd : DV h) (wq : WX h 22 36) (ws : WX h 24 36) (wr : WV h r 36 x) (wb : WV h b0 Nb y) (hr : 29 < r ∨ r = 26 ∨ r = 28 ∨ r < 20) (hb : 25 < b0) (hrb : r ≠ b0) (hNb : Nb ≤ 36) (hx : x.natAbs < BB ^ 35) : ∃ h', den 120 [.ref 21, .ref r, .ref b0] h = some (none, h') ∧ F6 r h h' ∧ WX h' 24 36 ∧ (∃ n b f, WR h' 22 36 (nI n) b f ∧ n ≤ 36 ∧ (b = 0 ∨ b = 1)) ∧ WX h' r 36 ∧ (x.natAbs < BB ^ 34 → WV h' 22 36 (x.tdiv y)) := by
  by_cases hs : x.natAbs < BB ^ 34
  · obtain ⟨h', e, f6, w24, w22, z, wz, -⟩ := d120w hd wq ws wr wb hr hb hrb hNb hs
    obtain ⟨f, w1, w2, w3⟩ := id w22
    exact ⟨h', e, f6, w24, ⟨_, _, f, w1, w2, sb01 _⟩, wz.x, fun _ => w22⟩
  · obtain ⟨h', e, f6, w24, Q, b, f, z, w22, hQ, -, hb, wz, -⟩ := d120 hd wq ws wr wb hr hb hrb hNb hx
    exact ⟨h', e, f6, w24, ⟨_, b, f, w22, hQ, hb⟩, wz.x, fun hh => absurd hh hs⟩
section GR3
variable {h : eH} {g H W C rows unk cols rank : Nat} {ld : Int32} {M : Nat → Nat → Int}
theorem d113_loop {x0 : Nat} (o : GO h g H W C rows unk cols rank ld) (b : GB H W C rows cols) (gc : GC h g H W C rows cols (fun _ _ => True) M) (hc : x0 < cols) : ∀ n r, r + n = rows → ru 113 5 [some (.ref g), some (.int (nI x0)), some (.int (nI r))] [] h = some (some (.int (match fr M x0 n r with | none => -1 | some f => nI f)), h) := by
  intro n
  obtain ⟨P, Z, ga, q⟩ := gc
  obtain ⟨bw1, bw2⟩ := b.w
  obtain ⟨b1, b2, b3, b4, b5, b6⟩ := id b
  have o1 := o
  unfold GO at o1
  induction n with
  | zero =>
    intro r hr
    rw [H113_5]
    simp only [S113, gFs, pFs, okq, bls, bo_true, eUp_at, eUp_eUp, eKls, cl_some, Option.toList_some, Option.toList_none, List.cons_append, List.nil_append, o1]
    rw [if_pos (nI_le (by omega) (by omega)), H113_37]
    simp only [S113, gFs, pFs, okq, bls, bo_true, eUp_at, eUp_eUp, eKls, cl_some, Option.toList_some, Option.toList_none, List.cons_append, List.nil_append]
    rfl
  | succ n ih =>
    intro r hr
    have hk : r * W + x0 < H * W := ix (by omega) (by omega)
    obtain ⟨c1, c2, -⟩ := q r x0 trivial (by omega) hc
    rw [H113_5]
    simp only [S113, gFs, pFs, okq, bls, bo_true, eUp_at, eUp_eUp, eKls, cl_some, Option.toList_some, Option.toList_none, List.cons_append, List.nil_append, o1]
    rw [if_neg (nI_ge (by omega) (by omega))]
    simp only [S113, gFs, pFs, okq, bls, bo_true, eUp_at, eUp_eUp, eKls, cl_some, Option.toList_some, Option.toList_none, List.cons_append, List.nil_append, o1, nI_at, ga.2]
    rw [aI_nI hk (by omega), c2]
    unfold fr
    by_cases h0 : M r x0 = 0
    · rw [if_pos ((szg_eq0 (by omega)).mpr h0), if_pos h0, nI_1]
      exact ih (r + 1) (by omega)
    · rw [if_neg (fun e => h0 ((szg_eq0 (by omega)).mp e)), if_neg h0]
theorem d113 {x0 : Nat} (o : GO h g H W C rows unk cols rank ld) (b : GB H W C rows cols) (gc : GC h g H W C rows cols (fun _ _ => True) M) (hc : x0 < cols) (hrk : rank ≤ rows) : den 113 [.ref g, .int (nI x0)] h = some (some (.int (match fr M x0 (rows - rank) rank with | none => -1 | some f => nI f)), h) := by
  have o1 := o
  unfold GO at o1
  rw [E113 g _ o]
  simp only [S113, gFs, pFs, okq, bls, bo_true, eUp_at, eUp_eUp, eKls, cl_some, Option.toList_some, Option.toList_none, List.cons_append, List.nil_append, o1]
  exact d113_loop o b gc hc (rows - rank) rank (by omega)
end GR3
