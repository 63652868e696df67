/-! what the reduction keeps, purely -/
theorem red_ro (rows : Nat) (M : Nat → Nat → Int) : ∀ n c r, (red rows M n).2.2.2.1 c = some r → c < n ∧ r < (red rows M n).2.1 := by
  intro n
  induction n with
  | zero => intro c r h; cases h
  | succ n ih =>
    intro c r h
    have h' : (rst rows (red rows M n) n).2.2.2.1 c = some r := h
    show c < n + 1 ∧ r < (rst rows (red rows M n) n).2.1
    unfold rst at h' ⊢
    cases hf : fr (red rows M n).1 n (rows - (red rows M n).2.1) (red rows M n).2.1 with
    | none =>
      rw [hf] at h'
      dsimp only at h' ⊢
      unfold upo at h'
      by_cases q : c = n
      · rw [if_pos q] at h'; cases h'
      · rw [if_neg q] at h'
        obtain ⟨a, b⟩ := ih c r h'
        exact ⟨by omega, b⟩
    | some f =>
      rw [hf] at h'
      dsimp only at h' ⊢
      unfold upo at h'
      by_cases q : c = n
      · rw [if_pos q] at h'
        cases h'
        exact ⟨by omega, Nat.lt_succ_self _⟩
      · rw [if_neg q] at h'
        obtain ⟨a, b⟩ := ih c r h'
        exact ⟨by omega, by omega⟩
theorem red_bot (rows : Nat) (M : Nat → Nat → Int) : ∀ n, (red rows M n).2.2.1 ≠ 0 := by
  intro n
  induction n with
  | zero => show (1 : Int) ≠ 0; decide
  | succ n ih =>
    show (rst rows (red rows M n) n).2.2.1 ≠ 0
    unfold rst
    cases hf : fr (red rows M n).1 n (rows - (red rows M n).2.1) (red rows M n).2.1 with
    | none => exact ih
    | some f => exact (fr_some hf).2.2.1
/-- how many columns are free -/
def fre (ro : Nat → Option Nat) : Nat → Nat
  | 0 => 0
  | n + 1 => fre ro n + (if ro n = none then 1 else 0)
theorem fre_congr {ro ro' : Nat → Option Nat} : ∀ {n : Nat}, (∀ c, c < n → ro c = ro' c) → fre ro n = fre ro' n := by
  intro n
  induction n with
  | zero => intro _; rfl
  | succ n ih =>
    intro h
    show fre ro n + _ = fre ro' n + _
    rw [ih (fun c hc => h c (by omega)), h n (by omega)]
theorem red_fre (rows : Nat) (M : Nat → Nat → Int) : ∀ n, fre (red rows M n).2.2.2.1 n + (red rows M n).2.1 = n := by
  intro n
  induction n with
  | zero => rfl
  | succ n ih =>
    show fre (rst rows (red rows M n) n).2.2.2.1 (n + 1) + (rst rows (red rows M n) n).2.1 = n + 1
    unfold rst
    cases hf : fr (red rows M n).1 n (rows - (red rows M n).2.1) (red rows M n).2.1 with
    | none =>
      show fre (upo (red rows M n).2.2.2.1 n none) n + (if upo (red rows M n).2.2.2.1 n none n = none then 1 else 0) + (red rows M n).2.1 = _
      rw [fre_congr (ro' := (red rows M n).2.2.2.1) (fun c hc => by unfold upo; rw [if_neg (by omega)])]
      unfold upo
      rw [if_pos rfl, if_pos rfl]
      omega
    | some f =>
      show fre (upo (red rows M n).2.2.2.1 n (some (red rows M n).2.1)) n + (if upo (red rows M n).2.2.2.1 n (some (red rows M n).2.1) n = none then 1 else 0) + ((red rows M n).2.1 + 1) = _
      rw [fre_congr (ro' := (red rows M n).2.2.2.1) (fun c hc => by unfold upo; rw [if_neg (by omega)])]
      unfold upo
      rw [if_pos rfl, if_neg (fun e => by cases e)]
      omega
theorem fcl_iff {ro : Nat → Option Nat} {i : Int} : ∀ (n c seen : Nat), (seen : Int) ≤ i → ((fcl ro i n c seen).isSome = true ↔ i < seen + (fre ro (c + n) - fre ro c : Nat)) := by
  intro n
  induction n with
  | zero =>
    intro c seen hs
    unfold fcl
    rw [Nat.add_zero, Nat.sub_self]
    constructor
    · intro h; cases h
    · intro h; omega
  | succ n ih =>
    intro c seen hs
    have hm : ∀ a b, fre ro a ≤ fre ro (a + b) := by
      intro a b
      induction b with
      | zero => exact Nat.le_refl _
      | succ b ih => exact Nat.le_trans ih (Nat.le_add_right _ _)
    have h1 := hm (c + 1) n
    have h2 := hm c 1
    have e1 : fre ro (c + 1) = fre ro c + (if ro c = none then 1 else 0) := rfl
    have e2 : c + (n + 1) = c + 1 + n := by omega
    unfold fcl
    rw [e2]
    by_cases q : ro c = none
    · rw [if_pos q] at e1 ⊢
      by_cases q2 : (seen : Int) = i
      · rw [if_pos q2]
        constructor
        · intro _; omega
        · intro _; rfl
      · rw [if_neg q2, ih (c + 1) (seen + 1) (by omega)]
        omega
    · rw [if_neg q] at e1 ⊢
      rw [ih (c + 1) seen hs]
      omega
theorem fcl_red {rows : Nat} {M : Nat → Nat → Int} {n : Nat} {i : Int} (hi : 0 ≤ i) : (fcl (red rows M n).2.2.2.1 i n 0 0).isSome = true ↔ i < (n - (red rows M n).2.1 : Nat) := by
  have h1 := fcl_iff (ro := (red rows M n).2.2.2.1) (i := i) n 0 0 (by omega)
  have h2 := red_fre rows M n
  rw [Nat.zero_add] at h1
  rw [h1, show fre (red rows M n).2.2.2.1 0 = 0 from rfl]
  omega
/-- columns do not mix: what stands in the columns below u decides all but the other columns -/
def AG (u : Nat) (s s' : RS) : Prop := (∀ r c, c < u → s.1 r c = s'.1 r c) ∧ s.2 = s'.2
theorem rst_ag {u rows c : Nat} {s s' : RS} (h : AG u s s') (hc : c < u) : AG u (rst rows s c) (rst rows s' c) := by
  obtain ⟨h1, h2⟩ := h
  have e1 : fr s.1 c (rows - s.2.1) s.2.1 = fr s'.1 c (rows - s'.2.1) s'.2.1 := by
    rw [h2]
    exact fr_congr (fun j _ _ => by rw [h1 j c hc])
  unfold rst
  rw [← e1]
  cases hf : fr s.1 c (rows - s.2.1) s.2.1 with
  | none =>
    refine ⟨h1, ?_⟩
    dsimp only
    rw [h2]
  | some f =>
    refine ⟨fun r j hj => ?_, ?_⟩
    · dsimp only
      unfold clr sw
      rw [h2]
      simp only [h1 _ j hj, h1 _ c hc]
    · dsimp only
      rw [h2, h1 f c hc]
theorem red_ag {u rows : Nat} {M M' : Nat → Nat → Int} (h : ∀ r c, c < u → M r c = M' r c) : ∀ n, n ≤ u → AG u (red rows M n) (red rows M' n) := by
  intro n
  induction n with
  | zero => intro _; exact ⟨h, rfl⟩
  | succ n ih => intro hn; exact rst_ag (ih (by omega)) (by omega)
/-- all cells and bottoms on the way are below BB ^ 5 -/
def GBd (rows cols unk : Nat) (M : Nat → Nat → Int) : Prop := ∀ j, j ≤ unk → (∀ r c, r < rows → c < cols → ((red rows M j).1 r c).natAbs < BB ^ 5) ∧ (red rows M j).2.2.1.natAbs < BB ^ 5
theorem sw_lt {rows a b r : Nat} (ha : a < rows) (hb : b < rows) (hr : r < rows) : (if r = a then b else if r = b then a else r) < rows := by
  split
  · exact hb
  · split
    · exact ha
    · exact hr
theorem gbd_sb {rows cols unk : Nat} {M : Nat → Nat → Int} (h : GBd rows cols unk M) (hu : unk ≤ cols) : ∀ j, j < unk → SB 5 rows cols (red rows M j) j := by
  intro j hj f hf r c' hr hrr hc'
  obtain ⟨z1, z2, -, -⟩ := fr_some hf
  have hrk := (red_rank rows M j).1
  obtain ⟨g1, g2⟩ := h j (by omega)
  obtain ⟨g3, g4⟩ := h (j + 1) hj
  have hs : ∀ r c, r < rows → c < cols → (sw (red rows M j).1 f (red rows M j).2.1 r c).natAbs < BB ^ 5 := fun r c hr hc => g1 _ c (sw_lt (by omega) (by omega) hr) hc
  have p1 := prod_lt (g1 f j (by omega) (by omega)) (hs r c' hr hc')
  have p2 := prod_lt (hs r j hr (by omega)) (hs (red rows M j).2.1 c' (by omega) hc')
  have p3 := diff_lt p1 p2
  refine ⟨lt_nd' p1 (by decide), lt_nd' p2 (by decide), Nat.lt_trans p3 (Nat.pow_lt_pow_right (by decide) (by decide)), ?_⟩
  have e : (red rows M (j + 1)).1 r c' = ((red rows M j).1 f j * sw (red rows M j).1 f (red rows M j).2.1 r c' - sw (red rows M j).1 f (red rows M j).2.1 r j * sw (red rows M j).1 f (red rows M j).2.1 (red rows M j).2.1 c').tdiv (red rows M j).2.2.1 := by
    show (rst rows (red rows M j) j).1 r c' = _
    unfold rst
    rw [hf]
    dsimp only
    unfold clr
    rw [if_neg hrr]
  rw [← e]
  exact nd_le.mpr (g3 r c' hr hc')
theorem ffr_lt {rows cols unk : Nat} {M : Nat → Nat → Int} (h : GBd rows cols unk M) (hu : unk ≤ cols) (i c : Int) : (ffr (red rows M unk) unk i c).natAbs < BB ^ 5 := by
  obtain ⟨g1, g2⟩ := h unk (Nat.le_refl _)
  have h0 : (0 : Int).natAbs < BB ^ 5 := by rw [Int.natAbs_zero]; exact BP_pos 5
  unfold ffr
  cases hf : fcl (red rows M unk).2.2.2.1 i unk 0 0 with
  | none => exact h0
  | some f =>
    dsimp only
    split
    · split
      · exact g2
      · cases hr : (red rows M unk).2.2.2.1 c.toNat with
        | none => exact h0
        | some r =>
          dsimp only
          rw [Int.natAbs_neg]
          have h1 := (red_ro rows M unk _ _ hr).2
          have h2 := (red_rank rows M unk).1
          have h3 := (fcl_some hf).2.1
          exact g1 r f (by omega) (by omega)
    · exact h0
theorem fso_lt {rows cols unk : Nat} {M : Nat → Nat → Int} (h : GBd rows cols unk M) (c : Int) {side : Nat} (hs : side < cols) : (fso (red rows M unk) unk c side).natAbs < BB ^ 5 := by
  obtain ⟨g1, g2⟩ := h unk (Nat.le_refl _)
  have h0 : (0 : Int).natAbs < BB ^ 5 := by rw [Int.natAbs_zero]; exact BP_pos 5
  unfold fso
  split
  · cases hr : (red rows M unk).2.2.2.1 c.toNat with
    | none => exact h0
    | some r =>
      have h1 := (red_ro rows M unk _ _ hr).2
      have h2 := (red_rank rows M unk).1
      exact g1 r side (by omega) hs
  · exact h0
/-! the three systems of a net -/
def sF (n : NT) : RS := red (2 * nFr n) (fM n) (nM n)
def sM (n : NT) : RS := red (nM n) (mM n) (2 * nFr n)
def sP (n : NT) : RS := red (nFr n) (pM n) (nFr n)
def wLd (n : NT) (L : Nat → Nat → Int) : NT := (n.1, n.2.1, n.2.2.1, n.2.2.2.1, L, n.2.2.2.2.2)
def wPu (n : NT) (U : Nat → Int) : NT := (n.1, n.2.1, n.2.2.1, n.2.2.2.1, n.2.2.2.2.1, n.2.2.2.2.2.1, n.2.2.2.2.2.2.1, n.2.2.2.2.2.2.2.1, U)
theorem sF_wLd (n : NT) (L : Nat → Nat → Int) : AG (nM n) (sF (wLd n L)) (sF n) := by
  unfold sF
  refine red_ag (M := fM (wLd n L)) (M' := fM n) (rows := 2 * nFr n) (u := nM n) (fun r c hc => ?_) (nM n) (Nat.le_refl _)
  unfold fM
  rw [if_pos hc, if_pos (show c < nM (wLd n L) from hc)]
  rfl
theorem ffr_ag {s s' : RS} {u : Nat} (h : AG u s s') (i c : Int) : ffr s u i c = ffr s' u i c := by
  obtain ⟨h1, h2⟩ := h
  unfold ffr
  rw [h2]
  cases hf : fcl s'.2.2.2.1 i u 0 0 with
  | none => rfl
  | some f =>
    dsimp only
    have := (fcl_some hf).2.1
    split
    · split
      · rfl
      · cases hr : s'.2.2.2.1 c.toNat with
        | none => rfl
        | some r => dsimp only; rw [h1 r f (by omega)]
    · rfl
def HQ (n : NT) : Prop := 2 * nFr n - (sM n).2.1 ≤ 3 → ∀ j, j < 2 * nFr n - (sM n).2.1 → SB 24 (2 * nFr n - (sM n).2.1) (2 * nFr n - (sM n).2.1) (red (2 * nFr n - (sM n).2.1) (fun r c => frm n (sM n) (2 * nFr n) r c (nM n)) j) j ∨ (j + 1 = 2 * nFr n - (sM n).2.1 ∧ LB (2 * nFr n - (sM n).2.1) (2 * nFr n - (sM n).2.1) (red (2 * nFr n - (sM n).2.1) (fun r c => frm n (sM n) (2 * nFr n) r c (nM n)) j) j)
/-- what the sizes of the numbers must keep -/
def HB (n : NT) : Prop := GBd (2 * nFr n) (nM n + 1) (nM n) (fM n) ∧ GBd (nM n) (2 * nFr n) (2 * nFr n) (mM n) ∧ GBd (nFr n) (nFr n + 2) (nFr n) (pM n) ∧ HQ n
def TI (n : NT) : Prop := ∃ y : Nat → Int, ∀ m, m < nM n → nS n m ≠ 0 → 0 < dot (qv n (sF n) (nM n) m) y
def frac (x y : Int) : Int × Int := ((if y < 0 then -x else x).tdiv (Nat.gcd x.natAbs y.natAbs : Int), (y.natAbs : Int).tdiv (Nat.gcd x.natAbs y.natAbs : Int))
