/-! the reduction of the table with every sign turned -/
def pm1 (e : Int) : Prop := e = 1 ∨ e = -1
def NG (e : Int) (s s' : RS) : Prop := s'.2.1 = s.2.1 ∧ s'.2.2.1 = e * s.2.2.1 ∧ s'.2.2.2.1 = s.2.2.2.1 ∧ (∀ r c, r < s.2.1 → s'.1 r c = e * s.1 r c) ∧ ∀ r c, s.2.1 ≤ r → s'.1 r c = -e * s.1 r c
theorem pm1_tdiv {e a : Int} (he : pm1 e) (x y : Int) (ha : pm1 a) : (a * x).tdiv (e * y) = (a * e) * x.tdiv y := by
  rcases he with rfl | rfl <;> rcases ha with rfl | rfl <;> simp [Int.neg_tdiv, Int.tdiv_neg]
theorem pm1_ne {e x : Int} (he : pm1 e) : e * x = 0 ↔ x = 0 := by
  rcases he with rfl | rfl <;> omega
theorem ng_rst {rows c : Nat} {e : Int} {s s' : RS} (he : pm1 e) (hg : NG e s s') (hr : s.2.1 ≤ rows) : ∃ e', pm1 e' ∧ NG e' (rst rows s c) (rst rows s' c) := by
  obtain ⟨g1, g2, g3, g4, g5⟩ := hg
  have hn : pm1 (-e) := by rcases he with rfl | rfl; exact Or.inr rfl; exact Or.inl rfl
  have e1 : fr s'.1 c (rows - s'.2.1) s'.2.1 = fr s.1 c (rows - s.2.1) s.2.1 := by
    rw [g1]
    exact fr_congr (fun j j1 _ => by rw [g5 j c j1]; exact pm1_ne hn)
  unfold rst
  rw [e1]
  cases hf : fr s.1 c (rows - s.2.1) s.2.1 with
  | none =>
    refine ⟨e, he, g1, g2, ?_, g4, g5⟩
    dsimp only
    rw [g3]
  | some f =>
    obtain ⟨f1, f2, f3, -⟩ := fr_some hf
    refine ⟨-e, hn, ?_, ?_, ?_, ?_, ?_⟩
    · dsimp only; rw [g1]
    · dsimp only; exact g5 f c f1
    · dsimp only; rw [g3, g1]
    · intro r j hj
      dsimp only at hj ⊢
      rw [g1, g2, g5 f c f1]
      unfold clr
      by_cases q : r = s.2.1
      · rw [if_pos q, if_pos q, q, sw_rk, sw_rk]
        exact g5 f j f1
      · rw [if_neg q, if_neg q, sw_rk, sw_rk, sw_ne (by omega) q, sw_ne (by omega) q, sw_ne (by omega) q, sw_ne (by omega) q, g4 r j (by omega), g4 r c (by omega), g5 f j f1]
        rw [show -e * s.1 f c * (e * s.1 r j) - e * s.1 r c * (-e * s.1 f j) = -1 * (s.1 f c * s.1 r j - s.1 r c * s.1 f j) by rcases he with rfl | rfl <;> grind, pm1_tdiv he _ _ (Or.inr rfl)]
        rw [show (-1 : Int) * e = -e by omega]
    · intro r j hj
      dsimp only at hj ⊢
      rw [g1, g2, g5 f c f1]
      unfold clr
      have sr : ∀ x, sw s'.1 f s.2.1 r x = -e * sw s.1 f s.2.1 r x := by
        intro x
        unfold sw
        exact g5 _ x (by split <;> first | omega | (split <;> omega))
      rw [if_neg (by omega), if_neg (by omega), sw_rk, sw_rk, sr, sr, g5 f j f1]
      rw [show -e * s.1 f c * (-e * sw s.1 f s.2.1 r j) - -e * sw s.1 f s.2.1 r c * (-e * s.1 f j) = 1 * (s.1 f c * sw s.1 f s.2.1 r j - sw s.1 f s.2.1 r c * s.1 f j) by rcases he with rfl | rfl <;> grind, pm1_tdiv he _ _ (Or.inl rfl)]
      rw [show (1 : Int) * e = - -e by omega]
theorem red_ng {rows : Nat} {M M' : Nat → Nat → Int} (h : ∀ r c, M' r c = - M r c) : ∀ n, ∃ e, pm1 e ∧ NG e (red rows M n) (red rows M' n) := by
  intro n
  induction n with
  | zero => exact ⟨1, Or.inl rfl, rfl, rfl, rfl, fun r c hr => absurd hr (Nat.not_lt_zero _), fun r c _ => by show M' r c = -1 * M r c; rw [h]; omega⟩
  | succ n ih =>
    obtain ⟨e, he, hg⟩ := ih
    exact ng_rst he hg (red_rank rows M n).1
theorem pm1_abs {e x : Int} (he : pm1 e) : (e * x).natAbs = x.natAbs ∧ (-e * x).natAbs = x.natAbs := by
  rcases he with rfl | rfl <;> constructor <;> simp
theorem gbd_ng {rows cols unk : Nat} {M M' : Nat → Nat → Int} (h : ∀ r c, M' r c = - M r c) (g : GBd rows cols unk M) : GBd rows cols unk M' := by
  intro j hj
  obtain ⟨e, he, g1, g2, g3, g4, g5⟩ := red_ng (rows := rows) h j
  obtain ⟨b1, b2⟩ := g j hj
  refine ⟨fun r c hr hc => ?_, ?_⟩
  · by_cases q : r < (red rows M j).2.1
    · rw [g4 r c q, (pm1_abs he).1]; exact b1 r c hr hc
    · rw [g5 r c (by omega), (pm1_abs he).2]; exact b1 r c hr hc
  · rw [g2, (pm1_abs he).1]; exact b2
theorem ffr_ng {rows u : Nat} {M M' : Nat → Nat → Int} {e : Int} (g : NG e (red rows M u) (red rows M' u)) (i c : Int) : ffr (red rows M' u) u i c = e * ffr (red rows M u) u i c := by
  obtain ⟨g1, g2, g3, g4, g5⟩ := g
  unfold ffr
  rw [g3]
  cases hf : fcl (red rows M u).2.2.2.1 i u 0 0 with
  | none => dsimp only; omega
  | some f =>
    dsimp only
    split
    · split
      · exact g2
      · cases hr : (red rows M u).2.2.2.1 c.toNat with
        | none => dsimp only; omega
        | some r =>
          dsimp only
          rw [g4 r f (red_ro rows M u _ _ hr).2, Int.mul_neg]
    · omega
theorem frac_ng {e x y : Int} (he : pm1 e) (hy : y ≠ 0) : frac (e * x) (e * y) = frac x y := by
  rcases he with rfl | rfl
  · rw [Int.one_mul, Int.one_mul]
  · unfold frac
    rw [show (-1 : Int) * x = -x by omega, show (-1 : Int) * y = -y by omega, Int.natAbs_neg, Int.natAbs_neg]
    by_cases q : y < 0
    · rw [if_neg (by omega), if_pos q]
    · rw [if_pos (by omega), if_neg q, Int.neg_neg]
def mN (n : NT) (r c : Nat) : Int := far n r (jo n (c / 2)) (c % 2)
theorem mN_neg (n : NT) (r c : Nat) : mN n r c = - mM n r c := by
  unfold mN mM
  rw [Int.neg_neg]
def sN (n : NT) : RS := red (nM n) (mN n) (2 * nFr n)
theorem sN_ng (n : NT) : ∃ e, pm1 e ∧ NG e (sM n) (sN n) := red_ng (fun r c => mN_neg n r c) _
