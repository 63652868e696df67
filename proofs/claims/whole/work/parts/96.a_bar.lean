/-! BAREISS: every cell of the reduction is a minor -/
def cl' (k : Nat) (cs : Nat → Nat) (j t : Nat) : Nat := if t < k then cs t else j
def Er (k : Nat) (P : Nat → Nat → Int) (cs : Nat → Nat) (w : Nat → Int) (j : Nat) : Int := Dt (k + 1) (fun s t => (if s = k then w else P s) (cl' k cs j t))
def De (k : Nat) (P : Nat → Nat → Int) (cs : Nat → Nat) : Int := Dt k (fun s t => P s (cs t))
theorem Er_cg {k : Nat} {P P' : Nat → Nat → Int} {cs cs' : Nat → Nat} {w w' : Nat → Int} {j : Nat} (h1 : ∀ s, s < k → P s = P' s) (h2 : ∀ t, t < k → cs t = cs' t) (h3 : w = w') : Er k P cs w j = Er k P' cs' w' j := by
  unfold Er
  refine Dt_congr (fun s t hs ht => ?_)
  have e : cl' k cs j t = cl' k cs' j t := by
    unfold cl'
    split
    · rename_i q; exact h2 t q
    · rfl
  rw [e, h3]
  by_cases q : s = k
  · rw [if_pos q, if_pos q]
  · rw [if_neg q, if_neg q, h1 s (by omega)]
theorem De_cg {k : Nat} {P P' : Nat → Nat → Int} {cs cs' : Nat → Nat} (h1 : ∀ s, s < k → P s = P' s) (h2 : ∀ t, t < k → cs t = cs' t) : De k P cs = De k P' cs' := Dt_congr (fun s t hs ht => by rw [h1 s hs, h2 t ht])
theorem De_succ (k : Nat) (P : Nat → Nat → Int) (cs : Nat → Nat) : De (k + 1) P cs = Er k P cs (P k) (cs k) := by
  unfold De Er
  refine Dt_congr (fun s t hs ht => ?_)
  have e : cl' k cs (cs k) t = cs t := by
    unfold cl'
    split
    · rfl
    · rw [show t = k by omega]
  rw [e]
  by_cases q : s = k
  · rw [if_pos q, q]
  · rw [if_neg q]
theorem sy {k : Nat} {P : Nat → Nat → Int} {cs : Nat → Nat} (hR : ∀ i, i ≤ k → De i P cs ≠ 0) (w : Nat → Int) (j : Nat) : Er k P cs (P k) (cs k) * Er k P cs w j - Er k P cs w (cs k) * Er k P cs (P k) j = De k P cs * Er (k + 1) P cs w j := by
  have s0 := sylvester (k := k) (R := fun s t => P s (cl' (k + 1) cs j t)) (fun i hi => by
    rw [show Dt i (fun s t => P s (cl' (k + 1) cs j t)) = De i P cs from Dt_congr (fun s t hs ht => by unfold cl'; rw [if_pos (by omega)])]
    exact hR i hi) (fun t => P k (cl' (k + 1) cs j t)) (fun t => w (cl' (k + 1) cs j t))
  have c1 : ∀ x : Nat → Int, ec k (fun s t => P s (cl' (k + 1) cs j t)) (fun t => x (cl' (k + 1) cs j t)) = Er k P cs x (cs k) := fun x => by
    unfold ec Er
    refine Dt_congr (fun s t hs ht => ?_)
    have e : cl' k cs (cs k) t = cl' (k + 1) cs j t := by
      unfold cl'
      rw [if_pos ht]
      split
      · rfl
      · rw [show t = k by omega]
    rw [e]
    unfold rp
    by_cases q : s = k
    · rw [if_pos q, if_pos q]
    · rw [if_neg q, if_neg q]
  have c2 : ∀ x : Nat → Int, ej k (fun s t => P s (cl' (k + 1) cs j t)) (fun t => x (cl' (k + 1) cs j t)) = Er k P cs x j := fun x => by
    unfold ej Er
    refine Dt_congr (fun s t hs ht => ?_)
    have e : cl' (k + 1) cs j (sj k t) = cl' k cs j t := by
      unfold cl' sj
      by_cases q : t = k
      · rw [if_pos q, if_neg (by omega), if_neg (by omega)]
      · rw [if_neg q, if_pos (by omega), if_pos (by omega)]
    unfold rp
    dsimp only
    rw [e]
    by_cases q : s = k
    · rw [if_pos q, if_pos q]
    · rw [if_neg q, if_neg q]
  have c3 : Dt (k + 2) (rp (rp (fun s t => P s (cl' (k + 1) cs j t)) k (fun t => P k (cl' (k + 1) cs j t))) (k + 1) (fun t => w (cl' (k + 1) cs j t))) = Er (k + 1) P cs w j := by
    unfold Er
    refine Dt_congr (fun s t hs ht => ?_)
    unfold rp
    by_cases q : s = k + 1
    · rw [if_pos q, if_pos q]
    · rw [if_neg q, if_neg q]
      by_cases q2 : s = k
      · rw [if_pos q2, q2]
      · rw [if_neg q2]
  rw [c1 (P k), c1 w, c2 (P k), c2 w, c3, show Dt k (fun s t => P s (cl' (k + 1) cs j t)) = De k P cs from Dt_congr (fun s t hs ht => by unfold cl'; rw [if_pos (by omega)])] at s0
  exact s0
def un (c j : Nat) : Int := if j = c then 1 else 0
/-- a unit row outside the columns -/
theorem Er_un {k : Nat} {P : Nat → Nat → Int} {cs : Nat → Nat} {c j : Nat} (hc : ∀ t, t < k → cs t ≠ c) : Er k P cs (un c) j = un c j * De k P cs := by
  unfold Er De
  have e : Dt (k + 1) (fun s t => (if s = k then un c else P s) (cl' k cs j t)) = Dt (k + 1) (rp (fun s t => P s (cl' k cs j t)) k (fun t => un c (cl' k cs j t))) := Dt_congr (fun s t hs ht => by
    unfold rp
    by_cases q : s = k
    · rw [if_pos q, if_pos q]
    · rw [if_neg q, if_neg q])
  rw [e, Dt_last (fun t ht => by unfold cl' un; rw [if_pos ht, if_neg (hc t ht)])]
  congr 1
  · unfold cl'
    rw [if_neg (Nat.lt_irrefl _)]
  · exact Dt_congr (fun s t hs ht => by unfold cl'; rw [if_pos ht])
/-- what stands after n columns -/
def BI (rows : Nat) (M : Nat → Nat → Int) (n : Nat) (s : RS) (p : Nat → Nat) (cs : Nat → Nat) : Prop := (∀ i, i < rows → p i < rows) ∧ (∀ i j, i < rows → j < rows → p i = p j → i = j) ∧ (∀ t, t < s.2.1 → cs t < n ∧ s.2.2.2.1 (cs t) = some t) ∧ (∀ c t, s.2.2.2.1 c = some t → t < s.2.1 ∧ cs t = c) ∧ s.2.2.1 = De s.2.1 (fun i => M (p i)) cs ∧ (∀ i, i ≤ s.2.1 → De i (fun i => M (p i)) cs ≠ 0) ∧ (∀ i j, s.2.1 ≤ i → i < rows → s.1 i j = Er s.2.1 (fun i => M (p i)) cs (M (p i)) j) ∧ (∀ i j, i < s.2.1 → s.1 i j = De s.2.1 (fun i => M (p i)) cs * un (cs i) j - Er s.2.1 (fun i => M (p i)) cs (un (cs i)) j)
theorem swp {rows f k : Nat} (hf : f < rows) (hk : k < rows) : (∀ i, i < rows → (if i = f then k else if i = k then f else i) < rows) ∧ (∀ i j, (if i = f then k else if i = k then f else i) = (if j = f then k else if j = k then f else j) → i = j) := by
  refine ⟨fun i hi => sw_lt hf hk hi, fun i j e => ?_⟩
  by_cases q1 : i = f
  · rw [if_pos q1] at e
    by_cases q2 : j = f
    · omega
    · rw [if_neg q2] at e
      by_cases q3 : j = k
      · rw [if_pos q3] at e; omega
      · rw [if_neg q3] at e; omega
  · rw [if_neg q1] at e
    by_cases q4 : i = k
    · rw [if_pos q4] at e
      by_cases q2 : j = f
      · rw [if_pos q2] at e; omega
      · rw [if_neg q2] at e
        by_cases q3 : j = k
        · omega
        · rw [if_neg q3] at e; omega
    · rw [if_neg q4] at e
      by_cases q2 : j = f
      · rw [if_pos q2] at e; omega
      · rw [if_neg q2] at e
        by_cases q3 : j = k
        · rw [if_pos q3] at e; omega
        · rw [if_neg q3] at e; omega
theorem bi_step {rows n : Nat} {M : Nat → Nat → Int} {s : RS} {p cs : Nat → Nat} (hr : s.2.1 ≤ rows) (b : BI rows M n s p cs) : ∃ p' cs', BI rows M (n + 1) (rst rows s n) p' cs' := by
  obtain ⟨X, k, bo, rof, lf⟩ := s
  obtain ⟨b1, b2, b3, b4, b5, b6, b7, b8⟩ := b
  dsimp only at hr b3 b4 b5 b6 b7 b8
  have frn : ∀ t, t < k → cs t ≠ n := fun t ht e => by have := (b3 t ht).1; omega
  unfold rst
  dsimp only
  cases hf : fr X n (rows - k) k with
  | none =>
    refine ⟨p, cs, b1, b2, fun t ht => ⟨Nat.lt_succ_of_lt (b3 t ht).1, ?_⟩, fun c t hc => ?_, b5, b6, b7, b8⟩
    · dsimp only
      unfold upo
      rw [if_neg (frn t ht)]
      exact (b3 t ht).2
    · dsimp only at hc
      unfold upo at hc
      by_cases q : c = n
      · rw [if_pos q] at hc; cases hc
      · rw [if_neg q] at hc; exact b4 c t hc
  | some f =>
    obtain ⟨f1, f2, f3, -⟩ := fr_some hf
    have hfr : f < rows := by omega
    have hkr : k < rows := by omega
    obtain ⟨w1, w2⟩ := swp hfr hkr
    obtain ⟨p', hp'⟩ : ∃ p' : Nat → Nat, p' = fun i => p (if i = f then k else if i = k then f else i) := ⟨_, rfl⟩
    obtain ⟨cs', hcs'⟩ : ∃ cs' : Nat → Nat, cs' = fun t => if t = k then n else cs t := ⟨_, rfl⟩
    have p'lt : ∀ i, i < k → p' i = p i := fun i hi => by rw [hp']; dsimp only; rw [if_neg (by omega), if_neg (by omega)]
    have p'k : p' k = p f := by
      rw [hp']
      dsimp only
      by_cases q : k = f
      · rw [if_pos q, q]
      · rw [if_neg q, if_pos rfl]
    have cslt : ∀ t, t < k → cs' t = cs t := fun t ht => by rw [hcs']; dsimp only; rw [if_neg (by omega)]
    have csk : cs' k = n := by rw [hcs']; dsimp only; rw [if_pos rfl]
    have P1 : ∀ i, i < k → (fun i => M (p i)) i = (fun i => M (p' i)) i := fun i hi => by dsimp only; rw [p'lt i hi]
    have C1 : ∀ t, t < k → cs t = cs' t := fun t ht => (cslt t ht).symm
    have De0 : De k (fun i => M (p i)) cs = De k (fun i => M (p' i)) cs' := De_cg P1 C1
    have Dei : ∀ i, i ≤ k → De i (fun i => M (p' i)) cs' ≠ 0 := fun i hi => by
      rw [← De_cg (fun s hs => P1 s (by omega)) (fun t ht => C1 t (by omega))]
      exact b6 i hi
    have sw7 : ∀ i j, k ≤ i → i < rows → sw X f k i j = Er k (fun i => M (p' i)) cs' (M (p' i)) j := fun i j hi1 hi2 => by
      have e : sw X f k i j = X (if i = f then k else if i = k then f else i) j := rfl
      have ge : k ≤ (if i = f then k else if i = k then f else i) := by
        split
        · exact Nat.le_refl _
        · split <;> omega
      rw [e, b7 _ j ge (w1 i hi2)]
      exact Er_cg P1 C1 (by rw [hp'])
    have sw8 : ∀ i j, i < k → sw X f k i j = De k (fun i => M (p' i)) cs' * un (cs' i) j - Er k (fun i => M (p' i)) cs' (un (cs' i)) j := fun i j hi => by
      rw [sw_ne (by omega) (by omega), b8 i j hi, De0, cslt i hi, Er_cg P1 C1 rfl]
    have piv : X f n = Er k (fun i => M (p' i)) cs' (M (p' k)) (cs' k) := by
      rw [b7 f n f1 hfr, csk, p'k]
      exact Er_cg P1 C1 rfl
    have pk : sw X f k k = fun j => Er k (fun i => M (p' i)) cs' (M (p' k)) j := by
      funext j
      exact sw7 k j (Nat.le_refl _) hkr
    have D1 : De (k + 1) (fun i => M (p' i)) cs' = X f n := by rw [De_succ]; exact piv.symm
    have nz : De k (fun i => M (p' i)) cs' ≠ 0 := Dei k (Nat.le_refl _)
    have key : ∀ w j, X f n * Er k (fun i => M (p' i)) cs' w j - Er k (fun i => M (p' i)) cs' w n * Er k (fun i => M (p' i)) cs' (M (p' k)) j = De k (fun i => M (p' i)) cs' * Er (k + 1) (fun i => M (p' i)) cs' w j := fun w j => by
      have := sy (k := k) (P := fun i => M (p' i)) (cs := cs') Dei w j
      rw [← piv, csk] at this
      exact this
    have bot : bo = De k (fun i => M (p' i)) cs' := b5.trans De0
    refine ⟨p', cs', ?_, ?_, ?_, ?_, ?_, ?_, ?_, ?_⟩
    · intro i hi
      rw [hp']
      exact b1 _ (w1 i hi)
    · intro i j hi hj e
      rw [hp'] at e
      exact w2 i j (b2 _ _ (w1 i hi) (w1 j hj) e)
    · intro t ht
      dsimp only at ht ⊢
      unfold upo
      by_cases q : t = k
      · rw [q, csk, if_pos rfl]
        exact ⟨by omega, rfl⟩
      · rw [cslt t (by omega), if_neg (frn t (by omega))]
        exact ⟨Nat.lt_succ_of_lt (b3 t (by omega)).1, (b3 t (by omega)).2⟩
    · intro c t hc
      dsimp only at hc ⊢
      unfold upo at hc
      by_cases q : c = n
      · rw [if_pos q] at hc
        cases hc
        exact ⟨by omega, by rw [csk, q]⟩
      · rw [if_neg q] at hc
        obtain ⟨x1, x2⟩ := b4 c t hc
        exact ⟨by omega, by rw [cslt t x1]; exact x2⟩
    · dsimp only
      exact D1.symm
    · intro i hi
      dsimp only at hi
      by_cases q : i = k + 1
      · rw [q, D1]; exact f3
      · exact Dei i (by omega)
    · intro i j hi1 hi2
      dsimp only at hi1 ⊢
      unfold clr
      rw [if_neg (by omega), bot, sw7 i j (by omega) hi2, sw7 i n (by omega) hi2, congrFun pk j, key (M (p' i)) j]
      exact Int.mul_tdiv_cancel_left _ nz
    · intro i j hi
      dsimp only at hi ⊢
      rw [D1]
      unfold clr
      by_cases q : i = k
      · rw [if_pos q, q, congrFun pk j, csk]
        have u0 := key (un n) j
        have e1 := Er_un (k := k) (P := fun i => M (p' i)) (cs := cs') (c := n) (j := j) (fun t ht => by rw [cslt t ht]; exact frn t ht)
        have e2 := Er_un (k := k) (P := fun i => M (p' i)) (cs := cs') (c := n) (j := n) (fun t ht => by rw [cslt t ht]; exact frn t ht)
        have e3 : un n n = 1 := by unfold un; rw [if_pos rfl]
        rw [e1, e2, e3] at u0
        have u1 : De k (fun i => M (p' i)) cs' * (X f n * un n j - Er k (fun i => M (p' i)) cs' (M (p' k)) j) = De k (fun i => M (p' i)) cs' * Er (k + 1) (fun i => M (p' i)) cs' (un n) j := by
          rw [← u0, Int.mul_sub, Int.one_mul, Int.mul_comm (un n j), Int.mul_left_comm]
        have u2 := Int.eq_of_mul_eq_mul_left nz u1
        omega
      · have hik : i < k := by omega
        have ui : un (cs' i) n = 0 := by unfold un; rw [if_neg (by rw [cslt i hik]; exact fun e => frn i hik e.symm)]
        rw [if_neg q, bot, sw8 i j hik, sw8 i n hik, ui, congrFun pk j, Int.mul_zero, Int.zero_sub]
        have u0 := key (un (cs' i)) j
        have e : X f n * (De k (fun i => M (p' i)) cs' * un (cs' i) j - Er k (fun i => M (p' i)) cs' (un (cs' i)) j) - -Er k (fun i => M (p' i)) cs' (un (cs' i)) n * Er k (fun i => M (p' i)) cs' (M (p' k)) j = De k (fun i => M (p' i)) cs' * (X f n * un (cs' i) j - Er (k + 1) (fun i => M (p' i)) cs' (un (cs' i)) j) := by
          rw [Int.mul_sub (De k (fun i => M (p' i)) cs'), ← u0, Int.mul_sub (X f n), Int.neg_mul, Int.mul_left_comm (X f n) (De k (fun i => M (p' i)) cs')]
          omega
        rw [e]
        exact Int.mul_tdiv_cancel_left _ nz
theorem red_bi (rows : Nat) (M : Nat → Nat → Int) : ∀ n, ∃ p cs, BI rows M n (red rows M n) p cs := by
  intro n
  induction n with
  | zero =>
    refine ⟨fun i => i, fun _ => 0, fun i hi => hi, fun i j _ _ e => e, fun t ht => absurd ht (Nat.not_lt_zero _), fun c t hc => (by cases hc), rfl, fun i hi => ?_, fun i j _ hi => ?_, fun i j hi => absurd hi (Nat.not_lt_zero _)⟩
    · have : i = 0 := Nat.le_zero.mp hi
      rw [this]
      show (1 : Int) ≠ 0
      decide
    · show M i j = Dt 1 _
      show M i j = su (fun t => sg (0 + t) * Dt 0 _ * _) 1
      show M i j = 0 + sg (0 + 0) * 1 * M i (cl' 0 (fun _ => 0) j 0)
      rw [show sg (0 + 0) = 1 from rfl, show cl' 0 (fun _ => 0) j 0 = j from rfl]
      omega
  | succ n ih =>
    obtain ⟨p, cs, b⟩ := ih
    exact bi_step (red_rank rows M n).1 b
