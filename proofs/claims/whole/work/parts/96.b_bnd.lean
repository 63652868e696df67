/-! BOUNDS of minors, by sums of rows or of columns -/
theorem nsu_cg {f g : Nat → Nat} : ∀ {n : Nat}, (∀ i, i < n → f i = g i) → nsu f n = nsu g n := by
  intro n
  induction n with
  | zero => intro _; rfl
  | succ n ih =>
    intro h
    show nsu f n + f n = nsu g n + g n
    rw [ih (fun i hi => h i (by omega)), h n (by omega)]
theorem nsu_out (g : Nat → Nat) (j : Nat) : ∀ N, j < N → nsu (fun c => if c = j then 0 else g c) N + g j = nsu g N := by
  intro N
  induction N with
  | zero => intro h; omega
  | succ N ih =>
    intro h
    show nsu (fun c => if c = j then 0 else g c) N + (if N = j then 0 else g N) + g j = nsu g N + g N
    by_cases q : N = j
    · rw [if_pos q, nsu_cg (g := g) (fun c hc => if_neg (by omega)), q]
      omega
    · rw [if_neg q]
      have := ih (by omega)
      omega
/-- a choice of different places sums to no more than all -/
theorem nsu_inj {N : Nat} {σ : Nat → Nat} : ∀ (k : Nat) (g : Nat → Nat), (∀ s, s < k → σ s < N) → (∀ s t, s < k → t < k → σ s = σ t → s = t) → nsu (fun s => g (σ s)) k ≤ nsu g N := by
  intro k
  induction k with
  | zero => intro g _ _; exact Nat.zero_le _
  | succ k ih =>
    intro g h1 h2
    have h3 := ih (fun c => if c = σ k then 0 else g c) (fun s hs => h1 s (by omega)) (fun s t hs ht => h2 s t (by omega) (by omega))
    have h4 : nsu (fun s => (fun c => if c = σ k then 0 else g c) (σ s)) k = nsu (fun s => g (σ s)) k := nsu_cg (fun s hs => if_neg (fun e => by have := h2 s k (by omega) (by omega) e; omega))
    rw [h4] at h3
    have h5 := nsu_out g (σ k) N (h1 k (by omega))
    show nsu (fun s => g (σ s)) k + g (σ k) ≤ nsu g N
    omega
theorem npr_pow {f : Nat → Nat} {B : Nat} : ∀ {k : Nat}, (∀ s, s < k → f s ≤ B) → npr f k ≤ B ^ k := by
  intro k
  induction k with
  | zero => intro _; exact Nat.le_refl _
  | succ k ih =>
    intro h
    show npr f k * f k ≤ B ^ (k + 1)
    rw [Nat.pow_succ]
    exact Nat.mul_le_mul (ih (fun s hs => h s (by omega))) (h k (by omega))
theorem nsu_cl {k : Nat} {cs : Nat → Nat} {j : Nat} (g : Nat → Nat) : nsu (fun t => g (cl' k cs j t)) (k + 1) = nsu (fun t => g (cs t)) k + g j := by
  show nsu (fun t => g (cl' k cs j t)) k + g (cl' k cs j k) = _
  have e : cl' k cs j k = j := by unfold cl'; rw [if_neg (Nat.lt_irrefl _)]
  rw [e, nsu_cg (g := fun t => g (cs t)) (fun t ht => by unfold cl'; rw [if_pos ht])]
theorem Er_rows {k : Nat} {P : Nat → Nat → Int} {cs : Nat → Nat} {w : Nat → Int} {j A B : Nat} (h1 : ∀ s, s < k → nsu (fun t => (P s (cs t)).natAbs) k + (P s j).natAbs ≤ A) (h2 : nsu (fun t => (w (cs t)).natAbs) k + (w j).natAbs ≤ B) : (Er k P cs w j).natAbs ≤ A ^ k * B := by
  unfold Er
  refine Nat.le_trans (Dt_rows (k + 1) _) ?_
  show npr _ k * _ ≤ _
  refine Nat.mul_le_mul (npr_pow (fun s hs => ?_)) ?_
  · rw [nsu_cg (g := fun t => (fun c => (P s c).natAbs) (cl' k cs j t)) (fun t ht => by rw [if_neg (by omega)]), nsu_cl (fun c => (P s c).natAbs)]
    exact h1 s hs
  · dsimp only
    rw [nsu_cg (g := fun t => (fun c => (w c).natAbs) (cl' k cs j t)) (fun t ht => by rw [if_pos rfl]), nsu_cl (fun c => (w c).natAbs)]
    exact h2
theorem De_rows {k : Nat} {P : Nat → Nat → Int} {cs : Nat → Nat} {A : Nat} (h1 : ∀ s, s < k → nsu (fun t => (P s (cs t)).natAbs) k ≤ A) : (De k P cs).natAbs ≤ A ^ k := Nat.le_trans (Dt_rows k _) (npr_pow h1)
/-- by the sums of the columns -/
theorem npr_mono {f g : Nat → Nat} {n : Nat} (h : ∀ i, i < n → f i ≤ g i) : npr f n ≤ npr g n := npr_le h
theorem npr_cg {f g : Nat → Nat} : ∀ {n : Nat}, (∀ i, i < n → f i = g i) → npr f n = npr g n := by
  intro n
  induction n with
  | zero => intro _; rfl
  | succ n ih =>
    intro h
    show npr f n * f n = npr g n * g n
    rw [ih (fun i hi => h i (by omega)), h n (by omega)]
theorem cols_aux (a c : Nat → Nat) : ∀ n, nsu (fun t => a t * npr (fun u => c (skp t u)) n) (n + 1) ≤ npr (fun t => c t + a t) (n + 1) := by
  intro n
  induction n with
  | zero =>
    show 0 + a 0 * 1 ≤ 1 * (c 0 + a 0)
    omega
  | succ n ih =>
    have e1 : nsu (fun t => a t * npr (fun u => c (skp t u)) (n + 1)) (n + 1) = nsu (fun t => c (n + 1) * (a t * npr (fun u => c (skp t u)) n)) (n + 1) := nsu_cg (fun t ht => by
      show a t * (npr (fun u => c (skp t u)) n * c (skp t n)) = _
      have : skp t n = n + 1 := by unfold skp; rw [if_neg (by omega)]
      rw [this, Nat.mul_comm (c (n + 1)), Nat.mul_assoc])
    have e2 : npr (fun u => c (skp (n + 1) u)) (n + 1) = npr c (n + 1) := npr_cg (fun u hu => by unfold skp; rw [if_pos hu])
    show nsu (fun t => a t * npr (fun u => c (skp t u)) (n + 1)) (n + 1) + a (n + 1) * npr (fun u => c (skp (n + 1) u)) (n + 1) ≤ npr (fun t => c t + a t) (n + 1) * (c (n + 1) + a (n + 1))
    rw [e1, nsu_mul, e2, Nat.mul_add]
    have h1 : c (n + 1) * nsu (fun t => a t * npr (fun u => c (skp t u)) n) (n + 1) ≤ npr (fun t => c t + a t) (n + 1) * c (n + 1) := by
      rw [Nat.mul_comm]
      exact Nat.mul_le_mul_right _ ih
    have h2 : a (n + 1) * npr c (n + 1) ≤ npr (fun t => c t + a t) (n + 1) * a (n + 1) := by
      rw [Nat.mul_comm]
      exact Nat.mul_le_mul_right _ (npr_le (fun i hi => Nat.le_add_right _ _))
    omega
theorem Dt_cols : ∀ (k : Nat) (R : Nat → Nat → Int), (Dt k R).natAbs ≤ npr (fun t => nsu (fun s => (R s t).natAbs) k) k := by
  intro k
  induction k with
  | zero => intro R; exact Nat.le_refl _
  | succ k ih =>
    intro R
    refine Nat.le_trans (su_abs _ _) ?_
    refine Nat.le_trans (nsu_le (g := fun t => (R k t).natAbs * npr (fun u => nsu (fun s => (R s (skp t u)).natAbs) k) k) (fun t ht => ?_)) (cols_aux (fun t => (R k t).natAbs) (fun t => nsu (fun s => (R s t).natAbs) k) k)
    rw [Int.natAbs_mul, Int.natAbs_mul, sg_abs, Nat.one_mul, Nat.mul_comm]
    exact Nat.mul_le_mul_left _ (ih _)
theorem Er_cols {k : Nat} {P : Nat → Nat → Int} {cs : Nat → Nat} {w : Nat → Int} {j A B : Nat} (h1 : ∀ t, t < k → nsu (fun s => (P s (cs t)).natAbs) k + (w (cs t)).natAbs ≤ A) (h2 : nsu (fun s => (P s j).natAbs) k + (w j).natAbs ≤ B) : (Er k P cs w j).natAbs ≤ A ^ k * B := by
  have e : ∀ c, nsu (fun s => ((if s = k then w else P s) c).natAbs) (k + 1) = nsu (fun s => (P s c).natAbs) k + (w c).natAbs := fun c => by
    show nsu (fun s => ((if s = k then w else P s) c).natAbs) k + ((if k = k then w else P k) c).natAbs = _
    rw [if_pos rfl, nsu_cg (g := fun s => (P s c).natAbs) (fun s hs => by rw [if_neg (by omega)])]
  unfold Er
  refine Nat.le_trans (Dt_cols (k + 1) _) ?_
  show npr _ k * _ ≤ _
  refine Nat.mul_le_mul (npr_pow (fun t ht => ?_)) ?_
  · rw [e, show cl' k cs j t = cs t by unfold cl'; rw [if_pos ht]]
    exact h1 t ht
  · dsimp only
    rw [e, show cl' k cs j k = j by unfold cl'; rw [if_neg (Nat.lt_irrefl _)]]
    exact h2
theorem De_cols {k : Nat} {P : Nat → Nat → Int} {cs : Nat → Nat} {A : Nat} (h1 : ∀ t, t < k → nsu (fun s => (P s (cs t)).natAbs) k ≤ A) : (De k P cs).natAbs ≤ A ^ k := Nat.le_trans (Dt_cols k _) (npr_pow h1)
section BND
variable {rows cols unk : Nat} {M : Nat → Nat → Int}
theorem bi_inj {n : Nat} {s : RS} {p cs : Nat → Nat} (b : BI rows M n s p cs) : ∀ t u, t < s.2.1 → u < s.2.1 → cs t = cs u → t = u := fun t u ht hu e => by
  have h1 := (b.2.2.1 t ht).2
  have h2 := (b.2.2.1 u hu).2
  rw [e, h2] at h1
  cases h1
  rfl
theorem un_sum {n : Nat} {s : RS} {p cs : Nat → Nat} (b : BI rows M n s p cs) {i : Nat} (hi : i < s.2.1) : nsu (fun t => (un (cs i) (cs t)).natAbs) s.2.1 ≤ 1 := by
  have h0 : ∀ N, nsu (fun c => (un (cs i) c).natAbs) N ≤ 1 := fun N => by
    by_cases q : cs i < N
    · have := nsu_out (fun c => (un (cs i) c).natAbs) (cs i) N q
      have z : nsu (fun c => if c = cs i then 0 else (un (cs i) c).natAbs) N = 0 := by
        rw [nsu_cg (g := fun _ => 0) (fun c hc => by
          by_cases qq : c = cs i
          · rw [if_pos qq]
          · rw [if_neg qq]; unfold un; rw [if_neg qq]; rfl)]
        clear this q
        induction N with
        | zero => rfl
        | succ N ih => show nsu (fun _ => 0) N + 0 = 0; rw [ih]
      have y : (un (cs i) (cs i)).natAbs = 1 := by unfold un; rw [if_pos rfl]; rfl
      omega
    · rw [nsu_cg (g := fun _ => 0) (fun c hc => by unfold un; rw [if_neg (by omega)]; rfl)]
      clear q
      induction N with
      | zero => exact Nat.zero_le _
      | succ N ih => show nsu (fun _ => 0) N + 0 ≤ 1; omega
  exact Nat.le_trans (nsu_inj (σ := cs) s.2.1 (fun c => (un (cs i) c).natAbs) (fun t ht => (b.2.2.1 t ht).1) (bi_inj b)) (h0 n)
theorem un_1 (c j : Nat) : (un c j).natAbs ≤ 1 := by unfold un; split <;> decide
theorem gbd_rows {A : Nat} (hrow : ∀ r j, r < rows → j < cols → nsu (fun c => (M r c).natAbs) unk + (M r j).natAbs ≤ A) (hu : unk ≤ cols) (hB1 : ∀ k, k ≤ rows → 3 * A ^ k < BB ^ 5) (hB2 : ∀ k, k + 1 ≤ rows → A ^ (k + 1) < BB ^ 5) : GBd rows cols unk M := by
  intro n hn
  obtain ⟨p, cs, b⟩ := red_bi rows M n
  have hk := red_rank rows M n
  obtain ⟨k, hk'⟩ : ∃ k, k = (red rows M n).2.1 := ⟨_, rfl⟩
  have inj := bi_inj b
  have us := fun i (hi : i < (red rows M n).2.1) => un_sum b hi
  obtain ⟨b1, b2, b3, b4, b5, b6, b7, b8⟩ := b
  rw [← hk'] at hk inj us b3 b5 b7 b8
  have sel : ∀ r, r < rows → nsu (fun t => (M r (cs t)).natAbs) k ≤ nsu (fun c => (M r c).natAbs) unk := fun r hr => nsu_inj (σ := cs) k (fun c => (M r c).natAbs) (fun t ht => Nat.lt_of_lt_of_le (b3 t ht).1 hn) inj
  have bD : (De k (fun i => M (p i)) cs).natAbs ≤ A ^ k := De_rows (fun s hs => Nat.le_trans (sel (p s) (b1 s (by omega))) (by
    by_cases q : 0 < cols
    · exact Nat.le_trans (Nat.le_add_right _ _) (hrow (p s) 0 (b1 s (by omega)) q)
    · have : (b3 s hs).1 = (b3 s hs).1 := rfl
      have := (b3 s hs).1
      omega))
  have row : ∀ j, j < cols → ∀ s, s < k → nsu (fun t => (M (p s) (cs t)).natAbs) k + (M (p s) j).natAbs ≤ A := fun j hj s hs => Nat.le_trans (Nat.add_le_add_right (sel (p s) (b1 s (by omega))) _) (hrow (p s) j (b1 s (by omega)) hj)
  have pA := hB1 k hk.1
  refine ⟨fun r c hr hc => ?_, by rw [b5]; omega⟩
  by_cases q : r < k
  · rw [b8 r c q]
    have e := Er_rows (k := k) (P := fun i => M (p i)) (cs := cs) (w := un (cs r)) (j := c) (A := A) (B := 2) (row c hc) (by have := us r q; have := un_1 (cs r) c; omega)
    have d : (De k (fun i => M (p i)) cs * un (cs r) c).natAbs ≤ A ^ k := by
      rw [Int.natAbs_mul]
      exact Nat.le_trans (Nat.mul_le_mul bD (un_1 (cs r) c)) (by omega)
    omega
  · rw [b7 r c (by omega) hr]
    have e := Er_rows (k := k) (P := fun i => M (p i)) (cs := cs) (w := M (p r)) (j := c) (A := A) (B := A) (row c hc) (Nat.le_trans (Nat.add_le_add_right (sel (p r) (b1 r hr)) _) (hrow (p r) c (b1 r hr) hc))
    rw [← Nat.pow_succ] at e
    exact Nat.lt_of_le_of_lt e (hB2 k (by omega))
theorem gbd_cols {A L : Nat} (hcol : ∀ c, c < unk → nsu (fun r => (M r c).natAbs) rows ≤ A) (hside : ∀ c, c < cols → nsu (fun r => (M r c).natAbs) rows ≤ L) (hu : unk ≤ cols) (hB1 : ∀ k, k ≤ unk → A ^ k + (A + 1) ^ k * (L + 1) < BB ^ 5) : GBd rows cols unk M := by
  intro n hn
  obtain ⟨p, cs, b⟩ := red_bi rows M n
  have hk := red_rank rows M n
  obtain ⟨k, hk'⟩ : ∃ k, k = (red rows M n).2.1 := ⟨_, rfl⟩
  have inj := bi_inj b
  obtain ⟨b1, b2, b3, b4, b5, b6, b7, b8⟩ := b
  rw [← hk'] at hk inj b3 b5 b7 b8
  have sel : ∀ c, nsu (fun s => (M (p s) c).natAbs) k ≤ nsu (fun r => (M r c).natAbs) rows := fun c => nsu_inj (σ := p) k (fun r => (M r c).natAbs) (fun s hs => b1 s (by omega)) (fun s t hs ht => b2 s t (by omega) (by omega))
  have csu : ∀ t, t < k → cs t < unk := fun t ht => Nat.lt_of_lt_of_le (b3 t ht).1 hn
  have bD : (De k (fun i => M (p i)) cs).natAbs ≤ A ^ k := De_cols (fun t ht => Nat.le_trans (sel (cs t)) (hcol _ (csu t ht)))
  have pA := hB1 k (by omega)
  refine ⟨fun r c hr hc => ?_, by rw [b5]; omega⟩
  by_cases q : r < k
  · rw [b8 r c q]
    have e := Er_cols (k := k) (P := fun i => M (p i)) (cs := cs) (w := un (cs r)) (j := c) (A := A + 1) (B := L + 1) (fun t ht => Nat.add_le_add (Nat.le_trans (sel (cs t)) (hcol _ (csu t ht))) (un_1 _ _)) (Nat.add_le_add (Nat.le_trans (sel c) (hside c hc)) (un_1 _ _))
    have d : (De k (fun i => M (p i)) cs * un (cs r) c).natAbs ≤ A ^ k := by
      rw [Int.natAbs_mul]
      exact Nat.le_trans (Nat.mul_le_mul bD (un_1 (cs r) c)) (by omega)
    omega
  · rw [b7 r c (by omega) hr]
    have sel2 : ∀ c, nsu (fun s => (M (p s) c).natAbs) k + (M (p r) c).natAbs ≤ nsu (fun r => (M r c).natAbs) rows := fun c => by
      have := nsu_inj (N := rows) (σ := fun s => if s = k then p r else p s) (k + 1) (fun r => (M r c).natAbs) (fun s hs => by
        split
        · exact b1 r hr
        · exact b1 s (by omega)) (fun s t hs ht e => by
        by_cases q1 : s = k
        · rw [if_pos q1] at e
          by_cases q2 : t = k
          · omega
          · rw [if_neg q2] at e
            have := b2 r t hr (by omega) e
            omega
        · rw [if_neg q1] at e
          by_cases q2 : t = k
          · rw [if_pos q2] at e
            have := b2 s r (by omega) hr e
            omega
          · rw [if_neg q2] at e
            exact b2 s t (by omega) (by omega) e)
      have e : nsu (fun s => (fun r => (M r c).natAbs) ((fun s => if s = k then p r else p s) s)) (k + 1) = nsu (fun s => (M (p s) c).natAbs) k + (M (p r) c).natAbs := by
        show nsu (fun s => (M (if s = k then p r else p s) c).natAbs) k + (M (if k = k then p r else p k) c).natAbs = _
        rw [if_pos rfl, nsu_cg (g := fun s => (M (p s) c).natAbs) (fun s hs => by rw [if_neg (by omega)])]
      rw [e] at this
      exact this
    have e := Er_cols (k := k) (P := fun i => M (p i)) (cs := cs) (w := M (p r)) (j := c) (A := A + 1) (B := L + 1) (fun t ht => Nat.le_trans (Nat.le_trans (sel2 (cs t)) (hcol _ (csu t ht))) (Nat.le_succ _)) (Nat.le_trans (Nat.le_trans (sel2 c) (hside c hc)) (Nat.le_succ _))
    omega
/-- what a free solution has at a column: below the product of the rows' sums -/
theorem ffr_bd {A : Nat} (hrow : ∀ r, r < rows → nsu (fun c => (M r c).natAbs) unk ≤ A) (i c : Int) : (ffr (red rows M unk) unk i c).natAbs ≤ A ^ (red rows M unk).2.1 := by
  obtain ⟨p, cs, b⟩ := red_bi rows M unk
  have hk := red_rank rows M unk
  have inj := bi_inj b
  have us := fun i (hi : i < (red rows M unk).2.1) => un_sum b hi
  obtain ⟨b1, b2, b3, b4, b5, b6, b7, b8⟩ := b
  have h0 : (0 : Int).natAbs ≤ A ^ (red rows M unk).2.1 := Nat.zero_le _
  have sel : ∀ r, r < rows → nsu (fun t => (M r (cs t)).natAbs) (red rows M unk).2.1 ≤ nsu (fun c => (M r c).natAbs) unk := fun r hr => nsu_inj (σ := cs) (red rows M unk).2.1 (fun c => (M r c).natAbs) (fun t ht => (b3 t ht).1) inj
  unfold ffr
  cases hf : fcl (red rows M unk).2.2.2.1 i unk 0 0 with
  | none => exact h0
  | some f =>
    have fl := fcl_some hf
    dsimp only
    split
    · split
      · rw [b5]
        exact De_rows (fun s hs => Nat.le_trans (sel (p s) (b1 s (by omega))) (hrow _ (b1 s (by omega))))
      · cases hr : (red rows M unk).2.2.2.1 c.toNat with
        | none => exact h0
        | some r =>
          have hrk := (b4 _ r hr).1
          have nf : ∀ t, t < (red rows M unk).2.1 → cs t ≠ f := fun t ht e => by
            have := (b3 t ht).2
            rw [e, fl.2.2] at this
            cases this
          dsimp only
          rw [Int.natAbs_neg, b8 r f hrk]
          have u0 : un (cs r) f = 0 := by unfold un; rw [if_neg (fun e => nf r hrk e.symm)]
          rw [u0, Int.mul_zero, Int.zero_sub, Int.natAbs_neg]
          have e := Er_rows (k := (red rows M unk).2.1) (P := fun i => M (p i)) (cs := cs) (w := un (cs r)) (j := f) (A := A) (B := 1) (fun s hs => by
            refine Nat.le_trans ?_ (hrow (p s) (b1 s (by omega)))
            have := nsu_inj (N := unk) (σ := fun t => if t = (red rows M unk).2.1 then f else cs t) ((red rows M unk).2.1 + 1) (fun c => (M (p s) c).natAbs) (fun t ht => by
              split
              · omega
              · exact (b3 t (by omega)).1) (fun t u ht hu e => by
              by_cases q1 : t = (red rows M unk).2.1
              · rw [if_pos q1] at e
                by_cases q2 : u = (red rows M unk).2.1
                · omega
                · rw [if_neg q2] at e
                  exact absurd e.symm (nf u (by omega))
              · rw [if_neg q1] at e
                by_cases q2 : u = (red rows M unk).2.1
                · rw [if_pos q2] at e
                  exact absurd e (nf t (by omega))
                · rw [if_neg q2] at e
                  exact inj t u (by omega) (by omega) e)
            have e : nsu (fun t => (fun c => (M (p s) c).natAbs) ((fun t => if t = (red rows M unk).2.1 then f else cs t) t)) ((red rows M unk).2.1 + 1) = nsu (fun t => (M (p s) (cs t)).natAbs) (red rows M unk).2.1 + (M (p s) f).natAbs := by
              show nsu (fun t => (M (p s) (if t = (red rows M unk).2.1 then f else cs t)).natAbs) (red rows M unk).2.1 + (M (p s) (if (red rows M unk).2.1 = (red rows M unk).2.1 then f else cs (red rows M unk).2.1)).natAbs = _
              rw [if_pos rfl, nsu_cg (g := fun t => (M (p s) (cs t)).natAbs) (fun t ht => by rw [if_neg (by omega)])]
            rw [e] at this
            exact this) (by
            have := us r hrk
            rw [show (un (cs r) f).natAbs = 0 by rw [u0]; rfl]
            omega)
          omega
    · exact h0
end BND
