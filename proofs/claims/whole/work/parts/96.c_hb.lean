/-! THE SIZES: forces, moves, places -/
theorem nsu_c {f : Nat → Nat} {B : Nat} : ∀ {n : Nat}, (∀ i, i < n → f i ≤ B) → nsu f n ≤ n * B := by
  intro n
  induction n with
  | zero => intro _; exact Nat.zero_le _
  | succ n ih =>
    intro h
    have := ih (fun i hi => h i (by omega))
    have := h n (by omega)
    rw [Nat.succ_mul]
    show nsu f n + f n ≤ _
    omega
theorem nsu_add (f g : Nat → Nat) : ∀ n, nsu (fun i => f i + g i) n = nsu f n + nsu g n := by
  intro n
  induction n with
  | zero => rfl
  | succ n ih =>
    show nsu (fun i => f i + g i) n + (f n + g n) = nsu f n + f n + (nsu g n + g n)
    omega
theorem nsu_swap (H : Nat → Nat → Nat) (m : Nat) : ∀ n, nsu (fun p => nsu (fun q => H p q) m) n = nsu (fun q => nsu (fun p => H p q) n) m := by
  intro n
  induction n with
  | zero =>
    show 0 = nsu (fun _ => 0) m
    have : nsu (fun _ => 0) m ≤ m * 0 := nsu_c (fun i _ => Nat.le_refl _)
    omega
  | succ n ih =>
    show nsu (fun p => nsu (fun q => H p q) m) n + nsu (fun q => H n q) m = nsu (fun q => nsu (fun p => H p q) n + H n q) m
    rw [nsu_add, ih]
theorem nsu_one (a : Nat) : ∀ N, nsu (fun c => if c = a then 1 else 0) N ≤ 1 := by
  intro N
  by_cases q : a < N
  · have h := nsu_out (fun c => if c = a then 1 else 0) a N q
    have z : nsu (fun c => if c = a then 0 else (if c = a then 1 else 0)) N ≤ N * 0 := nsu_c (fun c _ => by split <;> omega)
    rw [if_pos rfl] at h
    omega
  · have z : nsu (fun c => if c = a then 1 else 0) N ≤ N * 0 := nsu_c (fun c hc => by rw [if_neg (by omega)]; exact Nat.le_refl _)
    omega
theorem nsu_pair (f : Nat → Nat) : ∀ n, nsu f (2 * n) = nsu (fun i => f (2 * i) + f (2 * i + 1)) n := by
  intro n
  induction n with
  | zero => rfl
  | succ n ih =>
    rw [show 2 * (n + 1) = 2 * n + 1 + 1 by omega]
    show nsu f (2 * n) + f (2 * n) + f (2 * n + 1) = nsu (fun i => f (2 * i) + f (2 * i + 1)) n + (f (2 * n) + f (2 * n + 1))
    omega
section HB1
variable {n : NT}
theorem jo_inj : ∀ i j, i < nFr n → j < nFr n → jo n i = jo n j → i = j := fun i j hi hj e => by
  have h1 := (jof_spec (fx := nF n) (J := nJ n) hi).2.2
  have h2 := (jof_spec (fx := nF n) (J := nJ n) hj).2.2
  have e' : jof (nF n) (nJ n) i = jof (nF n) (nJ n) j := e
  rw [e', h2] at h1
  exact h1.symm
theorem jo_lt {i : Nat} (hi : i < nFr n) : jo n i < nJ n := (jof_spec (fx := nF n) (J := nJ n) hi).1
theorem jo_one (a : Nat) : nsu (fun i => if jo n i = a then 1 else 0) (nFr n) ≤ 1 := Nat.le_trans (nsu_inj (N := nJ n) (σ := jo n) (nFr n) (fun c => if c = a then 1 else 0) (fun s hs => jo_lt hs) jo_inj) (nsu_one a _)
theorem far_sum (hv : NV n) {m : Nat} (hm : m < nM n) : nsu (fun c => (far n m (jo n (c / 2)) (c % 2)).natAbs) (2 * nFr n) ≤ 160 := by
  rw [nsu_pair]
  have fl : ∀ k ax, (far n m k ax).natAbs ≤ 40 * (if k = nA n m then 1 else 0) + 40 * (if k = nB n m then 1 else 0) := fun k ax => by
    have h := spn_le hv (ax := ax) hm
    unfold far
    by_cases q1 : nA n m = k
    · rw [if_pos q1, if_pos q1.symm]; omega
    · rw [if_neg q1]
      by_cases q2 : nB n m = k
      · rw [if_pos q2, if_pos (show k = nB n m from q2.symm)]; omega
      · rw [if_neg q2]; exact Nat.zero_le _
  refine Nat.le_trans (nsu_le (g := fun i => 80 * (if jo n i = nA n m then 1 else 0) + 80 * (if jo n i = nB n m then 1 else 0)) (fun i hi => ?_)) ?_
  · rw [show 2 * i / 2 = i by omega, show (2 * i + 1) / 2 = i by omega]
    have h0 := fl (jo n i) (2 * i % 2)
    have h1 := fl (jo n i) ((2 * i + 1) % 2)
    omega
  · rw [nsu_add, nsu_mul, nsu_mul]
    have h1 := jo_one (n := n) (nA n m)
    have h2 := jo_one (n := n) (nB n m)
    omega
theorem pw_le {A k K : Nat} (hA : 0 < A) (h : k ≤ K) : A ^ k ≤ A ^ K := Nat.pow_le_pow_right hA h
theorem hb_F (hv : NV n) : GBd (2 * nFr n) (nM n + 1) (nM n) (fM n) := by
  have v1 := hv.1
  have hFr := nFr_le hv
  have col : ∀ c, c < nM n → nsu (fun r => (fM n r c).natAbs) (2 * nFr n) ≤ 160 := fun c hc => by
    rw [nsu_cg (g := fun r => (far n c (jo n (r / 2)) (r % 2)).natAbs) (fun r hr => by unfold fM; rw [if_pos hc])]
    exact far_sum hv hc
  refine gbd_cols (A := 160) (L := 16000) col (fun c hc => ?_) (Nat.le_succ _) (fun k hk => ?_)
  · by_cases q : c < nM n
    · exact Nat.le_trans (col c q) (by decide)
    · have := nsu_c (f := fun r => (fM n r c).natAbs) (B := 1000) (n := 2 * nFr n) (fun r hr => fM_le hv hr)
      omega
  · have h1 := pw_le (A := 160) (k := k) (K := 14) (by decide) (by omega)
    have h2 : (160 + 1) ^ k * (16000 + 1) ≤ (160 + 1) ^ 14 * (16000 + 1) := Nat.mul_le_mul_right _ (pw_le (by decide) (by omega))
    have h3 : 160 ^ 14 + (160 + 1) ^ 14 * (16000 + 1) < BB ^ 5 := by unfold BB; decide
    omega
theorem mM_sum (hv : NV n) {r : Nat} (hr : r < nM n) : nsu (fun c => (mM n r c).natAbs) (2 * nFr n) ≤ 160 := by
  rw [nsu_cg (g := fun c => (far n r (jo n (c / 2)) (c % 2)).natAbs) (fun c hc => by unfold mM; rw [Int.natAbs_neg])]
  exact far_sum hv hr
theorem hb_M (hv : NV n) : GBd (nM n) (2 * nFr n) (2 * nFr n) (mM n) := by
  have v1 := hv.1
  have h3 : 3 * 200 ^ 14 < BB ^ 5 := by unfold BB; decide
  refine gbd_rows (A := 200) (fun r j hr hj => ?_) (Nat.le_refl _) (fun k hk => ?_) (fun k hk => ?_)
  · have h1 := mM_sum hv hr
    have h2 := far_le hv (k := jo n (j / 2)) (ax := j % 2) hr
    have h4 : (mM n r j).natAbs ≤ 40 := by unfold mM; rw [Int.natAbs_neg]; exact h2
    omega
  · have h1 := pw_le (A := 200) (k := k) (K := 14) (by decide) (by omega)
    omega
  · have h1 := pw_le (A := 200) (k := k + 1) (K := 14) (by decide) (by omega)
    omega
theorem or_one (o : Option Nat) (x N : Nat) : nsu (fun c => if o = some c then x else 0) N ≤ x := by
  cases o with
  | none =>
    have : nsu (fun c => if none = some c then x else 0) N ≤ N * 0 := nsu_c (fun c _ => by rw [if_neg (fun e => by cases e)]; exact Nat.le_refl _)
    omega
  | some a =>
    have h := nsu_one a N
    have e : nsu (fun c => if some a = some c then x else 0) N = x * nsu (fun c => if c = a then 1 else 0) N := by
      rw [← nsu_mul]
      exact nsu_cg (fun c _ => by
        by_cases q : c = a
        · rw [if_pos q, if_pos (by rw [q])]; omega
        · rw [if_neg q, if_neg (fun e => q (by cases e; rfl))]; omega)
    rw [e]
    calc x * nsu (fun c => if c = a then 1 else 0) N ≤ x * 1 := Nat.mul_le_mul_left _ h
      _ = x := Nat.mul_one _
theorem hc_own {k o c : Nat} {p : Int} (hc' : c < nFr n) : (hc n k o p c).natAbs ≤ (if ordr n k = some c then p.natAbs else 0) + (if ordr n o = some c then p.natAbs else 0) := by
  unfold hc
  have e : (if nF n o = true then (if c = nFr n then p * nP n 0 o else if c = nFr n + 1 then p * nP n 1 o else 0) else 0) = (0 : Int) := by
    split
    · rw [if_neg (by omega), if_neg (by omega)]
    · rfl
  rw [e]
  split <;> split <;> omega
theorem ordr_f {k c : Nat} (hk : k < nJ n) (hc' : nFr n ≤ c) : ¬ ordr n k = some c := fun e => by
  have := (ordr_lt hk e).1
  omega
theorem hc_side (hv : NV n) {k o c : Nat} {p : Int} (hk : k < nJ n) (ho : o < nJ n) (hp : -1000 ≤ p ∧ p ≤ 1000) (hc' : nFr n ≤ c) : (hc n k o p c).natAbs ≤ 20000 := by
  unfold hc
  rw [if_neg (ordr_f hk hc'), if_neg (ordr_f ho hc')]
  have b : ∀ x : Nat, (p * nP n x o).natAbs ≤ 20000 := fun x => by
    have := hv.2.1 x o ho
    rw [Int.natAbs_mul]
    exact Nat.le_trans (Nat.mul_le_mul (show p.natAbs ≤ 1000 by omega) (show (nP n x o).natAbs ≤ 20 by omega)) (by decide)
  have b0 := b 0
  have b1 := b 1
  split
  · split
    · omega
    · split <;> omega
  · omega
theorem hm_own (hv : NV n) {k m : Nat} (hm' : m < nM n) : nsu (fun c => (hm n k c m).natAbs) (nFr n) ≤ 2000 := by
  obtain ⟨w1, w2, w3, w4, w5⟩ := hv.2.2.2 m hm'
  have one : ∀ o, nsu (fun c => (hc n k o (nU n m) c).natAbs) (nFr n) ≤ 2000 := fun o => by
    refine Nat.le_trans (nsu_le (fun c hc' => hc_own hc')) ?_
    rw [nsu_add]
    have h1 := or_one (ordr n k) (nU n m).natAbs (nFr n)
    have h2 := or_one (ordr n o) (nU n m).natAbs (nFr n)
    omega
  by_cases qa : nA n m = k
  · rw [nsu_cg (g := fun c => (hc n k (nB n m) (nU n m) c).natAbs) (fun c _ => by rw [hm_a qa (by omega)])]
    exact one _
  · by_cases qb : nB n m = k
    · rw [nsu_cg (g := fun c => (hc n k (nA n m) (nU n m) c).natAbs) (fun c _ => by rw [hm_b qa qb])]
      exact one _
    · have : nsu (fun c => (hm n k c m).natAbs) (nFr n) ≤ nFr n * 0 := nsu_c (fun c _ => by rw [hm_no qa qb]; exact Nat.le_refl _)
      omega
theorem hm_side (hv : NV n) {k c m : Nat} (hk : k < nJ n) (hm' : m < nM n) (hc' : nFr n ≤ c) : (hm n k c m).natAbs ≤ 20000 := by
  obtain ⟨w1, w2, w3, w4, w5⟩ := hv.2.2.2 m hm'
  by_cases qa : nA n m = k
  · rw [hm_a qa (by omega)]
    exact hc_side hv hk w2 w5 hc'
  · by_cases qb : nB n m = k
    · rw [hm_b qa qb]
      exact hc_side hv hk w1 w5 hc'
    · rw [hm_no qa qb]
      exact Nat.zero_le _
theorem pM_own (hv : NV n) {r : Nat} : nsu (fun c => (pM n r c).natAbs) (nFr n) ≤ 28000 := by
  have v1 := hv.1
  refine Nat.le_trans (nsu_le (g := fun c => nsu (fun m => (hm n (jo n r) c m).natAbs) (nM n)) (fun c hc' => ?_)) ?_
  · have e : pM n r c = su (hm n (jo n r) c) (nM n) := by
      unfold pM ldp
      rw [if_neg (by omega), if_neg (by omega), Int.add_zero]
    rw [e]
    exact su_abs _ _
  · rw [nsu_swap]
    have := nsu_c (f := fun m => nsu (fun c => (hm n (jo n r) c m).natAbs) (nFr n)) (B := 2000) (n := nM n) (fun m hm' => hm_own hv hm')
    omega
theorem nsu_el (f : Nat → Nat) {j : Nat} : ∀ N, j < N → f j ≤ nsu f N := by
  intro N h
  have := nsu_out f j N h
  omega
theorem pM_side (hv : NV n) {r c : Nat} (hr : r < nFr n) : (pM n r c).natAbs ≤ 281000 := by
  have v1 := hv.1
  by_cases q : c < nFr n
  · have := nsu_el (fun c => (pM n r c).natAbs) (nFr n) q
    have := pM_own hv (r := r)
    omega
  · have hk := jo_lt hr
    have h1 := su_bd (f := hm n (jo n r) c) (B := 20000) (t := nM n) (fun m hm' => hm_side hv hk hm' (by omega))
    have h2 : (ldp n (jo n r) c).natAbs ≤ 1000 := by
      have l0 := hv.2.2.1 0 _ hk
      have l1 := hv.2.2.1 1 _ hk
      unfold ldp
      split
      · omega
      · split <;> omega
    unfold pM
    omega
theorem hb_P (hv : NV n) : GBd (nFr n) (nFr n + 2) (nFr n) (pM n) := by
  have hFr := nFr_le hv
  have h3 : 3 * 309000 ^ 8 < BB ^ 5 := by unfold BB; decide
  refine gbd_rows (A := 309000) (fun r j hr hj => ?_) (by omega) (fun k hk => ?_) (fun k hk => ?_)
  · have h1 := pM_own hv (r := r)
    have h2 := pM_side hv (c := j) hr
    omega
  · have h1 := pw_le (A := 309000) (k := k) (K := 8) (by decide) (by omega)
    omega
  · have h1 := pw_le (A := 309000) (k := k + 1) (K := 8) (by decide) (by omega)
    omega
end HB1
