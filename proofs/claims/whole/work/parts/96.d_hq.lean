/-! THE SIZES: the form -/
section HQ1
variable {n : NT}
theorem W_bd (hv : NV n) (i c : Int) : (ffr (sM n) (2 * nFr n) i c).natAbs ≤ 160 ^ (sM n).2.1 := ffr_bd (fun r hr => mM_sum hv hr) i c
theorem trm_bd (hv : NV n) {i j m ax : Nat} (hm : m < nM n) : (trm n (sM n) (2 * nFr n) i j m ax).natAbs ≤ 4000 * (160 ^ (sM n).2.1 * 160 ^ (sM n).2.1) := by
  have w := W_bd hv
  obtain ⟨W, hW⟩ : ∃ W, W = 160 ^ (sM n).2.1 := ⟨_, rfl⟩
  rw [← hW] at w ⊢
  have g : ∀ i, (gap n (sM n) (2 * nFr n) m ax i).natAbs ≤ 2 * W := fun i => by
    have h1 := w i (mvI (mov n (nA n m) ax))
    have h2 := w i (mvI (mov n (nB n m) ax))
    unfold gap
    omega
  have hu := (hv.2.2.2 m hm).2.2.2.2
  have h1 := mul_le2 (mul_le2 (g i) (g j)) (show (nU n m).natAbs ≤ 1000 by omega)
  unfold trm
  refine Nat.le_trans h1 (Nat.le_of_eq ?_)
  rw [Nat.mul_mul_mul_comm, Nat.mul_right_comm]
theorem frm_bd (hv : NV n) (i j : Nat) : (frm n (sM n) (2 * nFr n) i j (nM n)).natAbs ≤ 112000 * (160 ^ (sM n).2.1 * 160 ^ (sM n).2.1) := by
  have v1 := hv.1
  have h := su_bd (f := fun m => trm n (sM n) (2 * nFr n) i j m 0 + trm n (sM n) (2 * nFr n) i j m 1) (B := 8000 * (160 ^ (sM n).2.1 * 160 ^ (sM n).2.1)) (t := nM n) (fun m hm => by
    have h0 := trm_bd hv (i := i) (j := j) (ax := 0) hm
    have h1 := trm_bd hv (i := i) (j := j) (ax := 1) hm
    omega)
  unfold frm
  refine Nat.le_trans h ?_
  have : nM n * (8000 * (160 ^ (sM n).2.1 * 160 ^ (sM n).2.1)) ≤ 14 * (8000 * (160 ^ (sM n).2.1 * 160 ^ (sM n).2.1)) := Nat.mul_le_mul_right _ (by omega)
  omega
theorem sq_cells {w B : Nat} {F : Nat → Nat → Int} (hF : ∀ r c, r < w → c < w → (F r c).natAbs ≤ B) (j : Nat) (hj : j ≤ w) : (∀ i c, (red w F j).2.1 ≤ i → i < w → c < w → ((red w F j).1 i c).natAbs ≤ (((red w F j).2.1 + 1) * B) ^ ((red w F j).2.1 + 1)) ∧ (∀ i c, i < (red w F j).2.1 → c < w → ((red w F j).1 i c).natAbs ≤ ((red w F j).2.1 * B) ^ (red w F j).2.1 + (((red w F j).2.1 + 1) * B) ^ (red w F j).2.1 * 2) := by
  obtain ⟨p, cs, b⟩ := red_bi w F j
  have hk := red_rank w F j
  obtain ⟨k, hk'⟩ : ∃ k, k = (red w F j).2.1 := ⟨_, rfl⟩
  have us := fun i (hi : i < (red w F j).2.1) => un_sum b hi
  obtain ⟨b1, b2, b3, b4, b5, b6, b7, b8⟩ := b
  rw [← hk'] at hk us b3 b5 b7 b8 ⊢
  have csw : ∀ t, t < k → cs t < w := fun t ht => Nat.lt_of_lt_of_le (b3 t ht).1 hj
  have row : ∀ r, r < w → nsu (fun t => (F r (cs t)).natAbs) k ≤ k * B := fun r hr => nsu_c (fun t ht => hF r (cs t) hr (csw t ht))
  have row2 : ∀ r c, r < w → c < w → nsu (fun t => (F r (cs t)).natAbs) k + (F r c).natAbs ≤ (k + 1) * B := fun r c hr hc => by
    rw [Nat.succ_mul]
    exact Nat.add_le_add (row r hr) (hF r c hr hc)
  refine ⟨fun i c h1 h2 hc => ?_, fun i c hi hc => ?_⟩
  · rw [b7 i c h1 h2]
    have e := Er_rows (k := k) (P := fun i => F (p i)) (cs := cs) (w := F (p i)) (j := c) (fun s hs => row2 (p s) c (b1 s (by omega)) hc) (row2 (p i) c (b1 i h2) hc)
    rw [← Nat.pow_succ] at e
    exact e
  · rw [b8 i c hi]
    have e := Er_rows (k := k) (P := fun i => F (p i)) (cs := cs) (w := un (cs i)) (j := c) (B := 2) (fun s hs => row2 (p s) c (b1 s (by omega)) hc) (by have := us i hi; have := un_1 (cs i) c; omega)
    have bD : (De k (fun i => F (p i)) cs).natAbs ≤ (k * B) ^ k := De_rows (fun s hs => row (p s) (b1 s (by omega)))
    have d : (De k (fun i => F (p i)) cs * un (cs i) c).natAbs ≤ (k * B) ^ k := by
      rw [Int.natAbs_mul]
      exact Nat.le_trans (Nat.mul_le_mul bD (un_1 (cs i) c)) (by omega)
    omega
def cbd (b k : Nat) : Nat := ((k + 1) * b) ^ (k + 1) + ((k * b) ^ k + ((k + 1) * b) ^ k * 2)
theorem cbd_le {B b : Nat} (h : B ≤ b) (k : Nat) : ((k + 1) * B) ^ (k + 1) ≤ ((k + 1) * b) ^ (k + 1) ∧ (k * B) ^ k + ((k + 1) * B) ^ k * 2 ≤ (k * b) ^ k + ((k + 1) * b) ^ k * 2 := by
  have h1 := Nat.pow_le_pow_left (Nat.mul_le_mul_left (k + 1) h) (k + 1)
  have h2 := Nat.pow_le_pow_left (Nat.mul_le_mul_left k h) k
  have h3 := Nat.pow_le_pow_left (Nat.mul_le_mul_left (k + 1) h) k
  omega
theorem sq_all {w B b : Nat} {F : Nat → Nat → Int} (hF : ∀ r c, r < w → c < w → (F r c).natAbs ≤ B) (hb : B ≤ b) (j : Nat) (hj : j ≤ w) {i c : Nat} (hi : i < w) (hc : c < w) : ((red w F j).1 i c).natAbs ≤ cbd b (red w F j).2.1 := by
  obtain ⟨h1, h2⟩ := sq_cells hF j hj
  obtain ⟨h3, h4⟩ := cbd_le hb (red w F j).2.1
  unfold cbd
  by_cases q : i < (red w F j).2.1
  · have := h2 i c q hc; omega
  · have := h1 i c (by omega) hi hc; omega
theorem sb_of {w B b : Nat} {F : Nat → Nat → Int} (hF : ∀ r c, r < w → c < w → (F r c).natAbs ≤ B) (hb : B ≤ b) {j : Nat} (hj : j < w) (h1 : 2 * (cbd b (red w F j).2.1 * cbd b (red w F j).2.1) < BB ^ 34) (h2 : cbd b ((red w F j).2.1 + 1) < BB ^ 24) : SB 24 w w (red w F j) j := by
  intro f hf r c' hr hrr hc'
  obtain ⟨z1, z2, -, -⟩ := fr_some hf
  have hrk := (red_rank w F j).1
  have bd : ∀ i c, i < w → c < w → ((red w F j).1 i c).natAbs ≤ cbd b (red w F j).2.1 := fun i c hi hc => sq_all hF hb j (by omega) hi hc
  have hs : ∀ i c, i < w → c < w → (sw (red w F j).1 f (red w F j).2.1 i c).natAbs ≤ cbd b (red w F j).2.1 := fun i c hi hc => bd _ c (sw_lt (by omega) (by omega) hi) hc
  have p1 := mul_le2 (bd f j (by omega) hj) (hs r c' hr hc')
  have p2 := mul_le2 (hs r j hr hj) (hs (red w F j).2.1 c' (by omega) hc')
  have h36 : BB ^ 34 < BB ^ 36 := by unfold BB; decide
  refine ⟨nd_le.mpr (by omega), nd_le.mpr (by omega), by omega, ?_⟩
  have er : red w F (j + 1) = (clr (sw (red w F j).1 f (red w F j).2.1) (red w F j).2.1 j ((red w F j).1 f j) (red w F j).2.2.1, (red w F j).2.1 + 1, (red w F j).1 f j, upo (red w F j).2.2.2.1 j (some (red w F j).2.1), (red w F j).2.2.2.2 && decide (f = (red w F j).2.1) && decide (0 < (red w F j).1 f j)) := by
    show rst w (red w F j) j = _
    unfold rst
    rw [hf]
  have e : (red w F (j + 1)).1 r c' = ((red w F j).1 f j * sw (red w F j).1 f (red w F j).2.1 r c' - sw (red w F j).1 f (red w F j).2.1 r j * sw (red w F j).1 f (red w F j).2.1 (red w F j).2.1 c').tdiv (red w F j).2.2.1 := by
    rw [er]
    show clr _ _ _ _ _ r c' = _
    unfold clr
    rw [if_neg hrr]
  rw [← e]
  have := sq_all hF hb (j + 1) (by omega) hr hc'
  rw [show (red w F (j + 1)).2.1 = (red w F j).2.1 + 1 by rw [er]] at this
  exact nd_le.mpr (by omega)
theorem lb_of {w B b : Nat} {F : Nat → Nat → Int} (hF : ∀ r c, r < w → c < w → (F r c).natAbs ≤ B) (hb : B ≤ b) {j : Nat} (hj : j < w) (hk : (red w F j).2.1 + 1 = w) (h1 : 2 * ((((red w F j).2.1 + 1) * b) ^ ((red w F j).2.1 + 1) * (((red w F j).2.1 * b) ^ (red w F j).2.1 + (((red w F j).2.1 + 1) * b) ^ (red w F j).2.1 * 2)) < BB ^ 35) : LB w w (red w F j) j := by
  intro f hf
  obtain ⟨z1, z2, -, -⟩ := fr_some hf
  refine ⟨hk, fun r c' hr hc' => ?_⟩
  obtain ⟨q1, q2⟩ := sq_cells hF j (by omega)
  obtain ⟨q3, q4⟩ := cbd_le hb (red w F j).2.1
  have f1 : ∀ c, c < w → ((red w F j).1 f c).natAbs ≤ (((red w F j).2.1 + 1) * b) ^ ((red w F j).2.1 + 1) := fun c hc => Nat.le_trans (q1 f c z1 (by omega) hc) q3
  have r1 : ∀ c, c < w → (sw (red w F j).1 f (red w F j).2.1 r c).natAbs ≤ ((red w F j).2.1 * b) ^ (red w F j).2.1 + (((red w F j).2.1 + 1) * b) ^ (red w F j).2.1 * 2 := fun c hc => by
    rw [sw_ne (by omega) (by omega)]
    exact Nat.le_trans (q2 r c hr hc) q4
  have p1 := mul_le2 (f1 j hj) (r1 c' hc')
  have p2 := mul_le2 (r1 j hj) (f1 c' hc')
  rw [Nat.mul_comm] at p2
  rw [sw_rk]
  have h36 : BB ^ 35 < BB ^ 36 := by unfold BB; decide
  exact ⟨nd_le.mpr (by omega), nd_le.mpr (by omega), by omega⟩
def b13 : Nat := 112000 * (160 ^ 13 * 160 ^ 13)
def b14 : Nat := 112000 * (160 ^ 14 * 160 ^ 14)
theorem frm_b (hv : NV n) {r : Nat} (hr : (sM n).2.1 ≤ r) (i j : Nat) : (frm n (sM n) (2 * nFr n) i j (nM n)).natAbs ≤ 112000 * (160 ^ r * 160 ^ r) := by
  have h := frm_bd hv i j
  have p : 160 ^ (sM n).2.1 ≤ 160 ^ r := pw_le (by decide) hr
  have := Nat.mul_le_mul p p
  omega
theorem hb_Q (hv : NV n) : HQ n := by
  intro hm j hj
  have v1 := hv.1
  have hFr := nFr_le hv
  have hrk := sM_rk n
  obtain ⟨w, hw⟩ : ∃ w, w = 2 * nFr n - (sM n).2.1 := ⟨_, rfl⟩
  rw [← hw] at hm hj ⊢
  have F14 : ∀ r c, r < w → c < w → (frm n (sM n) (2 * nFr n) r c (nM n)).natAbs ≤ b14 := fun r c _ _ => frm_b hv (by omega) r c
  have rk0 : (red w (fun r c => frm n (sM n) (2 * nFr n) r c (nM n)) 0).2.1 = 0 := rfl
  have rk1 := red_rank w (fun r c => frm n (sM n) (2 * nFr n) r c (nM n)) j
  rcases (by omega : w = 1 ∨ w = 2 ∨ w = 3) with e | e | e
  · have j0 : j = 0 := by omega
    refine Or.inr ⟨by omega, ?_⟩
    rw [j0]
    intro f hf
    exact ⟨by rw [rk0]; omega, fun r c' hr _ => absurd hr (by rw [rk0]; omega)⟩
  · by_cases q : (red w (fun r c => frm n (sM n) (2 * nFr n) r c (nM n)) j).2.1 = 1
    · have : j = 1 := by
        by_cases q0 : j = 0
        · rw [q0, rk0] at q; omega
        · omega
      refine Or.inr ⟨by omega, lb_of F14 (Nat.le_refl _) hj (by omega) ?_⟩
      rw [q]
      unfold b14 BB
      decide
    · have q0 : (red w (fun r c => frm n (sM n) (2 * nFr n) r c (nM n)) j).2.1 = 0 := by omega
      refine Or.inl (sb_of F14 (Nat.le_refl _) hj ?_ ?_)
      · rw [q0]; unfold cbd b14 BB; decide
      · rw [q0]; unfold cbd b14 BB; decide
  · have F13 : ∀ r c, r < w → c < w → (frm n (sM n) (2 * nFr n) r c (nM n)).natAbs ≤ b13 := fun r c _ _ => frm_b hv (by omega) r c
    rcases (by omega : (red w (fun r c => frm n (sM n) (2 * nFr n) r c (nM n)) j).2.1 = 0 ∨ (red w (fun r c => frm n (sM n) (2 * nFr n) r c (nM n)) j).2.1 = 1 ∨ (red w (fun r c => frm n (sM n) (2 * nFr n) r c (nM n)) j).2.1 = 2) with q | q | q
    · refine Or.inl (sb_of F13 (Nat.le_refl _) hj ?_ ?_)
      · rw [q]; unfold cbd b13 BB; decide
      · rw [q]; unfold cbd b13 BB; decide
    · refine Or.inl (sb_of F13 (Nat.le_refl _) hj ?_ ?_)
      · rw [q]; unfold cbd b13 BB; decide
      · rw [q]; unfold cbd b13 BB; decide
    · have : j = 2 := by omega
      refine Or.inr ⟨by omega, lb_of F13 (Nat.le_refl _) hj (by omega) ?_⟩
      rw [q]
      unfold b13 BB
      decide
/-- THE SIZES: every net keeps them -/
theorem hb_all : ∀ n, NV n → HB n := fun _ hv => ⟨hb_F hv, hb_M hv, hb_P hv, hb_Q hv⟩
end HQ1
