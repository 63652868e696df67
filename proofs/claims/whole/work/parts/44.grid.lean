/-! GRID: its cells. The grid's object lies at g, its bottom at g + 1, its parts at g + 3, its sizes at g + 4, its rowOf at g + 5 -/
def GO (h : eH) (g H W C rows unk cols rank : Nat) (ld : Int32) : Prop := h.1 g = .inr (5, [.int (nI H), .int (nI W), .int (nI C), .ref (g + 3), .ref (g + 4), .ref 20, .int (nI rows), .int (nI unk), .int (nI cols), .int (nI rank), .ref (g + 5), .ref (g + 1), .int ld])
def GB (H W C rows cols : Nat) : Prop := rows ≤ H ∧ cols ≤ W ∧ H ≤ 20 ∧ W ≤ 20 ∧ C ≤ 30 ∧ 0 < C
def szg (z : Int) : Int32 := if z < 0 then - nI (nd z.natAbs) else nI (nd z.natAbs)
def CE (P Z : Nat → Int32) (C k : Nat) (z : Int) : Prop := nd z.natAbs ≤ C ∧ Z k = szg z ∧ ∀ i, i < nd z.natAbs → P (k * C + i) = nI (dgt z.natAbs i)
def GA (h : eH) (g H W C : Nat) (P Z : Nat → Int32) : Prop := h.1 (g + 3) = .inl (0, H * W * C, .inl P) ∧ h.1 (g + 4) = .inl (0, H * W, .inl Z)
def GC (h : eH) (g H W C rows cols : Nat) (X : Nat → Nat → Prop) (M : Nat → Nat → Int) : Prop := ∃ P Z, GA h g H W C P Z ∧ ∀ r c, X r c → r < rows → c < cols → CE P Z C (r * W + c) (M r c)
theorem ix {H W r c : Nat} (hr : r < H) (hc : c < W) : r * W + c < H * W := by
  have : (r + 1) * W ≤ H * W := Nat.mul_le_mul_right _ hr
  rw [Nat.succ_mul] at this
  omega
theorem ixC {K C k i : Nat} (hk : k < K) (hi : i ≤ C) : k * C + i ≤ K * C := by
  have : (k + 1) * C ≤ K * C := Nat.mul_le_mul_right _ hk
  rw [Nat.succ_mul] at this
  omega
theorem ix_inj {W r c r' c' : Nat} (hc : c < W) (hc' : c' < W) (e : r * W + c = r' * W + c') : r = r' ∧ c = c' := by
  rcases Nat.lt_trichotomy r r' with h | h | h
  · have : (r + 1) * W ≤ r' * W := Nat.mul_le_mul_right _ h
    rw [Nat.succ_mul] at this
    omega
  · subst h
    exact ⟨rfl, by omega⟩
  · have : (r' + 1) * W ≤ r * W := Nat.mul_le_mul_right _ h
    rw [Nat.succ_mul] at this
    omega
theorem GB.w {H W C rows cols : Nat} (b : GB H W C rows cols) : H * W ≤ 400 ∧ H * W * C ≤ 12000 := by
  obtain ⟨-, -, b1, b2, b3, -⟩ := b
  have h1 : H * W ≤ 20 * 20 := Nat.mul_le_mul b1 b2
  have h2 : H * W * C ≤ 400 * 30 := Nat.mul_le_mul h1 b3
  exact ⟨h1, h2⟩
theorem nI_mul (a b : Nat) : nI a * nI b = nI (a * b) := (Int32.ofNat_mul a b).symm
theorem nI_at (r W c : Nat) : nI r * nI W + nI c = nI (r * W + c) := by rw [nI_mul, nI_add]
theorem cP_nI {α : Type} {n0 n1 sp dp n : Nat} {f g : Nat → Int32} {k : va_E → Option α} (h0 : sp + n ≤ n0) (h1 : dp + n ≤ n1) (b0 : n0 < 2 ^ 31) (b1 : n1 < 2 ^ 31) : cP (.inl (0, n0, .inl f)) (.inl (0, n1, .inl g)) (nI sp) (nI dp) (nI n) k = k (.inl (0, n1, .inl (va_cpy f g sp dp n))) := by
  simp only [cP, Nat.beq_refl, bo_true]
  rw [if_neg (by
    rw [nI_clamp (n := n) (by omega), nI_clamp (n := sp) (by omega), nI_clamp (n := dp) (by omega)]
    intro hc
    rcases hc with hc | hc | hc | hc | hc
    · exact nI_pos (by omega) hc
    · exact nI_pos (by omega) hc
    · exact nI_pos (by omega) hc
    · omega
    · omega), nI_clamp (n := n) (by omega), nI_clamp (n := sp) (by omega), nI_clamp (n := dp) (by omega)]
theorem iok_0 : iok 0 := by unfold iok; omega
theorem iok_nI {n : Nat} (h : n < 2 ^ 31) : iok (n : Int) := by unfold iok; omega
theorem szg_abs {z : Int} (h : nd z.natAbs < 2 ^ 31) : (if 0 ≤ szg z then szg z else - szg z) = nI (nd z.natAbs) := by
  unfold szg
  by_cases hz : z < 0
  · have hn : nd z.natAbs ≠ 0 := fun e => by have := natAbs0 e; omega
    rw [if_pos hz, if_neg, nI_I, iI_neg, iI_neg, Int.neg_neg]
    rw [nI_I, iI_neg, show (0 : Int32) = iI 0 from by decide, iI_le iok_0 (by unfold iok; omega)]
    omega
  · rw [if_neg hz, if_pos]
    rw [nI_I, show (0 : Int32) = iI 0 from by decide, iI_le iok_0 (by unfold iok; omega)]
    omega
theorem szg_lt0 {z : Int} (h : nd z.natAbs < 2 ^ 31) : szg z < 0 ↔ z < 0 := by
  unfold szg
  by_cases hz : z < 0
  · have hn : nd z.natAbs ≠ 0 := fun e => by have := natAbs0 e; omega
    rw [if_pos hz, nI_I, iI_neg, show (0 : Int32) = iI 0 from by decide, iI_lt (by unfold iok; omega) iok_0]
    omega
  · rw [if_neg hz, nI_I, show (0 : Int32) = iI 0 from by decide, iI_lt (by unfold iok; omega) iok_0]
    omega
theorem szg_eq0 {z : Int} (h : nd z.natAbs < 2 ^ 31) : szg z = 0 ↔ z = 0 := by
  unfold szg
  by_cases hz : z < 0
  · have hn : nd z.natAbs ≠ 0 := fun e => by have := natAbs0 e; omega
    rw [if_pos hz, nI_I, iI_neg, show (0 : Int32) = iI 0 from by decide, iI_eq (by unfold iok; omega) iok_0]
    omega
  · rw [if_neg hz, nI_I, show (0 : Int32) = iI 0 from by decide, iI_eq (by unfold iok; omega) iok_0]
    constructor
    · intro e
      exact natAbs0 (by omega)
    · intro e
      rw [e, Int.natAbs_zero, nd_0]
      rfl
section GR
variable {h : eH} {g H W C rows unk cols rank : Nat} {ld : Int32}
theorem d85 (o : GO h g H W C rows unk cols rank ld) (hr : rows < 2 ^ 31) (hc : cols < 2 ^ 31) {r c : Int} (kr : iok r) (kc : iok c) : den 85 [.ref g, .int (iI r), .int (iI c)] h = some (some (.int (if 0 ≤ r ∧ r < rows ∧ 0 ≤ c ∧ c < cols then nI 1 else nI 0)), h) := by
  unfold GO at o
  rw [E85 g _ _ o]
  simp only [S85, gFs, pFs, okq, bls, bo_true, eUp_at, eUp_eUp, eKls, cl_some, Option.toList_some, Option.toList_none, List.cons_append, List.nil_append, o]
  rw [show (0 : Int32) = iI 0 from by decide, nI_I rows, nI_I cols]
  simp only [iI_lt kr iok_0, iI_lt kc iok_0, iI_le (iok_nI hr) kr, iI_le (iok_nI hc) kc]
  by_cases h1 : r < 0
  · rw [if_pos h1, if_neg (by omega)]
  · rw [if_neg h1]
    by_cases h2 : (rows : Int) ≤ r
    · rw [if_pos h2, if_neg (by omega)]
    · rw [if_neg h2]
      by_cases h3 : c < 0
      · rw [if_pos h3, if_neg (by omega)]
      · rw [if_neg h3]
        by_cases h4 : (cols : Int) ≤ c
        · rw [if_pos h4, if_neg (by omega)]
        · rw [if_neg h4, if_pos (by omega)]
theorem d85i (o : GO h g H W C rows unk cols rank ld) (b : GB H W C rows cols) {r c : Nat} (hr : r < rows) (hc : c < cols) : den 85 [.ref g, .int (nI r), .int (nI c)] h = some (some (.int (nI 1)), h) := by
  obtain ⟨b1, b2, b3, b4, -⟩ := b
  rw [nI_I r, nI_I c, d85 o (by omega) (by omega) (iok_nI (by omega)) (iok_nI (by omega)), if_pos (by omega)]
theorem d86 {P Z : Nat → Int32} {a N r c : Nat} {z : Int} (o : GO h g H W C rows unk cols rank ld) (b : GB H W C rows cols) (ga : GA h g H W C P Z) (ce : CE P Z C (r * W + c) z) (w : WX h a N) (hN : N ≤ 36) (hfit : nd z.natAbs ≤ N) (hr : r < rows) (hc : c < cols) (hag : a + 1 < g ∨ g + 5 < a) : ∃ h', den 86 [.ref g, .ref a, .int (nI r), .int (nI c)] h = some (none, h') ∧ F2 a h h' ∧ WV h' a N z := by
  obtain ⟨s0, b0, f0, w⟩ := w
  obtain ⟨h1, e1, q1, f1, ⟨v1, v2⟩, -, -⟩ := d82 w
  have o1 : GO h1 g H W C rows unk cols rank ld := (q1.2 g (by omega) (by omega)).trans o
  have a3 : h1.1 (g + 3) = .inl (0, H * W * C, .inl P) := (q1.2 (g + 3) (by omega) (by omega)).trans ga.1
  have a4 : h1.1 (g + 4) = .inl (0, H * W, .inl Z) := (q1.2 (g + 4) (by omega) (by omega)).trans ga.2
  obtain ⟨c1, c2, c3⟩ := ce
  obtain ⟨bw1, bw2⟩ := b.w
  have b' := id b
  obtain ⟨b1, b2, b3, b4, b5, b6⟩ := b'
  have o1' := o1
  unfold GO at o1'
  have hk : r * W + c < H * W := ix (by omega) (by omega)
  have hkC := ixC (C := C) (i := nd z.natAbs) hk c1
  rw [E86 g _ _ _ o]
  simp only [S86, gFs, pFs, okq, bls, bo_true, eUp_at, eUp_eUp, eKls, cl_some, Option.toList_some, Option.toList_none, List.cons_append, List.nil_append, e1, d85i o1 b hr hc]
  rw [if_neg (by decide)]
  simp only [S86, gFs, pFs, okq, bls, bo_true, eUp_at, eUp_eUp, eKls, cl_some, Option.toList_some, Option.toList_none, List.cons_append, List.nil_append, o1', nI_at, a4]
  rw [aI_nI hk (by omega)]
  simp only [S86, gFs, pFs, okq, bls, bo_true, eUp_at, eUp_eUp, eKls, cl_some, Option.toList_some, Option.toList_none, List.cons_append, List.nil_append, c2, d5, szg_abs (z := z) (by omega), v1, v2]
  rw [aN_sf (by decide)]
  have hmin : (if nI N < nI (nd z.natAbs) then nI N else nI (nd z.natAbs)) = nI (nd z.natAbs) := if_neg (nI_nlt hfit (by omega))
  have n1 : g ≠ a := by omega
  have n3 : g + 3 ≠ a := by omega
  have n4 : g + 4 ≠ a := by omega
  simp only [S86, gFs, pFs, okq, bls, bo_true, eUp_at, eUp_eUp, eKls, cl_some, Option.toList_some, Option.toList_none, List.cons_append, List.nil_append, d9, hmin, v1, eUp_ne n1, eUp_ne n3, eUp_ne n4, eUp_ne (ne1 a), o1', a4]
  rw [aI_nI hk (by omega)]
  have fin : ∀ bb : Int32, bb = sb z → ∃ h', cP (.inl (0, H * W * C, .inl P)) (.inl (0, N, .inl f1)) (nI ((r * W + c) * C)) (nI 0) (nI (nd z.natAbs)) (fun e => (some (none, eUp (eUp h1 a (.inr (9, [.ref (a + 1), .int (nI (nd z.natAbs)), .int bb]))) (a + 1) e) : Option eR)) = some (none, h') ∧ F2 a h h' ∧ WV h' a N z := by
    intro bb hbb
    rw [cP_nI hkC (by omega) (by omega) (by omega)]
    refine ⟨_, rfl, q1.trans ((F2.up a h1 _).trans (F2.up1 a _ _)), va_cpy P f1 ((r * W + c) * C) 0 (nd z.natAbs), ⟨?_, ?_⟩, hfit, ?_⟩
    · rw [eUp_ne (ne1 a).symm, eUp_at, hbb]
    · rw [eUp_at]
    · intro i hi
      rw [pk_cpy_in (Nat.zero_le _) (by omega), ← c3 i hi]
      rfl
  rw [c2]
  by_cases hz : z < 0
  · rw [if_neg (by rw [show (0 : Int32) ≤ szg z ↔ ¬ szg z < 0 from Int32.not_lt.symm, szg_lt0 (by omega)]; omega)]
    simp only [S86, gFs, pFs, okq, bls, bo_true, eUp_at, eUp_eUp, eKls, cl_some, Option.toList_some, Option.toList_none, List.cons_append, List.nil_append, v1, v2, eUp_ne n1, eUp_ne n3, eUp_ne (ne1 a), o1', a3, nI_mul]
    exact fin _ (by unfold sb; rw [if_pos hz]; rfl)
  · rw [if_pos (by rw [show (0 : Int32) ≤ szg z ↔ ¬ szg z < 0 from Int32.not_lt.symm, szg_lt0 (by omega)]; omega)]
    simp only [S86, gFs, pFs, okq, bls, bo_true, eUp_at, eUp_eUp, eKls, cl_some, Option.toList_some, Option.toList_none, List.cons_append, List.nil_append, v1, v2, eUp_ne n1, eUp_ne n3, eUp_ne (ne1 a), o1', a3, nI_mul]
    exact fin _ (by unfold sb; rw [if_neg hz]; rfl)
/-- outside of the grid there is 0 -/
theorem d86o {a N : Nat} {r c : Int} (o : GO h g H W C rows unk cols rank ld) (b : GB H W C rows cols) (w : WX h a N) (hr : iok r) (hc : iok c) (hrc : ¬ (0 ≤ r ∧ r < rows ∧ 0 ≤ c ∧ c < cols)) (hag : a + 1 < g ∨ g + 5 < a) : ∃ h', den 86 [.ref g, .ref a, .int (iI r), .int (iI c)] h = some (none, h') ∧ F2 a h h' ∧ WV h' a N 0 := by
  obtain ⟨s0, b0, f0, w⟩ := w
  obtain ⟨h1, e1, q1, v1⟩ := d82 w
  have o1 : GO h1 g H W C rows unk cols rank ld := (q1.2 g (by omega) (by omega)).trans o
  obtain ⟨b1, b2, b3, b4, b5, b6⟩ := id b
  refine ⟨h1, ?_, q1, v1⟩
  rw [E86 g _ _ _ o]
  simp only [S86, gFs, pFs, okq, bls, bo_true, eUp_at, eUp_eUp, eKls, cl_some, Option.toList_some, Option.toList_none, List.cons_append, List.nil_append, e1, d85 o1 (show rows < 2 ^ 31 by omega) (show cols < 2 ^ 31 by omega) hr hc, if_neg hrc]
  rw [if_pos (by decide)]
end GR
