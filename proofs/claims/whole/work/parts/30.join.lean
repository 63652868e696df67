/-! WHOLE: adding and taking away -/
theorem nI_ofInt (n : Nat) : nI n = Int32.ofInt (n : Int) := by
  unfold nI
  rfl
theorem ofI_toInt {t : Int} (h1 : -2147483648 ≤ t) (h2 : t < 2147483648) : (Int32.ofInt t).toInt = t := by
  rw [Int32.toInt_ofInt]
  simp only [Int.bmod, Int32.size]
  omega
theorem ofI_neg {t : Int} (h1 : -2147483648 ≤ t) (h2 : t < 2147483648) : (0 ≤ Int32.ofInt t) ↔ 0 ≤ t := by
  rw [Int32.le_iff_toInt_le, ofI_toInt h1 h2]
  rfl
/-- one part of a sum, as the code makes it -/
theorem carry_step {t : Int} (h1 : -1000000000 ≤ t) (h2 : t < 2000000000) : (if 0 ≤ Int32.ofInt t then Int32.ofInt t / nI 1000000000 else (-1)) = Int32.ofInt (t / 1000000000) ∧ Int32.ofInt t - Int32.ofInt (t / 1000000000) * nI 1000000000 = Int32.ofInt (t % 1000000000) := by
  constructor
  · by_cases h0 : 0 ≤ t
    · rw [if_pos ((ofI_neg (by omega) (by omega)).mpr h0)]
      obtain ⟨n, rfl⟩ := Int.eq_ofNat_of_zero_le h0
      rw [← nI_ofInt, pk_div (by omega) (by decide) (by decide), nI_ofInt]
      rfl
    · rw [if_neg (fun e => h0 ((ofI_neg (by omega) (by omega)).mp e))]
      have : t / 1000000000 = -1 := by omega
      rw [this]
      rfl
  · rw [nI_ofInt, ← Int32.ofInt_mul, ← Int32.ofInt_sub]
    congr 1
    have := Int.emod_add_mul_ediv t 1000000000
    omega
def ovr (f : Nat → Int32) (V i : Nat) : Nat → Int32 := fun j => if j < i then nI (dgt V j) else f j
theorem ovr_upd (f : Nat → Int32) (V i : Nat) : upd (ovr f V i) i (nI (dgt V i)) = ovr f V (i + 1) := by
  funext j
  unfold upd ovr
  by_cases h1 : j = i
  · subst h1; rw [if_pos rfl, if_pos (by omega)]
  · rw [if_neg h1]
    by_cases h2 : j < i
    · rw [if_pos h2, if_pos (by omega)]
    · rw [if_neg h2, if_neg (by omega)]
theorem ovr_0 (f : Nat → Int32) (V : Nat) : ovr f V 0 = f := by
  funext j
  unfold ovr
  rw [if_neg (by omega)]
/-- partAt of a Whole whose lower parts are being written -/
theorem d98r {h : eH} {a N s : Nat} {bl : Int32} {f : Nat → Int32} (w : WR h a N (nI s) bl f) (hs : s ≤ N) (hN : N < 2 ^ 31) (i : Nat) (hi : i < 2 ^ 31) : den 98 [.ref a, .int (nI i)] h = some (some (.int (if i < s then f i else nI 0)), h) := by
  rw [E98 a _ w.1]
  simp only [S98, w.1, w.2, gFs]
  rw [if_neg (nI_pos hi)]
  by_cases hc : i < s
  · rw [if_neg (nI_ge hc (by omega)), aI_nI (by omega) hN, if_pos hc]
  · rw [if_pos (nI_le (by omega) hi), if_neg hc]
theorem d99_loop {h : eH} {a b p q N len L S V : Nat} {sz bl s2 s3 ld : Int32} {f : Nat → Int32} {w : Int} (hw : w = 1 ∨ w = -1) (hV : (V : Int) = L + w * S) (wa : WR h a N sz bl f) (hN : N < 2 ^ 31) (hlen : len ≤ N)
    (hp : ∀ i, i < len → den 98 [.ref p, .int (nI i)] (eUp h (a + 1) (.inl (0, N, .inl (ovr f V i)))) = some (some (.int (nI (dgt L i))), eUp h (a + 1) (.inl (0, N, .inl (ovr f V i)))))
    (hq : ∀ i, i < len → den 98 [.ref q, .int (nI i)] (eUp h (a + 1) (.inl (0, N, .inl (ovr f V i)))) = some (some (.int (nI (dgt S i))), eUp h (a + 1) (.inl (0, N, .inl (ovr f V i))))) :
    ∀ k i, i + k = len → ∀ xo : Option Value, ∃ c9 xo', ru 99 87 [some (.ref a), some (.ref b), some (.int s2), some (.int s3), some (.int (Int32.ofInt w)), some (.int ld), some (.ref p), some (.ref q), some (.int (nI len)), some (.int (Int32.ofInt (cJ L S w i))), some (.int (nI i)), xo] [] (eUp h (a + 1) (.inl (0, N, .inl (ovr f V i)))) =
      ru 99 154 [some (.ref a), some (.ref b), some (.int s2), some (.int s3), some (.int (Int32.ofInt w)), some (.int ld), some (.ref p), some (.ref q), some (.int (nI len)), some (.int c9), some (.int (nI len)), xo'] [] (eUp h (a + 1) (.inl (0, N, .inl (ovr f V len)))) := by
  intro k
  induction k with
  | zero =>
    intro i hi xo
    have : i = len := by omega
    subst this
    refine ⟨Int32.ofInt (cJ L S w i), xo, ?_⟩
    rw [H99_87]
    simp only [S99]
    rw [if_pos (nI_le (Nat.le_refl _) (by omega))]
  | succ k ih =>
    intro i hi xo
    have hd1 := dgt_lt L i
    have hd2 := dgt_lt S i
    have hB : BB = 1000000000 := rfl
    have hc : -1 ≤ cJ L S w i ∧ cJ L S w i ≤ 1 := by
      rcases hw with e | e
      · subst e
        have := cJ_nonneg (L := L) (S := S) (w := 1) (by decide) i
        have := cJ_le (L := L) (S := S) (w := 1) (by decide) i
        omega
      · subst e
        have := cJ_sub (L := L) (S := S) i
        omega
    have ht1 : -1000000000 ≤ (dgt L i : Int) + w * (dgt S i : Int) + cJ L S w i := by
      rcases hw with e | e
      · subst e; omega
      · subst e; omega
    have ht2 : (dgt L i : Int) + w * (dgt S i : Int) + cJ L S w i < 2000000000 := by
      rcases hw with e | e
      · subst e; omega
      · subst e; omega
    have hsum : nI (dgt L i) + Int32.ofInt w * nI (dgt S i) + Int32.ofInt (cJ L S w i) = Int32.ofInt ((dgt L i : Int) + w * (dgt S i : Int) + cJ L S w i) := by
      rw [nI_ofInt, nI_ofInt, Int32.ofInt_add, Int32.ofInt_add, Int32.ofInt_mul]
    obtain ⟨st1, st2⟩ := carry_step ht1 ht2
    have hdig := dgt_lin hV i
    have hcar := cJ_succ L S w i
    rw [show (BB : Int) = 1000000000 from rfl] at hdig hcar
    have wa2 : ∀ e, (eUp h (a + 1) e).1 a = .inr (9, [.ref (a + 1), .int sz, .int bl]) := fun e => (eUp_ne (ne1 a).symm).trans wa.1
    rw [H99_87]
    simp only [S99, hp i (by omega), hq i (by omega), cl_some, Option.toList_some, List.cons_append, List.nil_append, eKls, hsum]
    rw [if_neg (nI_ge (by omega) (by omega))]
    have hne : ¬ nI 1000000000 = 0 := by decide
    simp only [hne, if_false, wa2, gFs, eUp_at]
    generalize hT : (dgt L i : Int) + w * (dgt S i : Int) + cJ L S w i = t at *
    obtain ⟨c9, xo', hih⟩ := ih (i + 1) (by omega) (some (.int (Int32.ofInt t)))
    refine ⟨c9, xo', ?_⟩
    rw [← hih]
    by_cases h0 : 0 ≤ Int32.ofInt t
    · rw [if_pos h0] at st1 ⊢
      rw [st1, st2]
      simp only [S99, eUp_at, eKls]
      rw [wI_nI (by omega) hN, eUp_eUp, hcar, nI_1, ← hdig, ← nI_ofInt, ovr_upd]
    · rw [if_neg h0] at st1 ⊢
      rw [st1, st2]
      simp only [S99, eUp_at, eKls]
      rw [wI_nI (by omega) hN, eUp_eUp, hcar, nI_1, ← hdig, ← nI_ofInt, ovr_upd]
