/-! THE REFERENCE: parts, its loops -/
theorem sub_row {R Y q k t : Nat} (hq : q * Y ≤ R / BB ^ k) : dgt (R - q * Y * BB ^ k) t = if t < k then dgt R t else dgt (R / BB ^ k - q * Y) (t - k) := by
  have hB := BP_pos k
  have e0 := Nat.mod_add_div R (BB ^ k)
  have e1 : R - q * Y * BB ^ k = R % BB ^ k + (R / BB ^ k - q * Y) * BB ^ k := by
    rw [Nat.sub_mul]
    have h1 : q * Y * BB ^ k ≤ R / BB ^ k * BB ^ k := Nat.mul_le_mul_right _ hq
    rw [Nat.mul_comm (BB ^ k) (R / BB ^ k)] at e0
    clear hq hB
    generalize R / BB ^ k * BB ^ k = D at *
    generalize q * Y * BB ^ k = A at *
    generalize R % BB ^ k = M at *
    omega
  have hm : R % BB ^ k < BB ^ k := Nat.mod_lt _ hB
  rw [e1]
  generalize R / BB ^ k - q * Y = W at *
  by_cases c : t < k
  · rw [if_pos c, ← dgt_mod c, Nat.add_mul_mod_self_right, Nat.mod_mod, dgt_mod c]
  · rw [if_neg c]
    obtain ⟨s, hs⟩ : ∃ s, t = k + s := ⟨t - k, by omega⟩
    subst hs
    rw [← dgt_div, Nat.add_mul_div_right _ _ hB, Nat.div_eq_of_lt hm, Nat.zero_add, Nat.add_sub_cancel_left]
theorem sub_end {R Y q k j t : Nat} (hq : q * Y ≤ R / BB ^ k) (hj : nd Y ≤ j) (h0 : cJ (R / BB ^ k) Y (-(q : Int)) j = 0) (ht : k + j ≤ t) : dgt R t = dgt (R / BB ^ k - q * Y) (t - k) := by
  obtain ⟨s, hs⟩ : ∃ s, t = k + (j + s) := ⟨t - k - j, by omega⟩
  subst hs
  rw [show k + (j + s) - k = j + s by omega, ← dgt_div R k (j + s)]
  generalize R / BB ^ k = L at *
  rw [← dgt_div L j s, ← dgt_div (L - q * Y) j s]
  have hB := BP_pos j
  have hm : q * Y ≤ L % BB ^ j := by
    unfold cJ at h0
    rw [Nat.mod_eq_of_lt (nd_le.mp hj)] at h0
    have e : ((L % BB ^ j : Nat) : Int) + -(q : Int) * (Y : Int) = ((L % BB ^ j : Nat) : Int) - ((q * Y : Nat) : Int) := by rw [Int.natCast_mul, Int.neg_mul]; omega
    rw [e] at h0
    by_cases c : q * Y ≤ L % BB ^ j
    · exact c
    · have h1 : (((L % BB ^ j : Nat) : Int) - ((q * Y : Nat) : Int)) / ((BB ^ j : Nat) : Int) < 0 := Int.ediv_neg_of_neg_of_pos (by omega) (BPp j)
      omega
  have h1 : (L - q * Y) / BB ^ j = L / BB ^ j := by
    have h2 := Nat.mod_add_div L (BB ^ j)
    have h3 : L - q * Y = (L % BB ^ j - q * Y) + BB ^ j * (L / BB ^ j) := by omega
    have h4 : L % BB ^ j < BB ^ j := Nat.mod_lt _ hB
    rw [h3, Nat.add_mul_div_left _ _ hB, Nat.div_eq_of_lt (by omega), Nat.zero_add]
  rw [h1]
def hL5 (h : eH) (g : Nat → Int64) : eH := eUp h 253 (.inl (1, 24, .inr (.inl g)))
theorem hL5_up (h : eH) (g g' : Nat → Int64) : eUp (hL5 h g) 253 (.inl (1, 24, .inr (.inl g'))) = hL5 h g' := eUp_eUp ..
section RD4
variable {h : eH} {jt mb hi wi rk co : Int32} {R Y k a b i0 : Nat} {bl : Int32}
theorem d29_bin (o : MOo h jt mb hi wi rk co) (lX : LN h 253 R) (lY : LN h 254 Y) (hR : R < BB ^ 24) (hk : nd Y + k ≤ 24) {x13 x14 x15 : Option Value} (k13 : eKl x13 = x13) : ∀ r lo hi' x11, lo + r = hi' → hi' < BB → lo * Y ≤ R / BB ^ k → R / BB ^ k < (hi' + 1) * Y → ∃ y11, ru 29 107 [some (.ref 239), some (.int (nI a)), some (.int (nI b)), some (.int bl), some (.int (nI (nd Y))), some (.int (nI i0)), some (.int (nI k)), some (.long (lN lo)), none, some (.long (lN hi')), none, x11, none, x13, x14, x15] [] h = ru 29 157 [some (.ref 239), some (.int (nI a)), some (.int (nI b)), some (.int bl), some (.int (nI (nd Y))), some (.int (nI i0)), some (.int (nI k)), some (.long (lN (R / BB ^ k / Y))), none, some (.long (lN (R / BB ^ k / Y))), none, y11, none, x13, x14, x15] [] h := by
  have hB : BB = 1000000000 := rfl
  intro r
  induction r using Nat.strongRecOn with
  | _ r ih =>
    intro lo hi' x11 hr hhi h1 h2
    have c1 : 0 ≤ lg_cmp (lN lo) (lN hi') ↔ hi' ≤ lo := by
      rw [lg_ge0, lN_le (by omega) (by omega)]
    by_cases q0 : r = 0
    · have e : lo = hi' := by omega
      subst e
      have hY : 0 < Y := by
        by_cases c : Y = 0
        · rw [c, Nat.mul_zero] at h2; omega
        · omega
      have e2 : R / BB ^ k / Y = lo := by
        refine Nat.div_eq_of_lt_le ?_ ?_
        · exact h1
        · exact h2
      refine ⟨x11, ?_⟩
      rw [e2, H29_107]
      simp only [S29, gFs, pFs, okq, bls, bo_true, eUp_at, eUp_eUp, eKls, cl_some, Option.toList_some, Option.toList_none, List.cons_append, List.nil_append]
      rw [if_pos (c1.mpr (Nat.le_refl _))]
    · have hmid : (lo + hi' + 1) / 2 < BB := by omega
      have e28 := d28 (k := k) (q := (lo + hi' + 1) / 2) o lX lY hR hk hmid
      have hdiv : (lN (lo + hi' + 1)) / lN 2 = lN ((lo + hi' + 1) / 2) := pk_lDiv (by omega) (by decide) (by decide)
      have hsub : lN ((lo + hi' + 1) / 2) - lN 1 = lN ((lo + hi' + 1) / 2 - 1) := lN_sub (by omega)
      by_cases c2 : (lo + hi' + 1) / 2 * Y ≤ R / BB ^ k
      · rw [decide_eq_true c2] at e28
        obtain ⟨y11, e⟩ := ih (hi' - (lo + hi' + 1) / 2) (by omega) ((lo + hi' + 1) / 2) hi' (some (.long (lN ((lo + hi' + 1) / 2)))) (by omega) hhi c2 h2
        refine ⟨y11, ?_⟩
        rw [← e, H29_107]
        simp only [S29, gFs, pFs, okq, bls, bo_true, eUp_at, eUp_eUp, eKls, cl_some, Option.toList_some, Option.toList_none, List.cons_append, List.nil_append, lN_add]
        rw [if_neg (fun e => by have := c1.mp e; omega), if_neg (show ¬ lN 2 = 0 by decide), hdiv]
        simp only [S29, gFs, pFs, okq, bls, bo_true, eUp_at, eUp_eUp, eKls, cl_some, Option.toList_some, Option.toList_none, List.cons_append, List.nil_append, e28]
        rw [if_neg (show ¬ ldI true = 0 by decide)]
      · rw [decide_eq_false c2] at e28
        obtain ⟨y11, e⟩ := ih ((lo + hi' + 1) / 2 - 1 - lo) (by omega) lo ((lo + hi' + 1) / 2 - 1) (some (.long (lN ((lo + hi' + 1) / 2)))) (by omega) (by omega) h1 (by rw [show (lo + hi' + 1) / 2 - 1 + 1 = (lo + hi' + 1) / 2 by omega]; omega)
        refine ⟨y11, ?_⟩
        rw [← e, H29_107]
        simp only [S29, gFs, pFs, okq, bls, bo_true, eUp_at, eUp_eUp, eKls, cl_some, Option.toList_some, Option.toList_none, List.cons_append, List.nil_append, lN_add]
        rw [if_neg (fun e => by have := c1.mp e; omega), if_neg (show ¬ lN 2 = 0 by decide), hdiv]
        simp only [S29, gFs, pFs, okq, bls, bo_true, eUp_at, eUp_eUp, eKls, cl_some, Option.toList_some, Option.toList_none, List.cons_append, List.nil_append, e28]
        rw [if_pos (show ldI false = 0 by decide), hsub]
theorem d29_sub {q : Nat} (o : MOo h jt mb hi wi rk co) (lY : LN h 254 Y) (hk : nd Y + k ≤ 24) (hq : q < BB) (hqY : q * Y ≤ R / BB ^ k) {x9 : Option Value} : ∀ r j g x14, k + j + r = 24 → (∀ t, t < 24 → g t = lN (gG R (R / BB ^ k - q * Y) k j t)) → ∃ g' y11 y13 y14, ru 29 172 [some (.ref 239), some (.int (nI a)), some (.int (nI b)), some (.int bl), some (.int (nI (nd Y))), some (.int (nI i0)), some (.int (nI k)), some (.long (lN q)), none, x9, none, some (.long (lI (-(cJ (R / BB ^ k) Y (-(q : Int)) j)))), none, some (.int (nI j)), x14, none] [] (hL5 h g) = ru 29 257 [some (.ref 239), some (.int (nI a)), some (.int (nI b)), some (.int bl), some (.int (nI (nd Y))), some (.int (nI i0)), some (.int (nI k)), some (.long (lN q)), none, x9, none, y11, none, some (.int y13), y14, none] [] (hL5 h g') ∧ ∀ t, t < 24 → g' t = lN (dgt (R - q * Y * BB ^ k) t) := by
  have o5 : ∀ g, (hL5 h g).1 239 = _ := fun g => (eUp_ne (by decide)).trans o
  have c5 : ∀ g, (hL5 h g).1 253 = .inl (1, 24, .inr (.inl g)) := fun g => eUp_at ..
  have l4 : ∀ g, LN (hL5 h g) 254 Y := fun g => lY.keep (eUp_ne (by decide))
  have hB : BB = 1000000000 := rfl
  intro r
  induction r with
  | zero =>
    intro j g x14 hr hg
    refine ⟨g, some (.long (lI (-(cJ (R / BB ^ k) Y (-(q : Int)) j)))), nI j, x14, ?_, fun t ht => ?_⟩
    · rw [H29_172]
      simp only [S29, gFs, pFs, okq, bls, bo_true, eUp_at, eUp_eUp, eKls, cl_some, Option.toList_some, Option.toList_none, List.cons_append, List.nil_append, nI_add]
      rw [if_pos (nI_le (by omega) (by omega))]
    · rw [hg t ht, sub_row hqY]
      unfold gG
      by_cases c : t < k
      · rw [if_neg (by omega), if_pos c]
      · rw [if_pos (by omega), if_neg c]
  | succ r ih =>
    intro j g x14 hr hg
    have c := cJ_negw (L := R / BB ^ k) (S := Y) (g := q) j
    have bd := d28_bd (R := R) (Y := Y) (k := k) (j := j) hq
    have c1 : lg_cmp (lI (-(cJ (R / BB ^ k) Y (-(q : Int)) j))) (lN 0) = 0 ↔ cJ (R / BB ^ k) Y (-(q : Int)) j = 0 := by
      rw [lg_eq0, lN_I, lI_eq (by unfold lok; omega) (by unfold lok; omega)]
      omega
    by_cases hstop : nd Y ≤ j ∧ cJ (R / BB ^ k) Y (-(q : Int)) j = 0
    · refine ⟨g, some (.long (lI (-(cJ (R / BB ^ k) Y (-(q : Int)) j)))), nI j, x14, ?_, fun t ht => ?_⟩
      · rw [H29_172]
        simp only [S29, gFs, pFs, okq, bls, bo_true, eUp_at, eUp_eUp, eKls, cl_some, Option.toList_some, Option.toList_none, List.cons_append, List.nil_append, nI_add]
        rw [if_neg (nI_ge (by omega) (by omega)), if_neg (nI_nlt hstop.1 (by omega)), if_pos (c1.mpr hstop.2)]
      · rw [hg t ht, sub_row hqY]
        unfold gG
        by_cases c2 : t < k
        · rw [if_neg (by omega), if_pos c2]
        · rw [if_neg c2]
          by_cases c3 : t < k + j
          · rw [if_pos (by omega)]
          · rw [if_neg (by omega), sub_end hqY hstop.1 hstop.2 (by omega)]
    · have e6 := d6 (a := (dgt (R / BB ^ k) j : Int) + -(q : Int) * (dgt Y j : Int) + cJ (R / BB ^ k) Y (-(q : Int)) j) (b := Bi) (by unfold lok; omega) lok_Bi Bi_pos
      have e7 := d7 (a := (dgt (R / BB ^ k) j : Int) + -(q : Int) * (dgt Y j : Int) + cJ (R / BB ^ k) Y (-(q : Int)) j) (b := Bi) (by unfold lok; omega) lok_Bi Bi_pos
      have hX : ((R / BB ^ k - q * Y : Nat) : Int) = ((R / BB ^ k : Nat) : Int) + -(q : Int) * (Y : Int) := by
        rw [Int.neg_mul, ← Int.natCast_mul]
        omega
      have hdig := dgt_lin hX j
      have gij : g (j + k) = lN (dgt R (j + k)) := by
        rw [hg (j + k) (by omega)]
        unfold gG
        rw [if_neg (by omega)]
      have hup : lI (((dgt (R / BB ^ k) j : Int) + -(q : Int) * (dgt Y j : Int) + cJ (R / BB ^ k) Y (-(q : Int)) j) % Bi) = lN (dgt (R / BB ^ k - q * Y) j) := by
        rw [lN_I, hdig]
        rfl
      obtain ⟨g', y11, y13, y14, e', r'⟩ := ih (j + 1) (vp_updL g (j + k) (lN (dgt (R / BB ^ k - q * Y) j))) (some (.long (lI ((dgt (R / BB ^ k) j : Int) + -(q : Int) * (dgt Y j : Int) + cJ (R / BB ^ k) Y (-(q : Int)) j)))) (by omega) (fun t ht => by
        unfold vp_updL gG
        by_cases c2 : t = j + k
        · rw [if_pos c2, if_pos (by omega), show t - k = j by omega]
        · rw [if_neg c2, hg t ht]
          unfold gG
          by_cases c3 : k ≤ t ∧ t < k + j
          · rw [if_pos c3, if_pos (by omega)]
          · rw [if_neg c3, if_neg (by omega)])
      refine ⟨g', y11, y13, y14, ?_, r'⟩
      have body : ru 29 196 [some (.ref 239), some (.int (nI a)), some (.int (nI b)), some (.int bl), some (.int (nI (nd Y))), some (.int (nI i0)), some (.int (nI k)), some (.long (lN q)), none, x9, none, some (.long (lI (-(cJ (R / BB ^ k) Y (-(q : Int)) j)))), none, some (.int (nI j)), x14, none] [] (hL5 h g) = ru 29 172 [some (.ref 239), some (.int (nI a)), some (.int (nI b)), some (.int bl), some (.int (nI (nd Y))), some (.int (nI i0)), some (.int (nI k)), some (.long (lN q)), none, x9, none, some (.long (lI (-(cJ (R / BB ^ k) Y (-(q : Int)) (j + 1))))), none, some (.int (nI (j + 1))), some (.long (lI ((dgt (R / BB ^ k) j : Int) + -(q : Int) * (dgt Y j : Int) + cJ (R / BB ^ k) Y (-(q : Int)) j))), none] [] (hL5 h (vp_updL g (j + k) (lN (dgt (R / BB ^ k - q * Y) j)))) := by
        simp only [S29, gFs, pFs, okq, bls, bo_true, eUp_at, eUp_eUp, eKls, cl_some, Option.toList_some, Option.toList_none, List.cons_append, List.nil_append, o5, c5, nI_add]
        rw [aL_nI (by omega) (by decide), gij]
        simp only [S29, gFs, pFs, okq, bls, bo_true, eUp_at, eUp_eUp, eKls, cl_some, Option.toList_some, Option.toList_none, List.cons_append, List.nil_append, o5, c5, (l4 g).get (show j < 24 by omega), d28_v, lN_Bi, e6, lI_neg, e7, nI_add]
        rw [hup, wL_nI (by omega) (by decide), hL5_up, nI_1, show (Bi : Int) = (BB : Int) from rfl, ← cJ_succ]
      rw [← e', ← body, H29_172]
      simp only [S29, gFs, pFs, okq, bls, bo_true, eUp_at, eUp_eUp, eKls, cl_some, Option.toList_some, Option.toList_none, List.cons_append, List.nil_append, nI_add]
      rw [if_neg (nI_ge (by omega) (by omega))]
      by_cases q1 : j < nd Y
      · rw [if_pos (nI_lt q1 (by omega))]
      · rw [if_neg (nI_nlt (by omega) (by omega)), if_neg (fun e => hstop ⟨by omega, c1.mp e⟩)]
end RD4
