/-! THE REFERENCE: parts, whole -/
theorem nI_nneg {k : Nat} (h : k < 2 ^ 31) : ¬ nI k < 0 := by
  rw [show (0 : Int32) = nI 0 from rfl]
  exact nI_nlt (Nat.zero_le _) h
theorem tdiv_sgn (u v : Int) : u.tdiv v = if (decide (u < 0) = decide (v < 0)) then ((u.natAbs / v.natAbs : Nat) : Int) else - ((u.natAbs / v.natAbs : Nat) : Int) := by
  by_cases q1 : u < 0
  · obtain ⟨m, hm⟩ : ∃ m : Nat, u = -(m : Int) := ⟨u.natAbs, by omega⟩
    subst hm
    by_cases q2 : v < 0
    · obtain ⟨n, hn⟩ : ∃ n : Nat, v = -(n : Int) := ⟨v.natAbs, by omega⟩
      subst hn
      rw [decide_eq_true q1, decide_eq_true q2, if_pos rfl, Int.neg_tdiv, Int.tdiv_neg, Int.neg_neg, Int.natAbs_neg, Int.natAbs_neg]
      rfl
    · obtain ⟨n, hn⟩ : ∃ n : Nat, v = (n : Int) := ⟨v.natAbs, by omega⟩
      subst hn
      rw [decide_eq_true q1, decide_eq_false q2, if_neg (by decide), Int.neg_tdiv, Int.natAbs_neg]
      rfl
  · obtain ⟨m, hm⟩ : ∃ m : Nat, u = (m : Int) := ⟨u.natAbs, by omega⟩
    subst hm
    by_cases q2 : v < 0
    · obtain ⟨n, hn⟩ : ∃ n : Nat, v = -(n : Int) := ⟨v.natAbs, by omega⟩
      subst hn
      rw [decide_eq_false q1, decide_eq_true q2, if_neg (by decide), Int.tdiv_neg, Int.natAbs_neg]
      rfl
    · obtain ⟨n, hn⟩ : ∃ n : Nat, v = (n : Int) := ⟨v.natAbs, by omega⟩
      subst hn
      rw [decide_eq_false q1, decide_eq_false q2, if_pos rfl]
      rfl
theorem nd_low {Y : Nat} (h : 0 < Y) : BB ^ (nd Y - 1) ≤ Y ∧ 0 < nd Y := by
  have h0 : 0 < nd Y := by
    by_cases c : nd Y = 0
    · have := nd_le.mp (Nat.le_of_eq c)
      rw [Nat.pow_zero] at this
      omega
    · omega
  refine ⟨?_, h0⟩
  by_cases c : BB ^ (nd Y - 1) ≤ Y
  · exact c
  · have := nd_le.mpr (Nat.lt_of_not_le c)
    omega
def FQ9 (h h' : eH) : Prop := h'.2 = h.2 ∧ ∀ i, i ≠ 253 → i ≠ 255 → h'.1 i = h.1 i
theorem FQ9.trans {h h' h'' : eH} (x : FQ9 h h') (y : FQ9 h' h'') : FQ9 h h'' := ⟨y.1.trans x.1, fun i i1 i2 => (y.2 i i1 i2).trans (x.2 i i1 i2)⟩
section RD5
variable {jt mb hi wi rk co : Int32} {X Y a b i0 : Nat} {bl : Int32}
theorem d29_outer (hY : 0 < Y) (hX : X < BB ^ 24) : ∀ n H e6 x7 x9 x11 x13 x14, (n = 0 ∧ e6 < 0 ∨ ∃ k, n = k + 1 ∧ e6 = nI k) → nd Y + n ≤ 25 → MOo H jt mb hi wi rk co → LN H 254 Y → LN H 253 (X % (Y * BB ^ n)) → (∃ g, H.1 255 = .inl (1, 24, .inr (.inl g)) ∧ ∀ t, t < 24 → g t = lN (if n ≤ t then dgt (X / Y) t else 0)) → eKl x13 = x13 → ∃ H' y6 y7 y9 y11 y13 y14, ru 29 94 [some (.ref 239), some (.int (nI a)), some (.int (nI b)), some (.int bl), some (.int (nI (nd Y))), some (.int (nI i0)), some (.int e6), x7, none, x9, none, x11, none, x13, x14, none] [] H = ru 29 263 [some (.ref 239), some (.int (nI a)), some (.int (nI b)), some (.int bl), some (.int (nI (nd Y))), some (.int (nI i0)), some (.int y6), y7, none, y9, none, y11, none, y13, y14, none] [] H' ∧ FQ9 H H' ∧ LN H' 255 (X / Y) ∧ LXi H' 253 := by
  have hB : BB = 1000000000 := rfl
  intro n
  induction n with
  | zero =>
    intro H e6 x7 x9 x11 x13 x14 he hn o lY lX lb k13
    obtain ⟨gb, lb, gbe⟩ := lb
    refine ⟨H, e6, x7, x9, x11, x13, x14, ?_, ⟨rfl, fun _ _ _ => rfl⟩, ⟨gb, lb, fun t ht => ?_⟩, lX.x⟩
    · rcases he with ⟨_, h1⟩ | ⟨k, h1, _⟩
      · rw [H29_94]
        simp only [S29, gFs, pFs, okq, bls, bo_true, eUp_at, eUp_eUp, eKls, cl_some, Option.toList_some, Option.toList_none, List.cons_append, List.nil_append]
        rw [if_pos h1]
      · omega
    · rw [gbe t ht, if_pos (Nat.zero_le _)]
  | succ k ih =>
    intro H e6 x7 x9 x11 x13 x14 he hn o lY lX lb k13
    obtain ⟨gb, lb, gbe⟩ := lb
    have e6k : e6 = nI k := by
      rcases he with ⟨h1, _⟩ | ⟨k', h1, h2⟩
      · omega
      · rw [h2, show k' = k by omega]
    subst e6k
    have ndY := (nd_low hY).2
    have k24 : k < 24 := by omega
    have hBk := BP_pos k
    obtain ⟨R, hR⟩ : ∃ R, R = X % (Y * BB ^ (k + 1)) := ⟨_, rfl⟩
    have hM : Y * BB ^ (k + 1) = Y * BB ^ k * BB := by rw [Nat.pow_succ, Nat.mul_assoc]
    have hMp : 0 < Y * BB ^ k := Nat.mul_pos hY hBk
    have R24 : R < BB ^ 24 := by rw [hR]; exact Nat.lt_of_le_of_lt (Nat.mod_le _ _) hX
    have Rlt : R < Y * BB ^ k * BB := by rw [hR, ← hM]; exact Nat.mod_lt _ (Nat.mul_pos hY (BP_pos _))
    have hq : R / BB ^ k / Y = dgt (X / Y) k := by
      rw [Nat.div_div_eq_div_mul, Nat.mul_comm (BB ^ k) Y, hR, hM, Nat.mod_mul_right_div_self]
      unfold dgt
      rw [Nat.div_div_eq_div_mul]
    have hrem : R - R / BB ^ k / Y * Y * BB ^ k = X % (Y * BB ^ k) := by
      rw [Nat.div_div_eq_div_mul, Nat.mul_comm (BB ^ k) Y, Nat.mul_assoc]
      have h1 := Nat.mod_add_div R (Y * BB ^ k)
      rw [Nat.mul_comm (Y * BB ^ k)] at h1
      have h2 : R % (Y * BB ^ k) = X % (Y * BB ^ k) := by rw [hR, hM, Nat.mod_mul_right_mod]
      omega
    have qlt : R / BB ^ k / Y < BB := by
      rw [Nat.div_div_eq_div_mul, Nat.mul_comm (BB ^ k) Y]
      exact Nat.div_lt_of_lt_mul Rlt
    have qY : R / BB ^ k / Y * Y ≤ R / BB ^ k := Nat.div_mul_le_self _ _
    obtain ⟨q, hqq⟩ : ∃ q, q = R / BB ^ k / Y := ⟨_, rfl⟩
    rw [← hR] at lX
    obtain ⟨y11, e1⟩ := d29_bin (a := a) (b := b) (i0 := i0) (bl := bl) o lX lY R24 (show nd Y + k ≤ 24 by omega) (x13 := x13) (x14 := x14) (x15 := none) k13 (BB - 1) 0 (BB - 1) x11 (by omega) (by omega) (by rw [Nat.zero_mul]; exact Nat.zero_le _) (by
      rw [show BB - 1 + 1 = BB by omega]
      refine Nat.div_lt_of_lt_mul ?_
      rw [← Nat.mul_assoc, Nat.mul_comm (BB ^ k * BB) Y, ← Nat.mul_assoc]
      exact Rlt)
    rw [← hqq] at hq hrem qlt qY e1
    obtain ⟨H1, hH1⟩ : ∃ H1, H1 = eUp H 255 (.inl (1, 24, .inr (.inl (vp_updL gb k (lN q))))) := ⟨_, rfl⟩
    have o1 : MOo H1 jt mb hi wi rk co := by rw [hH1]; exact (eUp_ne (by decide)).trans o
    have lY1 : LN H1 254 Y := lY.keep (by rw [hH1]; exact eUp_ne (by decide))
    have lX1 : LN H1 253 R := lX.keep (by rw [hH1]; exact eUp_ne (by decide))
    obtain ⟨gx, lgx, gxe⟩ := lX1
    obtain ⟨g', z11, z13, z14, e2, r2⟩ := d29_sub (h := H1) (R := R) (a := a) (b := b) (i0 := i0) (bl := bl) (x9 := some (.long (lN q))) o1 lY1 (show nd Y + k ≤ 24 by omega) qlt qY (24 - k) 0 gx x14 (by omega) (fun t ht => by
      rw [gxe t ht]
      unfold gG
      rw [if_neg (by omega)])
    rw [show hL5 H1 gx = H1 from eUp_id lgx] at e2
    obtain ⟨H2, hH2⟩ : ∃ H2, H2 = hL5 H1 g' := ⟨_, rfl⟩
    rw [← hH2] at e2
    have o2 : MOo H2 jt mb hi wi rk co := by rw [hH2]; exact (eUp_ne (by decide)).trans o1
    have c0 : -(cJ (R / BB ^ k) Y (-(q : Int)) 0) = 0 := by
      unfold cJ
      rw [Nat.pow_zero, Nat.mod_one, Nat.mod_one, show ((0 : Nat) : Int) = 0 from rfl, Int.mul_zero]
      rfl
    rw [c0] at e2
    have he2 : (k = 0 ∧ nI k + (-1) < 0 ∨ ∃ k', k = k' + 1 ∧ nI k + (-1) = nI k') := by
      cases k with
      | zero => exact Or.inl ⟨rfl, by decide⟩
      | succ k' => exact Or.inr ⟨k', rfl, nI_dec k'⟩
    obtain ⟨H', y6, y7, y9, y11', y13, y14, e3, f3, l3, lx3⟩ := ih H2 (nI k + (-1)) (some (.long (lN q))) (some (.long (lN q))) z11 (some (.int z13)) z14 he2 (by omega) o2 (lY1.keep (by rw [hH2]; exact eUp_ne (by decide))) ⟨g', by rw [hH2]; exact eUp_at .., fun t ht => by rw [r2 t ht, hrem]⟩ ⟨vp_updL gb k (lN q), by rw [hH2]; exact (eUp_ne (by decide)).trans (by rw [hH1]; exact eUp_at ..), fun t ht => by
        unfold vp_updL
        by_cases c : t = k
        · rw [if_pos c, if_pos (by omega), c, hq]
        · rw [if_neg c, gbe t ht]
          by_cases c2 : k + 1 ≤ t
          · rw [if_pos c2, if_pos (by omega)]
          · rw [if_neg c2, if_neg (by omega)]⟩ rfl
    refine ⟨H', y6, y7, y9, y11', y13, y14, ?_, ?_, l3, lx3⟩
    · rw [← e3, H29_94]
      simp only [S29, gFs, pFs, okq, bls, bo_true, eUp_at, eUp_eUp, eKls, cl_some, Option.toList_some, Option.toList_none, List.cons_append, List.nil_append]
      rw [if_neg (nI_nneg (by omega))]
      rw [show (lN 999999999) = lN (BB - 1) from rfl, e1, H29_157]
      have oo := o
      unfold MOo at oo
      simp only [S29, gFs, pFs, okq, bls, bo_true, eUp_at, eUp_eUp, eKls, cl_some, Option.toList_some, Option.toList_none, List.cons_append, List.nil_append, oo, lb]
      rw [wL_nI k24 (by decide), ← hH1]
      rw [show (lN 0) = lI 0 from rfl, e2, H29_257]
      simp only [S29, gFs, pFs, okq, bls, bo_true, eUp_at, eUp_eUp, eKls, cl_some, Option.toList_some, Option.toList_none, List.cons_append, List.nil_append]
    · refine FQ9.trans (h' := H1) ⟨by rw [hH1]; rfl, fun i _ i2 => by rw [hH1]; exact eUp_ne i2⟩ (FQ9.trans (h' := H2) ⟨by rw [hH2]; rfl, fun i i1 _ => by rw [hH2]; exact eUp_ne i1⟩ f3)
theorem d29_zero {h : eH} {g0 : Nat → Int64} {x4 x5 : Int32} {x7 x8 x9 x10 x11 x12 x13 x14 x15 : Option Value} (o : MOo h jt mb hi wi rk co) : ∀ r k, k + r = 24 → ru 29 66 [some (.ref 239), some (.int (nI a)), some (.int (nI b)), some (.int bl), some (.int x4), some (.int x5), some (.int (nI k)), x7, x8, x9, x10, x11, x12, x13, x14, x15] [] (hB5 h (fun j => if j < k then lN 0 else g0 j)) = ru 29 87 [some (.ref 239), some (.int (nI a)), some (.int (nI b)), some (.int bl), some (.int x4), some (.int x5), some (.int (nI 24)), x7, x8, x9, x10, x11, x12, x13, x14, x15] [] (hB5 h (fun j => if j < 24 then lN 0 else g0 j)) := by
  have o5 : ∀ g, (hB5 h g).1 239 = _ := fun g => (eUp_ne (by decide)).trans o
  have c5 : ∀ g, (hB5 h g).1 255 = .inl (1, 24, .inr (.inl g)) := fun g => eUp_at ..
  intro r
  induction r with
  | zero =>
    intro k hk
    have : k = 24 := by omega
    subst this
    rw [H29_66]
    simp only [S29, gFs, pFs, okq, bls, bo_true, eUp_at, eUp_eUp, eKls, cl_some, Option.toList_some, Option.toList_none, List.cons_append, List.nil_append]
    rw [if_pos (by decide)]
  | succ r ih =>
    intro k hk
    rw [H29_66]
    simp only [S29, gFs, pFs, okq, bls, bo_true, eUp_at, eUp_eUp, eKls, cl_some, Option.toList_some, Option.toList_none, List.cons_append, List.nil_append, o5, c5]
    rw [if_neg (nI_ge (by omega) (by decide)), wL_nI (by omega) (by decide), hB5_up, nI_1, show vp_updL (fun j => if j < k then lN 0 else g0 j) k (lN 0) = (fun j => if j < k + 1 then lN 0 else g0 j) from by
      funext j
      unfold vp_updL
      by_cases q : j = k
      · rw [if_pos q, if_pos (by omega)]
      · rw [if_neg q]
        show (if j < k then lN 0 else g0 j) = _
        by_cases q2 : j < k
        · rw [if_pos q2, if_pos (by omega)]
        · rw [if_neg q2, if_neg (by omega)]]
    exact ih (k + 1) (by omega)
theorem d29_back {h : eH} {f : Nat → Int64} {m : Nat} {p : Nat → Int} {x4 x5 : Int32} {x7 x8 x9 x10 x11 x12 x13 x14 x15 : Option Value} (o : MOo h jt mb hi wi rk co) (lm : LN h 255 m) (ha : a < 412) : ∀ r k, k + r = 24 → ru 29 266 [some (.ref 239), some (.int (nI a)), some (.int (nI b)), some (.int bl), some (.int x4), some (.int x5), some (.int (nI k)), x7, x8, x9, x10, x11, x12, x13, x14, x15] [] (hW h (upR f a (mx k (fun j => (dgt m j : Int)) p))) = ru 29 298 [some (.ref 239), some (.int (nI a)), some (.int (nI b)), some (.int bl), some (.int x4), some (.int x5), some (.int (nI 24)), x7, x8, x9, x10, x11, x12, x13, x14, x15] [] (hW h (upR f a (fun j => (dgt m j : Int)))) := by
  intro r
  induction r with
  | zero =>
    intro k hk
    have : k = 24 := by omega
    subst this
    rw [H29_266]
    simp only [S29, gFs, pFs, okq, bls, bo_true, eUp_at, eUp_eUp, eKls, cl_some, Option.toList_some, Option.toList_none, List.cons_append, List.nil_append]
    rw [if_pos (by decide), upR_mx24]
  | succ r ih =>
    intro k hk
    have o' := hW_mo o (upR f a (mx k (fun j => (dgt m j : Int)) p))
    have n' := hW_mn h (upR f a (mx k (fun j => (dgt m j : Int)) p))
    have l' := lm.keep (h' := hW h (upR f a (mx k (fun j => (dgt m j : Int)) p))) (eUp_ne (by decide))
    unfold MOo at o'
    unfold MN at n'
    have i1 : nI 24 * nI a + nI k = nI (24 * a + k) := by rw [nI_mul, nI_add]
    rw [H29_266]
    simp only [S29, gFs, pFs, okq, bls, bo_true, eUp_at, eUp_eUp, eKls, cl_some, Option.toList_some, Option.toList_none, List.cons_append, List.nil_append, o', n', i1, l'.get (show k < 24 by omega)]
    rw [if_neg (nI_ge (by omega) (by decide)), lN_I, wL_nI (by omega) (by decide), upR_mx f a k (fun j => (dgt m j : Int)) p (by omega), hW_up, nI_1]
    exact ih (k + 1) (by omega)
theorem d29 {h : eH} {f : Nat → Int64} {u v : Int} (o : MOo h jt mb hi wi rk co) (n : MN h f) (lx : LX h) (ru' : RG f a (fd u)) (rv : RG f b (fd v)) (bu : n23 u) (bv : n23 v) (v0 : v ≠ 0) (ha : a < 412) (hb : b < 412) : ∃ h', den 29 [.ref 239, .int (nI a), .int (nI b)] h = some (none, h') ∧ FM h h' ∧ MN h' (upR f a (fd (u.tdiv v))) ∧ LX h' := by
  have e1 := d17 (h := h) o ha ru' bu.v.1
  have e2 := d17 (h := h) o hb rv bv.v.1
  have e0 := d25 (h := h) o ha ru' bu.v.1
  rw [hW_id n] at e1 e2 e0
  obtain ⟨h1, e3, s1, n1, l1⟩ := d19 (i := 253) o n ru' bu ha (by decide) lx.1
  have o1 : MOo h1 jt mb hi wi rk co := (n1 239 (by decide)).trans o
  have m1 : MN h1 f := (n1 240 (by decide)).trans n
  obtain ⟨h2, e4, s2, n2, l2⟩ := d19 (i := 254) o1 m1 rv bv hb (by decide) (lx.2.1.keep (n1 254 (by decide)))
  have o2 : MOo h2 jt mb hi wi rk co := (n2 239 (by decide)).trans o1
  have m2 : MN h2 f := (n2 240 (by decide)).trans m1
  have l1' := l1.keep (h' := h2) (n2 253 (by decide))
  obtain ⟨g0, lg0⟩ : LXi h2 255 := lx.2.2.keep ((n2 255 (by decide)).trans (n1 255 (by decide)))
  have X24 : nd u.natAbs ≤ 24 := Nat.le_trans (nd_le.mpr bu) (by decide)
  have Y24 : nd v.natAbs ≤ 24 := Nat.le_trans (nd_le.mpr bv) (by decide)
  have X24' : u.natAbs < BB ^ 24 := nd_le.mp X24
  have Y0 : 0 < v.natAbs := by omega
  obtain ⟨bl, hbl⟩ : ∃ bl : Int32, bl = if decide (u < 0) = decide (v < 0) ∨ u = 0 then nI 0 else nI 1 := ⟨_, rfl⟩
  have e5 := d26 l1' X24
  have e6 := d26 l2 Y24
  have z := d29_zero (h := h2) (a := a) (b := b) (bl := bl) (g0 := g0) (x4 := nI (nd v.natAbs)) (x5 := nI (nd u.natAbs)) (x7 := none) (x8 := none) (x9 := none) (x10 := none) (x11 := none) (x12 := none) (x13 := none) (x14 := none) (x15 := none) o2 24 0 (by decide)
  rw [show (fun j => if j < 0 then lN 0 else g0 j) = g0 from by funext j; rw [if_neg (Nat.not_lt_zero _)], show hB5 h2 g0 = h2 from eUp_id lg0] at z
  obtain ⟨g1, hg1⟩ : ∃ g1, g1 = (fun j => if j < 24 then lN 0 else g0 j) := ⟨_, rfl⟩
  rw [← hg1] at z
  have g1z : ∀ t, t < 24 → g1 t = lN 0 := fun t ht => by
    rw [hg1]
    show (if t < 24 then lN 0 else g0 t) = _
    rw [if_pos ht]
  obtain ⟨H1, hH1⟩ : ∃ H1, H1 = hB5 h2 g1 := ⟨_, rfl⟩
  rw [← hH1] at z
  have o3 : MOo H1 jt mb hi wi rk co := by rw [hH1]; exact (eUp_ne (by decide)).trans o2
  have lX5 : LN H1 253 u.natAbs := by rw [hH1]; exact l1'.keep (eUp_ne (by decide))
  have lY5 : LN H1 254 v.natAbs := by rw [hH1]; exact l2.keep (eUp_ne (by decide))
  have l55 : H1.1 255 = .inl (1, 24, .inr (.inl g1)) := by rw [hH1]; exact eUp_at ..
  have nl := nd_low Y0
  have ndX : ∃ n, (n = 0 ∧ nI (nd u.natAbs) - nI (nd v.natAbs) < 0 ∨ ∃ k, n = k + 1 ∧ nI (nd u.natAbs) - nI (nd v.natAbs) = nI k) ∧ nd v.natAbs + n ≤ 25 ∧ u.natAbs < v.natAbs * BB ^ n := by
    by_cases c : nd v.natAbs ≤ nd u.natAbs
    · refine ⟨nd u.natAbs - nd v.natAbs + 1, Or.inr ⟨_, rfl, nI_sub c⟩, by omega, ?_⟩
      have h1 : BB ^ (nd v.natAbs - 1) * BB ^ (nd u.natAbs - nd v.natAbs + 1) ≤ v.natAbs * BB ^ (nd u.natAbs - nd v.natAbs + 1) := Nat.mul_le_mul_right _ nl.1
      rw [← Nat.pow_add, show nd v.natAbs - 1 + (nd u.natAbs - nd v.natAbs + 1) = nd u.natAbs by omega] at h1
      exact Nat.lt_of_lt_of_le (lt_nd _) h1
    · refine ⟨0, Or.inl ⟨rfl, ?_⟩, by omega, ?_⟩
      · rw [nI_I, nI_I, iI_sub, show (0 : Int32) = iI 0 from rfl, iI_lt (by unfold iok; omega) (by unfold iok; omega)]
        omega
      · rw [Nat.pow_zero, Nat.mul_one]
        exact Nat.lt_of_lt_of_le (nd_le.mp (show nd u.natAbs ≤ nd v.natAbs - 1 by omega)) nl.1
  obtain ⟨nn, he, hn25, hlt⟩ := ndX
  have hqlt : u.natAbs / v.natAbs < BB ^ nn := Nat.div_lt_of_lt_mul hlt
  obtain ⟨H, y6, y7, y9, y11, y13, y14, e7, f7, l7, lx7⟩ := d29_outer (a := a) (b := b) (i0 := nd u.natAbs) (bl := bl) Y0 X24' nn H1 _ none none none none none he hn25 o3 lY5 (by rw [Nat.mod_eq_of_lt hlt]; exact lX5) ⟨g1, l55, fun t ht => by
    rw [g1z t ht]
    by_cases c : nn ≤ t
    · rw [if_pos c, dgt_big (Nat.le_trans (nd_le.mpr hqlt) c)]
    · rw [if_neg c]⟩ rfl
  have oH : MOo H jt mb hi wi rk co := (f7.2 239 (by decide) (by decide)).trans o3
  have m3 : MN H1 f := by rw [hH1]; exact (eUp_ne (by decide)).trans m2
  have mH : MN H f := (f7.2 240 (by decide) (by decide)).trans m3
  have bk := d29_back (h := H) (f := f) (a := a) (b := b) (bl := bl) (p := fun k => (f (24 * a + k)).toInt) (x4 := nI (nd v.natAbs)) (x5 := nI (nd u.natAbs)) (x7 := y7) (x8 := none) (x9 := y9) (x10 := none) (x11 := y11) (x12 := none) (x13 := y13) (x14 := y14) (x15 := none) oH l7 ha 24 0 (by decide)
  rw [mx_0, upR_id (upR_raw f a), hW_id mH] at bk
  have hXY : u.natAbs / v.natAbs < BB ^ 23 := Nat.lt_of_le_of_lt (Nat.div_le_self _ _) bu
  rw [upR_congr (q := fd ((u.natAbs / v.natAbs : Nat) : Int)) (fun k hk => (fd_nat hXY hk).symm)] at bk
  have lxH : LX H := ⟨lx7, (lY5.keep (f7.2 254 (by decide) (by decide))).x, l7.x⟩
  have fH : FM h H := ⟨f7.1.trans (by rw [hH1]; exact s2.trans s1), fun i i1 i2 i3 i4 => (f7.2 i i2 i4).trans (by rw [hH1]; exact (eUp_ne i4).trans ((n2 i i3).trans (n1 i i2)))⟩
  have hd : ru 29 45 [some (.ref 239), some (.int (nI a)), some (.int (nI b)), some (.int bl), none, none, none, none, none, none, none, none, none, none, none, none] [] h2 = ru 29 298 [some (.ref 239), some (.int (nI a)), some (.int (nI b)), some (.int bl), some (.int (nI (nd v.natAbs))), some (.int (nI (nd u.natAbs))), some (.int (nI 24)), y7, none, y9, none, y11, none, y13, y14, none] [] (hW H (upR f a (fd ((u.natAbs / v.natAbs : Nat) : Int)))) := by
    have oo2 := o2
    unfold MOo at oo2
    simp only [S29, gFs, pFs, okq, bls, bo_true, eUp_at, eUp_eUp, eKls, cl_some, Option.toList_some, Option.toList_none, List.cons_append, List.nil_append, oo2, e5, e6]
    rw [z, H29_87]
    simp only [S29, gFs, pFs, okq, bls, bo_true, eUp_at, eUp_eUp, eKls, cl_some, Option.toList_some, Option.toList_none, List.cons_append, List.nil_append]
    rw [e7, H29_263]
    simp only [S29, gFs, pFs, okq, bls, bo_true, eUp_at, eUp_eUp, eKls, cl_some, Option.toList_some, Option.toList_none, List.cons_append, List.nil_append]
    rw [bk]
  have pre : den 29 [.ref 239, .int (nI a), .int (nI b)] h = ru 29 45 [some (.ref 239), some (.int (nI a)), some (.int (nI b)), some (.int bl), none, none, none, none, none, none, none, none, none, none, none, none] [] h2 := by
    have oo := o
    have oo1 := o1
    unfold MOo at oo oo1
    rw [E29 239 _ _ o]
    simp only [S29, gFs, pFs, okq, bls, bo_true, eUp_at, eUp_eUp, eKls, cl_some, Option.toList_some, Option.toList_none, List.cons_append, List.nil_append, e1, e2]
    by_cases q : decide (u < 0) = decide (v < 0)
    · rw [if_pos (Or.inl q)] at hbl
      rw [if_pos (by rw [q]), hbl]
      simp only [S29, gFs, pFs, okq, bls, bo_true, eUp_at, eUp_eUp, eKls, cl_some, Option.toList_some, Option.toList_none, List.cons_append, List.nil_append, oo, e3, oo1, e4]
    · rw [if_neg (fun e => q (by cases hu : decide (u < 0) <;> cases hv : decide (v < 0) <;> rw [hu, hv] at e <;> first | rfl | exact absurd e (by decide)))]
      simp only [S29, gFs, pFs, okq, bls, bo_true, eUp_at, eUp_eUp, eKls, cl_some, Option.toList_some, Option.toList_none, List.cons_append, List.nil_append, e0]
      by_cases q0 : u = 0
      · rw [if_pos (Or.inr q0)] at hbl
        rw [decide_eq_true q0, if_neg (show ¬ ldI true = 0 by decide), hbl]
        simp only [S29, gFs, pFs, okq, bls, bo_true, eUp_at, eUp_eUp, eKls, cl_some, Option.toList_some, Option.toList_none, List.cons_append, List.nil_append, oo, e3, oo1, e4]
      · rw [if_neg (fun e => e.elim q q0)] at hbl
        rw [decide_eq_false q0, if_pos (show ldI false = 0 by decide), hbl]
        simp only [S29, gFs, pFs, okq, bls, bo_true, eUp_at, eUp_eUp, eKls, cl_some, Option.toList_some, Option.toList_none, List.cons_append, List.nil_append, oo, e3, oo1, e4]
  rw [pre, hd, H29_298]
  have tds := tdiv_sgn u v
  by_cases q : decide (u < 0) = decide (v < 0) ∨ u = 0
  · rw [if_pos q] at hbl
    refine ⟨hW H (upR f a (fd ((u.natAbs / v.natAbs : Nat) : Int))), ?_, fH.trans (FM.w _ _), ?_, lxH.w _⟩
    · simp only [S29, gFs, pFs, okq, bls, bo_true, eUp_at, eUp_eUp, eKls, cl_some, Option.toList_some, Option.toList_none, List.cons_append, List.nil_append]
      rw [if_pos (by rw [hbl]; rfl)]
    · rw [show u.tdiv v = ((u.natAbs / v.natAbs : Nat) : Int) from by
        rcases q with q | q
        · rw [tds, if_pos q]
        · rw [q, Int.zero_tdiv, show (0 : Int).natAbs = 0 from rfl, Nat.zero_div]
          rfl]
      exact hW_mn _ _
  · rw [if_neg q] at hbl
    have bXY : n23 ((u.natAbs / v.natAbs : Nat) : Int) := by unfold n23; rw [Int.natAbs_natCast]; exact hXY
    have e9 := d18 (h := H) (f := upR f a (fd ((u.natAbs / v.natAbs : Nat) : Int))) oH ha (upR_rg _ _ _) bXY.v.1
    rw [upR_upR] at e9
    refine ⟨hW H (upR f a (fd (-((u.natAbs / v.natAbs : Nat) : Int)))), ?_, fH.trans (FM.w _ _), ?_, lxH.w _⟩
    · simp only [S29, gFs, pFs, okq, bls, bo_true, eUp_at, eUp_eUp, eKls, cl_some, Option.toList_some, Option.toList_none, List.cons_append, List.nil_append]
      rw [if_neg (by rw [hbl]; decide)]
      simp only [S29, gFs, pFs, okq, bls, bo_true, eUp_at, eUp_eUp, eKls, cl_some, Option.toList_some, Option.toList_none, List.cons_append, List.nil_append, e9]
    · rw [tds, if_neg (fun e => q (Or.inl e))]
      exact hW_mn _ _
end RD5
