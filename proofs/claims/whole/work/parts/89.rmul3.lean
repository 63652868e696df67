/-! THE REFERENCE: times, whole -/
section RM3
variable {h : eH} {jt mb hi wi rk co : Int32} {f : Nat → Int64} {t a b : Nat}
theorem sgn_mul {u v : Int} : u * v = if (decide (u < 0) = decide (v < 0)) then ((u.natAbs * v.natAbs : Nat) : Int) else - ((u.natAbs * v.natAbs : Nat) : Int) := by
  by_cases q1 : u < 0
  · by_cases q2 : v < 0
    · rw [decide_eq_true q1, decide_eq_true q2, if_pos rfl, Int.natCast_mul, show (u.natAbs : Int) = -u by omega, show (v.natAbs : Int) = -v by omega, Int.neg_mul_neg]
    · rw [decide_eq_true q1, decide_eq_false q2, if_neg (by decide), Int.natCast_mul, show (u.natAbs : Int) = -u by omega, show (v.natAbs : Int) = v by omega, Int.neg_mul, Int.neg_neg]
  · by_cases q2 : v < 0
    · rw [decide_eq_false q1, decide_eq_true q2, if_neg (by decide), Int.natCast_mul, show (u.natAbs : Int) = u by omega, show (v.natAbs : Int) = -v by omega, Int.mul_neg, Int.neg_neg]
    · rw [decide_eq_false q1, decide_eq_false q2, if_pos rfl, Int.natCast_mul, show (u.natAbs : Int) = u by omega, show (v.natAbs : Int) = v by omega]
theorem d27 {u v : Int} (o : MOo h jt mb hi wi rk co) (n : MN h f) (lx : LX h) (ru' : RG f a (fd u)) (rv : RG f b (fd v)) (bu : n23 u) (bv : n23 v) (buv : n23 (u * v)) (ht : t < 412) (ha : a < 412) (hb : b < 412) : ∃ h', den 27 [.ref 239, .int (nI t), .int (nI a), .int (nI b)] h = some (none, h') ∧ FM h h' ∧ MN h' (upR f t (fd (u * v))) ∧ LX h' := by
  have e1 := d17 (h := h) o ha ru' bu.v.1
  have e2 := d17 (h := h) o hb rv bv.v.1
  rw [hW_id n] at e1 e2
  obtain ⟨h1, e3, s1, n1, l1⟩ := d19 (i := 253) o n ru' bu ha (by decide) lx.1
  have o1 : MOo h1 jt mb hi wi rk co := (n1 239 (by decide)).trans o
  have m1 : MN h1 f := (n1 240 (by decide)).trans n
  obtain ⟨h2, e4, s2, n2, l2⟩ := d19 (i := 254) o1 m1 rv bv hb (by decide) (lx.2.1.keep (n1 254 (by decide)))
  have o2 : MOo h2 jt mb hi wi rk co := (n2 239 (by decide)).trans o1
  have m2 : MN h2 f := (n2 240 (by decide)).trans m1
  have l1' := l1.keep (h' := h2) (n2 253 (by decide))
  obtain ⟨g0, lg0⟩ : LXi h2 255 := lx.2.2.keep ((n2 255 (by decide)).trans (n1 255 (by decide)))
  have X24 : nd u.natAbs ≤ 24 := Nat.le_trans (nd_le.mpr bu) (by decide)
  have Y24 : nd v.natAbs ≤ 24 := Nat.le_trans (nd_le.mpr bv) (by decide)
  obtain ⟨bl, hbl⟩ : ∃ bl : Int32, bl = if decide (u < 0) = decide (v < 0) then nI 0 else nI 1 := ⟨_, rfl⟩
  have z := d27_zero (h := h2) (t := t) (a := a) (b := b) (bl := bl) (g0 := g0) (x6 := none) (x7 := none) (x8 := none) (x9 := none) (x10 := none) (x11 := none) (x12 := none) o2 24 0 (by decide)
  rw [show (fun j => if j < 0 then lN 0 else g0 j) = g0 from by funext j; rw [if_neg (Nat.not_lt_zero _)], show hB5 h2 g0 = h2 from eUp_id lg0] at z
  obtain ⟨g1, hg1⟩ : ∃ g1, g1 = (fun j => if j < 24 then lN 0 else g0 j) := ⟨_, rfl⟩
  rw [← hg1] at z
  have lX5 : LN (hB5 h2 g1) 253 u.natAbs := l1'.keep (eUp_ne (by decide))
  have lY5 : LN (hB5 h2 g1) 254 v.natAbs := l2.keep (eUp_ne (by decide))
  have e5 := d26 lX5 X24
  have e6 := d26 lY5 Y24
  obtain ⟨g2, y8, y10, y11, e7, g2e⟩ := d27_outer (t := t) (a := a) (b := b) (bl := bl) o2 l1' l2 X24 Y24 (nd u.natAbs) 0 g1 none none none (by omega) (fun k hk => by
    rw [hg1]
    show (if k < 24 then lN 0 else g0 k) = _
    rw [if_pos hk, Nat.pow_zero, Nat.mod_one, Nat.zero_mul, dgt_0])
  have o5 : ∀ g, (hB5 h2 g).1 239 = _ := fun g => (eUp_ne (by decide)).trans o2
  obtain ⟨H, hH⟩ : ∃ H, H = hB5 h2 g2 := ⟨_, rfl⟩
  have oH : MOo H jt mb hi wi rk co := by rw [hH]; exact o5 g2
  have mH : MN H f := by rw [hH]; exact (eUp_ne (by decide)).trans m2
  have lm : LN H 255 (u.natAbs * v.natAbs) := ⟨g2, by rw [hH]; exact eUp_at .., g2e⟩
  have bk := d27_back (h := H) (f := f) (t := t) (a := a) (b := b) (bl := bl) (p := fun k => (f (24 * t + k)).toInt) (x5 := some (.int (nI (nd u.natAbs)))) (x6 := some (.int (nI (nd v.natAbs)))) (x8 := y8) (x9 := none) (x10 := y10) (x11 := y11) (x12 := none) rfl oH lm ht 24 0 (by decide)
  rw [mx_0, upR_id (upR_raw f t), hW_id mH] at bk
  have hXY : u.natAbs * v.natAbs < BB ^ 23 := by
    have : (u * v).natAbs < BB ^ 23 := buv
    rw [Int.natAbs_mul] at this
    exact this
  rw [upR_congr (q := fd ((u.natAbs * v.natAbs : Nat) : Int)) (fun k hk => (fd_nat hXY hk).symm)] at bk
  have lxH : LX H := ⟨by rw [hH]; exact (l1'.keep (eUp_ne (by decide))).x, by rw [hH]; exact (l2.keep (eUp_ne (by decide))).x, lm.x⟩
  have fH : FM h H := ⟨by rw [hH]; exact s2.trans s1, fun i i1 i2 i3 i4 => by rw [hH]; exact (eUp_ne i4).trans ((n2 i i3).trans (n1 i i2))⟩
  have hd : ru 27 38 [some (.ref 239), some (.int (nI t)), some (.int (nI a)), some (.int (nI b)), some (.int bl), none, none, none, none, none, none, none, none] [] h2 = ru 27 222 [some (.ref 239), some (.int (nI t)), some (.int (nI a)), some (.int (nI b)), some (.int bl), some (.int (nI (nd u.natAbs))), some (.int (nI (nd v.natAbs))), some (.int (nI 24)), y8, none, y10, y11, none] [] (hW H (upR f t (fd ((u.natAbs * v.natAbs : Nat) : Int)))) := by
    have o5' := o5 g1
    simp only [S27, gFs, pFs, okq, bls, bo_true, eUp_at, eUp_eUp, eKls, cl_some, Option.toList_some, Option.toList_none, List.cons_append, List.nil_append]
    rw [z, H27_62]
    simp only [S27, gFs, pFs, okq, bls, bo_true, eUp_at, eUp_eUp, eKls, cl_some, Option.toList_some, Option.toList_none, List.cons_append, List.nil_append, o5', e5, e6]
    rw [e7, H27_187]
    simp only [S27, gFs, pFs, okq, bls, bo_true, eUp_at, eUp_eUp, eKls, cl_some, Option.toList_some, Option.toList_none, List.cons_append, List.nil_append]
    rw [← hH, bk]
  have pre : den 27 [.ref 239, .int (nI t), .int (nI a), .int (nI b)] h = ru 27 38 [some (.ref 239), some (.int (nI t)), some (.int (nI a)), some (.int (nI b)), some (.int bl), none, none, none, none, none, none, none, none] [] h2 := by
    have oo := o
    have oo1 := o1
    unfold MOo at oo oo1
    rw [E27 239 _ _ _ o]
    simp only [S27, gFs, pFs, okq, bls, bo_true, eUp_at, eUp_eUp, eKls, cl_some, Option.toList_some, Option.toList_none, List.cons_append, List.nil_append, e1, e2]
    by_cases q : decide (u < 0) = decide (v < 0)
    · rw [if_pos q] at hbl
      rw [if_pos (by rw [q]), hbl]
      simp only [S27, gFs, pFs, okq, bls, bo_true, eUp_at, eUp_eUp, eKls, cl_some, Option.toList_some, Option.toList_none, List.cons_append, List.nil_append, oo, e3, oo1, e4]
    · rw [if_neg q] at hbl
      rw [if_neg (fun e => q (by cases hu : decide (u < 0) <;> cases hv : decide (v < 0) <;> rw [hu, hv] at e <;> first | rfl | exact absurd e (by decide))), hbl]
      simp only [S27, gFs, pFs, okq, bls, bo_true, eUp_at, eUp_eUp, eKls, cl_some, Option.toList_some, Option.toList_none, List.cons_append, List.nil_append, oo, e3, oo1, e4]
  rw [pre, hd, H27_222]
  by_cases q : decide (u < 0) = decide (v < 0)
  · rw [if_pos q] at hbl
    refine ⟨hW H (upR f t (fd ((u.natAbs * v.natAbs : Nat) : Int))), ?_, fH.trans (FM.w _ _), ?_, lxH.w _⟩
    · simp only [S27, gFs, pFs, okq, bls, bo_true, eUp_at, eUp_eUp, eKls, cl_some, Option.toList_some, Option.toList_none, List.cons_append, List.nil_append]
      rw [if_pos (by rw [hbl]; rfl)]
    · rw [sgn_mul, if_pos q]
      exact hW_mn _ _
  · rw [if_neg q] at hbl
    have bXY : n23 ((u.natAbs * v.natAbs : Nat) : Int) := by unfold n23; rw [Int.natAbs_natCast]; exact hXY
    have e9 := d18 (h := H) (f := upR f t (fd ((u.natAbs * v.natAbs : Nat) : Int))) oH ht (upR_rg _ _ _) bXY.v.1
    rw [upR_upR] at e9
    refine ⟨hW H (upR f t (fd (-((u.natAbs * v.natAbs : Nat) : Int)))), ?_, fH.trans (FM.w _ _), ?_, lxH.w _⟩
    · simp only [S27, gFs, pFs, okq, bls, bo_true, eUp_at, eUp_eUp, eKls, cl_some, Option.toList_some, Option.toList_none, List.cons_append, List.nil_append]
      rw [if_neg (by rw [hbl]; decide)]
      simp only [S27, gFs, pFs, okq, bls, bo_true, eUp_at, eUp_eUp, eKls, cl_some, Option.toList_some, Option.toList_none, List.cons_append, List.nil_append, e9]
    · rw [sgn_mul, if_neg q]
      exact hW_mn _ _
end RM3
