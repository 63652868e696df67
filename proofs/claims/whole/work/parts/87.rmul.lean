/-! THE REFERENCE: bare, length -/
def n23 (u : Int) : Prop := u.natAbs < BB ^ 23
theorem n23.v {u : Int} (h : n23 u) : vB u ∧ vB (-u) := by
  unfold n23 at h
  unfold vB
  rw [Bi_BB]
  omega
theorem fd_nat {m : Nat} (hm : m < BB ^ 23) {k : Nat} (hk : k < 24) : fd (m : Int) k = (dgt m k : Int) := by
  unfold fd dgt
  by_cases q : k < 23
  · rw [if_pos q, Bi_BB, show Bi = ((BB : Nat) : Int) from rfl, ← Int.natCast_ediv, ← Int.natCast_emod]
  · have : k = 23 := by omega
    subst this
    rw [if_neg (by decide), Bi_BB, ← Int.natCast_ediv, Nat.div_eq_of_lt hm]
    rfl
def LN (h : eH) (i m : Nat) : Prop := ∃ g, h.1 i = .inl (1, 24, .inr (.inl g)) ∧ ∀ k, k < 24 → g k = lN (dgt m k)
def LXi (h : eH) (i : Nat) : Prop := ∃ g, h.1 i = .inl (1, 24, .inr (.inl g))
def LX (h : eH) : Prop := LXi h 253 ∧ LXi h 254 ∧ LXi h 255
theorem LN.x {h : eH} {i m : Nat} (x : LN h i m) : LXi h i := by
  obtain ⟨g, x1, -⟩ := x
  exact ⟨g, x1⟩
theorem LN.keep {h h' : eH} {i m : Nat} (x : LN h i m) (e : h'.1 i = h.1 i) : LN h' i m := by
  obtain ⟨g, x1, x2⟩ := x
  exact ⟨g, e.trans x1, x2⟩
theorem LXi.keep {h h' : eH} {i : Nat} (x : LXi h i) (e : h'.1 i = h.1 i) : LXi h' i := by
  obtain ⟨g, x1⟩ := x
  exact ⟨g, e.trans x1⟩
theorem LN.get {h : eH} {i m k : Nat} (x : LN h i m) (hk : k < 24) {α : Type} : ∀ F : Int64 → Option α, aL (h.1 i) (nI k) F = F (lN (dgt m k)) := by
  intro F
  obtain ⟨g, x1, x2⟩ := x
  rw [x1, aL_nI hk (by decide), x2 k hk]
section RM1
variable {h : eH} {jt mb hi wi rk co : Int32} {f : Nat → Int64} {a i : Nat}
def cpm (g : Nat → Int64) (p : Nat → Int) (k : Nat) : Nat → Int64 := fun j => if j < k then lI (p j) else g j
theorem cpm_up (g : Nat → Int64) (p : Nat → Int) (k : Nat) : vp_updL (cpm g p k) k (lI (p k)) = cpm g p (k + 1) := by
  funext j
  unfold vp_updL cpm
  by_cases q : j = k
  · rw [if_pos q, if_pos (by omega), q]
  · rw [if_neg q]
    by_cases q2 : j < k
    · rw [if_pos q2, if_pos (by omega)]
    · rw [if_neg q2, if_neg (by omega)]
theorem d19_loop {p : Nat → Int} {g : Nat → Int64} {x3 : Option Value} (k3 : eKl x3 = x3) (o : MOo h jt mb hi wi rk co) (n : MN h f) (rg : RG f a p) (ha : a < 412) (hi' : 250 < i) : ∀ r k, k + r = 24 → ru 19 18 [some (.ref 239), some (.int (nI a)), some (.ref i), x3, some (.int (nI k))] [] (eUp h i (.inl (1, 24, .inr (.inl (cpm g p k))))) = ru 19 47 [some (.ref 239), some (.int (nI a)), some (.ref i), x3, some (.int (nI 24))] [] (eUp h i (.inl (1, 24, .inr (.inl (cpm g p 24))))) := by
  intro r
  have n1 : (239 : Nat) ≠ i := by omega
  have n2 : (240 : Nat) ≠ i := by omega
  unfold MOo at o
  unfold MN at n
  induction r with
  | zero =>
    intro k hk
    have : k = 24 := by omega
    subst this
    rw [H19_18]
    simp only [S19, gFs, pFs, okq, bls, bo_true, eUp_at, eUp_eUp, eKls, cl_some, Option.toList_some, Option.toList_none, List.cons_append, List.nil_append]
    rw [if_pos (by decide)]
  | succ r ih =>
    intro k hk
    have i1 : nI 24 * nI a + nI k = nI (24 * a + k) := by rw [nI_mul, nI_add]
    rw [H19_18]
    simp only [S19, gFs, pFs, okq, bls, bo_true, eUp_at, eUp_eUp, eKls, cl_some, Option.toList_some, Option.toList_none, List.cons_append, List.nil_append, eUp_ne n1, o, eUp_ne n2, n, i1]
    rw [if_neg (nI_ge (by omega) (by decide)), aL_nI (by omega) (by decide), rg k (by omega), wL_nI (by omega) (by decide), cpm_up, k3, nI_1]
    exact ih (k + 1) (by omega)
theorem d19 {u : Int} (o : MOo h jt mb hi wi rk co) (n : MN h f) (ru' : RG f a (fd u)) (bu : n23 u) (ha : a < 412) (hi' : 250 < i) (lx : LXi h i) : ∃ h', den 19 [.ref 239, .int (nI a), .ref i] h = some (none, h') ∧ h'.2 = h.2 ∧ (∀ j, j ≠ i → h'.1 j = h.1 j) ∧ LN h' i u.natAbs := by
  obtain ⟨g, lx⟩ := lx
  obtain ⟨v1, v2⟩ := bu.v
  have e1 := d17 (h := h) o ha ru' v1
  rw [hW_id n] at e1
  have n3 : (240 : Nat) ≠ i := by omega
  have n4 : (239 : Nat) ≠ i := by omega
  have lnd : ∀ {p : Nat → Int} (j : Nat), j < 24 → p = fd (u.natAbs : Int) → cpm g p 24 j = lN (dgt u.natAbs j) := fun j hj hp => by
    unfold cpm
    rw [if_pos hj, hp, fd_nat bu hj, lN_I]
  rw [E19 239 _ _ o]
  by_cases q : u < 0
  · rw [decide_eq_true q] at e1
    have e2 := d18 (h := h) o ha ru' v1
    rw [hW_id n] at e2
    have hab : (u.natAbs : Int) = -u := by omega
    have lp := d19_loop (h := hW h (upR f a (fd (-u)))) (p := fd (-u)) (g := g) (i := i) (x3 := some (.int (ldI true))) rfl (hW_mo o _) (hW_mn h _) (upR_rg f a (fd (-u))) ha hi' 24 0 (by decide)
    have c0 : cpm g (fd (-u)) 0 = g := by funext j; unfold cpm; rw [if_neg (Nat.not_lt_zero _)]
    rw [c0, eUp_id (show (hW h (upR f a (fd (-u)))).1 i = .inl (1, 24, .inr (.inl g)) from (eUp_ne (Ne.symm n3)).trans lx)] at lp
    obtain ⟨H, hH⟩ : ∃ H, H = eUp (hW h (upR f a (fd (-u)))) i (.inl (1, 24, .inr (.inl (cpm g (fd (-u)) 24)))) := ⟨_, rfl⟩
    have oH : MOo H jt mb hi wi rk co := by rw [hH]; exact (eUp_ne n4).trans (hW_mo o _)
    have nH : MN H (upR f a (fd (-u))) := by rw [hH]; exact (eUp_ne n3).trans (hW_mn h _)
    have e3 := d18 (h := H) oH ha (upR_rg f a (fd (-u))) v2
    rw [hW_id nH, Int.neg_neg, upR_upR, upR_id ru'] at e3
    rw [← hH] at lp
    refine ⟨hW H f, ?_, by rw [hH]; rfl, fun j hj => ?_, ⟨cpm g (fd (-u)) 24, ?_, fun j hj => lnd j hj (by rw [hab])⟩⟩
    · simp only [S19, gFs, pFs, okq, bls, bo_true, eUp_at, eUp_eUp, eKls, cl_some, Option.toList_some, Option.toList_none, List.cons_append, List.nil_append, e1]
      rw [if_neg (show ¬ ldI true = 0 by decide)]
      simp only [S19, gFs, pFs, okq, bls, bo_true, eUp_at, eUp_eUp, eKls, cl_some, Option.toList_some, Option.toList_none, List.cons_append, List.nil_append, e2]
      rw [lp, H19_47]
      simp only [S19, gFs, pFs, okq, bls, bo_true, eUp_at, eUp_eUp, eKls, cl_some, Option.toList_some, Option.toList_none, List.cons_append, List.nil_append]
      rw [if_neg (show ¬ ldI true = 0 by decide)]
      simp only [S19, gFs, pFs, okq, bls, bo_true, eUp_at, eUp_eUp, eKls, cl_some, Option.toList_some, Option.toList_none, List.cons_append, List.nil_append, e3]
    · by_cases qj : j = 240
      · rw [qj]
        exact (hW_mn H f).trans n.symm
      · show (eUp H 240 _).1 j = _
        rw [eUp_ne qj, hH, eUp_ne hj]
        exact eUp_ne qj
    · show (eUp H 240 _).1 i = _
      rw [eUp_ne (Ne.symm n3), hH, eUp_at]
  · rw [decide_eq_false q] at e1
    have hab : (u.natAbs : Int) = u := by omega
    have lp := d19_loop (h := h) (p := fd u) (g := g) (i := i) (x3 := some (.int (ldI false))) rfl o n ru' ha hi' 24 0 (by decide)
    have c0 : cpm g (fd u) 0 = g := by funext j; unfold cpm; rw [if_neg (Nat.not_lt_zero _)]
    rw [c0, eUp_id lx] at lp
    refine ⟨eUp h i (.inl (1, 24, .inr (.inl (cpm g (fd u) 24)))), ?_, rfl, fun j hj => eUp_ne hj, ⟨cpm g (fd u) 24, eUp_at .., fun j hj => lnd j hj (by rw [hab])⟩⟩
    simp only [S19, gFs, pFs, okq, bls, bo_true, eUp_at, eUp_eUp, eKls, cl_some, Option.toList_some, Option.toList_none, List.cons_append, List.nil_append, e1]
    rw [if_pos (show ldI false = 0 by decide), lp, H19_47]
    simp only [S19, gFs, pFs, okq, bls, bo_true, eUp_at, eUp_eUp, eKls, cl_some, Option.toList_some, Option.toList_none, List.cons_append, List.nil_append]
    rw [if_pos (show ldI false = 0 by decide)]
theorem d26_loop {m : Nat} (x : LN h i m) (hm : nd m ≤ 24) : ∀ k, nd m ≤ k → k ≤ 24 → ru 26 3 [some (.ref i), some (.int (nI k))] [] h = some (some (.int (nI (nd m))), h) := by
  intro k
  induction k with
  | zero =>
    intro h1 _
    rw [H26_3]
    simp only [S26, gFs, pFs, okq, bls, bo_true, eUp_at, eUp_eUp, eKls, cl_some, Option.toList_some, Option.toList_none, List.cons_append, List.nil_append]
    rw [if_pos (by decide), H26_23]
    simp only [S26, gFs, pFs, okq, bls, bo_true, eUp_at, eUp_eUp, eKls, cl_some, Option.toList_some, Option.toList_none, List.cons_append, List.nil_append]
    rw [show nd m = 0 by omega]
  | succ k ih =>
    intro h1 h2
    have s1 : nI (k + 1) - nI 1 = nI k := nI_sub1 k
    have dl := dgt_lt m k
    have hB : BB = 1000000000 := rfl
    rw [H26_3]
    simp only [S26, gFs, pFs, okq, bls, bo_true, eUp_at, eUp_eUp, eKls, cl_some, Option.toList_some, Option.toList_none, List.cons_append, List.nil_append, s1, x.get (show k < 24 by omega)]
    rw [if_neg (nI_nle (by omega) (by omega))]
    have c1 : lg_cmp (lN (dgt m k)) (lN 0) = 0 ↔ dgt m k = 0 := by
      rw [lg_eq0, lN_eq (by omega) (by decide)]
    by_cases q : dgt m k = 0
    · rw [if_pos (c1.mpr q), nI_dec]
      refine ih ?_ (by omega)
      by_cases q2 : nd m = k + 1
      · have := dgt_top (m := m) (by omega)
        rw [q2, Nat.add_sub_cancel] at this
        exact absurd q this
      · omega
    · rw [if_neg (fun e => q (c1.mp e)), H26_23]
      simp only [S26, gFs, pFs, okq, bls, bo_true, eUp_at, eUp_eUp, eKls, cl_some, Option.toList_some, Option.toList_none, List.cons_append, List.nil_append]
      have : nd m = k + 1 := by
        by_cases q2 : nd m = k + 1
        · exact q2
        · exact absurd (dgt_big (by omega)) q
      rw [this]
theorem d26 {m : Nat} (x : LN h i m) (hm : nd m ≤ 24) : den 26 [.ref i] h = some (some (.int (nI (nd m))), h) := by
  rw [E26]
  simp only [S26, gFs, pFs, okq, bls, bo_true, eUp_at, eUp_eUp, eKls, cl_some, Option.toList_some, Option.toList_none, List.cons_append, List.nil_append]
  exact d26_loop x hm 24 hm (Nat.le_refl _)
end RM1
