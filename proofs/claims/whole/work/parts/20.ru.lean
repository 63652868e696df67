/-! THE RUN OF A METHOD AS EQUATIONS -/
noncomputable def ru (k pc : Nat) (ls : eL) (st : List Value) (h : eH) : Option eR := eRun none (eTo qm qt k) (qt k) (pc, ls, st, h)
noncomputable def den (k : Nat) (as : List Value) (h : eH) : Option eR := eTo qm qt (k + 1) k as h
theorem den_eq (k : Nat) (as : List Value) (h : eH) : den k as h = bo (okA (qm k) as h) (ru k 0 (entL (qm k).2.2.1 as) [] h) := by
  unfold den ru
  show (bif Nat.beq k k then _ else _) = _
  rw [Nat.beq_refl]
  rfl
theorem eTo_den {j k : Nat} (hj : j < k) : eTo qm qt k j = den j := by
  induction k with
  | zero => exact absurd hj (Nat.not_lt_zero _)
  | succ k ih =>
    funext as h
    by_cases hjk : j = k
    · subst hjk; rfl
    · show (bif Nat.beq j k then _ else eTo qm qt k j as h) = _
      rw [show Nat.beq j k = false by cases hb : Nat.beq j k with | false => rfl | true => exact absurd (nb hb) hjk]
      exact congrFun (congrFun (ih (by omega)) as) h
def eN {α : Type} (o : Option (eS ⊕ α)) (f : eS → Option α) : Option α := match o with
  | none => none
  | some (.inl q) => f q
  | some (.inr x) => some x
theorem ru_un {k pc : Nat} {ls : eL} {st : List Value} {h : eH} {r : eRow} (hf : eFind (qt k) pc = some r) : ru k pc ls st h = eN (estep none (eTo qm qt k) r ls st h) (fun q => ru k q.1 q.2.1 q.2.2.1 q.2.2.2) := by
  cases hs : estep none (eTo qm qt k) r ls st h with
  | none => exact eRun_no hf hs
  | some y => cases y with
    | inl q => exact eRun_go hf hs
    | inr x => exact eRun_end hf hs
section RUX
variable {α : Type}
/-- a field read -/
def gF (c : va_E) (C b : Nat) (f : Value → Option α) : Option α := match c with
  | .inr (ci, fs) => bo (Nat.beq ci C) (match fs[b]? with
    | some v => f v
    | none => none)
  | _ => none
/-- a field written -/
def pF (c : va_E) (C b : Nat) (v : Value) (f : va_E → Option α) : Option α := match c with
  | .inr (ci, fs) => bo (Nat.beq ci C && okv (qty ci b) v && Nat.blt b fs.length) (f (.inr (ci, fs.set b v)))
  | _ => none
def aI (c : va_E) (tg : Nat) (i : Int32) (f : Int32 → Option α) : Option α := match c with
  | .inl (t, n, .inl g) => bo (Nat.beq t tg) (inR i n (f (g i.toNatClampNeg)))
  | _ => none
def aL (c : va_E) (i : Int32) (f : Int64 → Option α) : Option α := match c with
  | .inl (t, n, .inr (.inl g)) => bo (Nat.beq t 1) (inR i n (f (g i.toNatClampNeg)))
  | _ => none
def aQ (c : va_E) (i : Int32) (f : Nat → Option α) : Option α := match c with
  | .inl (t, n, .inr (.inr (.inr (.inr g)))) => bo (Nat.ble 3 t && Nat.ble t 6) (inR i n (match g i.toNatClampNeg with
    | some q => f q
    | none => none))
  | _ => none
def wI (c : va_E) (i x : Int32) (f : va_E → Option α) : Option α := match c with
  | .inl (t, n, .inl g) => bo (Nat.beq t 0) (inR i n (f (.inl (0, n, .inl (upd g i.toNatClampNeg x)))))
  | _ => none
def wZ (c : va_E) (i x : Int32) (f : va_E → Option α) : Option α := match c with
  | .inl (t, n, .inl g) => bo (Nat.beq t 2) (inR i n (bo (x == 0 || x == 1) (f (.inl (2, n, .inl (upd g i.toNatClampNeg x))))))
  | _ => none
def wL (c : va_E) (i : Int32) (x : Int64) (f : va_E → Option α) : Option α := match c with
  | .inl (t, n, .inr (.inl g)) => bo (Nat.beq t 1) (inR i n (f (.inl (1, n, .inr (.inl (vp_updL g i.toNatClampNeg x))))))
  | _ => none
def aN (c : va_E) (f : Int32 → Option α) : Option α := match c with
  | .inl (t, n, _) => bo (Nat.ble t 6) (f (Int32.ofNat n))
  | _ => none
def swF (o : Option Int) (f : Nat → Option α) : Option α := match o with
  | some z => if 0 ≤ z then f z.toNat else none
  | none => none
def wQ (c cv : va_E) (i : Int32) (v : Nat) (f : va_E → Option α) : Option α := match c with
  | .inl (t, n, .inr (.inr (.inr (.inr g)))) => bo (Nat.ble 3 t && Nat.ble t 6) (match cv with
    | .inr (ci, _) => bo ((Nat.beq t 3 && Nat.beq ci 9) || (Nat.beq t 4 && Nat.beq ci 8)) (inR i n (f (.inl (t, n, .inr (.inr (.inr (.inr (va_up g i.toNatClampNeg (some v)))))))))
    | _ => none)
  | _ => none
def cP (c0 c1 : va_E) (sp dp n : Int32) (f : va_E → Option α) : Option α := match c0 with
  | .inl (t0, n0, .inl f0) => bo (Nat.beq t0 0) (match c1 with
    | .inl (t1, n1, .inl g) => bo (Nat.beq t1 0) (if sp < 0 ∨ dp < 0 ∨ n < 0 ∨ n0 < sp.toNatClampNeg + n.toNatClampNeg ∨ n1 < dp.toNatClampNeg + n.toNatClampNeg then none else f (.inl (0, n1, .inl (va_cpy f0 g sp.toNatClampNeg dp.toNatClampNeg n.toNatClampNeg))))
    | _ => none)
  | _ => none
def cl (o : Option eR) (f : Option Value → eH → Option α) : Option α := match o with
  | some (v, h') => f v h'
  | none => none
theorem cl_some (v : Option Value) (h : eH) (f : Option Value → eH → Option α) : cl (some (v, h)) f = f v h := rfl
end RUX
section RUL
variable {k pc ra rb wi n : Nat} {ls : eL} {st : List Value} {h : eH}
theorem ru_go {r : eRow} {pc' : Nat} {ls' : eL} {st' : List Value} {h' : eH} (hf : eFind (qt k) pc = some r) (hs : estep none (eTo qm qt k) r ls st h = some (.inl (pc', ls', st', h'))) : ru k pc ls st h = ru k pc' ls' st' h' := by
  rw [ru_un hf, hs]; rfl
theorem ru_ret {r : eRow} {x : eR} (hf : eFind (qt k) pc = some r) (hs : estep none (eTo qm qt k) r ls st h = some (.inr x)) : ru k pc ls st h = some x := by
  rw [ru_un hf, hs]; rfl
theorem ru_if {r : eRow} {c : Prop} {dc : Decidable c} {p1 p2 : Nat} {st' : List Value} (hf : eFind (qt k) pc = some r) (hs : estep none (eTo qm qt k) r ls st h = @ite _ c dc (some (.inl (p1, ls, st', h))) (some (.inl (p2, ls, st', h)))) : ru k pc ls st h = @ite _ c dc (ru k p1 ls st' h) (ru k p2 ls st' h) := by
  rw [ru_un hf, hs]
  by_cases hc : c
  · rw [if_pos hc, if_pos hc]; rfl
  · rw [if_neg hc, if_neg hc]; rfl
theorem ru_guard {r : eRow} {c : Prop} {dc : Decidable c} {p2 : Nat} {st' : List Value} {h' : eH} (hf : eFind (qt k) pc = some r) (hs : estep none (eTo qm qt k) r ls st h = @ite _ c dc none (some (.inl (p2, ls, st', h')))) : ru k pc ls st h = @ite _ c dc none (ru k p2 ls st' h') := by
  rw [ru_un hf, hs]
  by_cases hc : c
  · rw [if_pos hc, if_pos hc]; rfl
  · rw [if_neg hc, if_neg hc]; rfl
theorem ru_bret {r : eRow} {b : Bool} {x : eR} (hf : eFind (qt k) pc = some r) (hs : estep none (eTo qm qt k) r ls st h = bo b (some (.inr x))) : ru k pc ls st h = bo b (some x) := by
  rw [ru_un hf, hs]
  cases b <;> rfl
theorem ru_getf {a : Nat} (hf : eFind (qt k) pc = some (pc, .getfield n, 3, ra, rb, wi)) : ru k pc ls (.ref a :: st) h = gF (h.1 a) ra rb (fun v => ru k (pc + 3) ls (v :: st) h) := by
  rw [ru_un hf]
  show eN (hO h a (fun ci fs => bo (Nat.beq ci ra) (match fs[rb]? with | some v => some (.inl (pc + 3, ls, v :: st, h)) | none => none))) _ = _
  unfold hO gF
  cases hc : h.1 a with
  | inl x => rfl
  | inr x =>
    dsimp only
    cases Nat.beq x.1 ra with
    | false => rfl
    | true => cases x.2[rb]? <;> rfl
theorem ru_putf {a : Nat} {v : Value} (hf : eFind (qt k) pc = some (pc, .putfield n, 3, ra, rb, wi)) : ru k pc ls (v :: .ref a :: st) h = pF (h.1 a) ra rb v (fun e => ru k (pc + 3) ls st (eUp h a e)) := by
  rw [ru_un hf]
  show eN (hO h a (fun ci fs => bo (Nat.beq ci ra && okv (qty ci rb) v && Nat.blt rb fs.length) (some (.inl (pc + 3, ls, st, eUp h a (.inr (ci, fs.set rb v))))))) _ = _
  unfold hO pF
  cases hc : h.1 a with
  | inl x => rfl
  | inr x =>
    dsimp only
    cases (Nat.beq x.1 ra && okv (qty x.1 rb) v && Nat.blt rb x.2.length) <;> rfl
theorem eN_inR {α : Type} {i : Int32} {n : Nat} {o : Option (eS ⊕ α)} {f : eS → Option α} : eN (inR i n o) f = inR i n (eN o f) := by
  unfold inR
  split <;> rfl
theorem eN_bo {α : Type} {b : Bool} {o : Option (eS ⊕ α)} {f : eS → Option α} : eN (bo b o) f = bo b (eN o f) := by
  cases b <;> rfl
theorem ru_iald {a : Nat} {i : Int32} (hf : eFind (qt k) pc = some (pc, .iaload, 1, ra, rb, wi)) : ru k pc ls (.int i :: .ref a :: st) h = aI (h.1 a) 0 i (fun x => ru k (pc + 1) ls (.int x :: st) h) := by
  rw [ru_un hf]
  show eN (hI h a 0 (fun n f => inR i n (some (.inl (pc + 1, ls, .int (f i.toNatClampNeg) :: st, h))))) _ = _
  unfold hI aI
  rcases hc : h.1 a with ⟨t, n, g | g | g | g | g⟩ | x
  · dsimp only
    rw [show (bif Nat.beq t 0 then inR i n (some (Sum.inl (pc + 1, ls, Value.int (g i.toNatClampNeg) :: st, h))) else none : eO) = bo (Nat.beq t 0) _ from rfl, eN_bo, eN_inR]
    rfl
  all_goals rfl
theorem ru_zald {a : Nat} {i : Int32} (hf : eFind (qt k) pc = some (pc, .baload, 1, ra, rb, wi)) : ru k pc ls (.int i :: .ref a :: st) h = aI (h.1 a) 2 i (fun x => ru k (pc + 1) ls (.int x :: st) h) := by
  rw [ru_un hf]
  show eN (hI h a 2 (fun n f => inR i n (some (.inl (pc + 1, ls, .int (f i.toNatClampNeg) :: st, h))))) _ = _
  unfold hI aI
  rcases hc : h.1 a with ⟨t, n, g | g | g | g | g⟩ | x
  · dsimp only
    rw [show (bif Nat.beq t 2 then inR i n (some (Sum.inl (pc + 1, ls, Value.int (g i.toNatClampNeg) :: st, h))) else none : eO) = bo (Nat.beq t 2) _ from rfl, eN_bo, eN_inR]
    rfl
  all_goals rfl
theorem ru_lald {a : Nat} {i : Int32} (hf : eFind (qt k) pc = some (pc, .laload, 1, ra, rb, wi)) : ru k pc ls (.int i :: .ref a :: st) h = aL (h.1 a) i (fun x => ru k (pc + 1) ls (.long x :: st) h) := by
  rw [ru_un hf]
  show eN (hL h a (fun n f => inR i n (some (.inl (pc + 1, ls, .long (f i.toNatClampNeg) :: st, h))))) _ = _
  unfold hL aL
  rcases hc : h.1 a with ⟨t, n, g | g | g | g | g⟩ | x
  · rfl
  · dsimp only
    rw [show (bif Nat.beq t 1 then inR i n (some (Sum.inl (pc + 1, ls, Value.long (g i.toNatClampNeg) :: st, h))) else none : eO) = bo (Nat.beq t 1) _ from rfl, eN_bo, eN_inR]
    rfl
  all_goals rfl
theorem ru_aald {a : Nat} {i : Int32} (hf : eFind (qt k) pc = some (pc, .aaload, 1, ra, rb, wi)) : ru k pc ls (.int i :: .ref a :: st) h = aQ (h.1 a) i (fun x => ru k (pc + 1) ls (.ref x :: st) h) := by
  rw [ru_un hf]
  show eN (hQ h a (fun _ n f => inR i n (match f i.toNatClampNeg with | some q => some (.inl (pc + 1, ls, .ref q :: st, h)) | none => none))) _ = _
  unfold hQ aQ
  rcases hc : h.1 a with ⟨t, n, g | g | g | g | g⟩ | x
  · rfl
  · rfl
  · rfl
  · rfl
  · dsimp only
    rw [show (bif Nat.ble 3 t && Nat.ble t 6 then inR i n (match g i.toNatClampNeg with | some q => some (Sum.inl (pc + 1, ls, Value.ref q :: st, h)) | none => none) else none : eO) = bo (Nat.ble 3 t && Nat.ble t 6) _ from rfl, eN_bo, eN_inR]
    cases g i.toNatClampNeg <;> rfl
  · rfl
theorem ru_iast {a : Nat} {i x : Int32} (hf : eFind (qt k) pc = some (pc, .iastore, 1, ra, rb, wi)) : ru k pc ls (.int x :: .int i :: .ref a :: st) h = wI (h.1 a) i x (fun e => ru k (pc + 1) ls st (eUp h a e)) := by
  rw [ru_un hf]
  show eN (hI h a 0 (fun n f => inR i n (some (.inl (pc + 1, ls, st, eUp h a (.inl (0, n, .inl (upd f i.toNatClampNeg x)))))))) _ = _
  unfold hI wI
  rcases hc : h.1 a with ⟨t, n, g | g | g | g | g⟩ | y
  · dsimp only
    rw [show (bif Nat.beq t 0 then inR i n (some (Sum.inl (pc + 1, ls, st, eUp h a (.inl (0, n, .inl (upd g i.toNatClampNeg x)))))) else none : eO) = bo (Nat.beq t 0) _ from rfl, eN_bo, eN_inR]
    rfl
  all_goals rfl
theorem ru_zast {a : Nat} {i x : Int32} (hf : eFind (qt k) pc = some (pc, .bastore, 1, ra, rb, wi)) : ru k pc ls (.int x :: .int i :: .ref a :: st) h = wZ (h.1 a) i x (fun e => ru k (pc + 1) ls st (eUp h a e)) := by
  rw [ru_un hf]
  show eN (hI h a 2 (fun n f => inR i n (bo (x == 0 || x == 1) (some (.inl (pc + 1, ls, st, eUp h a (.inl (2, n, .inl (upd f i.toNatClampNeg x))))))))) _ = _
  unfold hI wZ
  rcases hc : h.1 a with ⟨t, n, g | g | g | g | g⟩ | y
  · dsimp only
    rw [show (bif Nat.beq t 2 then inR i n (bo (x == 0 || x == 1) (some (Sum.inl (pc + 1, ls, st, eUp h a (.inl (2, n, .inl (upd g i.toNatClampNeg x))))))) else none : eO) = bo (Nat.beq t 2) _ from rfl, eN_bo, eN_inR, eN_bo]
    rfl
  all_goals rfl
theorem ru_last {a : Nat} {i : Int32} {x : Int64} (hf : eFind (qt k) pc = some (pc, .lastore, 1, ra, rb, wi)) : ru k pc ls (.long x :: .int i :: .ref a :: st) h = wL (h.1 a) i x (fun e => ru k (pc + 1) ls st (eUp h a e)) := by
  rw [ru_un hf]
  show eN (hL h a (fun n f => inR i n (some (.inl (pc + 1, ls, st, eUp h a (.inl (1, n, .inr (.inl (vp_updL f i.toNatClampNeg x))))))))) _ = _
  unfold hL wL
  rcases hc : h.1 a with ⟨t, n, g | g | g | g | g⟩ | y
  · rfl
  · dsimp only
    rw [show (bif Nat.beq t 1 then inR i n (some (Sum.inl (pc + 1, ls, st, eUp h a (.inl (1, n, .inr (.inl (vp_updL g i.toNatClampNeg x))))))) else none : eO) = bo (Nat.beq t 1) _ from rfl, eN_bo, eN_inR]
    rfl
  all_goals rfl
theorem ru_alen {a : Nat} (hf : eFind (qt k) pc = some (pc, .arraylength, 1, ra, rb, wi)) : ru k pc ls (.ref a :: st) h = aN (h.1 a) (fun x => ru k (pc + 1) ls (.int x :: st) h) := by
  rw [ru_un hf]
  show eN (hN h a (fun n => some (.inl (pc + 1, ls, .int (Int32.ofNat n) :: st, h)))) _ = _
  unfold hN aN
  rcases hc : h.1 a with ⟨t, n, g⟩ | y
  · dsimp only
    cases Nat.ble t 6 <;> rfl
  · rfl
theorem ru_sw {x : Int32} {d lo hi : Int} {offs : Array Int} {len : Nat} (hf : eFind (qt k) pc = some (pc, .tableswitch d lo hi offs, len, ra, rb, wi)) : ru k pc ls (.int x :: st) h = swF (eSw pc x d lo hi offs) (fun z => ru k z ls st h) := by
  rw [ru_un hf]
  show eN (match eSw pc x d lo hi offs with | some z => if 0 ≤ z then some (.inl (z.toNat, ls, st, h)) else none | none => none) _ = _
  unfold swF
  cases eSw pc x d lo hi offs with
  | none => rfl
  | some z =>
    dsimp only
    split <;> rfl
theorem ru_aast {a v : Nat} {i : Int32} (hf : eFind (qt k) pc = some (pc, .aastore, 1, ra, rb, wi)) : ru k pc ls (.ref v :: .int i :: .ref a :: st) h = wQ (h.1 a) (h.1 v) i v (fun e => ru k (pc + 1) ls st (eUp h a e)) := by
  rw [ru_un hf]
  show eN (hQ h a (fun tg n f => hO h v (fun cv _ => bo ((Nat.beq tg 3 && Nat.beq cv 9) || (Nat.beq tg 4 && Nat.beq cv 8)) (inR i n (some (.inl (pc + 1, ls, st, eUp h a (.inl (tg, n, .inr (.inr (.inr (.inr (va_up f i.toNatClampNeg (some v)))))))))))))) _ = _
  unfold hQ hO wQ
  rcases hc : h.1 a with ⟨t, n, g | g | g | g | g⟩ | x
  · rfl
  · rfl
  · rfl
  · rfl
  · dsimp only
    cases (Nat.ble 3 t && Nat.ble t 6) with
    | false => rfl
    | true =>
      rcases hv : h.1 v with y | y
      · rfl
      · dsimp only [cond_true]
        show eN (bo _ (inR i n _)) _ = bo true (bo _ (inR i n _))
        rw [eN_bo, eN_inR]
        rfl
  · rfl
theorem ru_cpy {a0 a1 : Nat} {n9 dp sp : Int32} (hf : eFind (qt k) pc = some (pc, .invokestatic n, 3, 9998, rb, wi)) (hsum : eSum st ≤ 8) : ru k pc ls (.int n9 :: .int dp :: .ref a1 :: .int sp :: .ref a0 :: st) h = cP (h.1 a0) (h.1 a1) sp dp n9 (fun e => ru k (pc + 3) ls st (eUp h a1 e)) := by
  rw [ru_un hf]
  show eN (hI h a0 0 (fun n0 f => hI h a1 0 (fun n1 g => bo (Nat.ble (eSum st) 8) (if sp < 0 ∨ dp < 0 ∨ n9 < 0 ∨ n0 < sp.toNatClampNeg + n9.toNatClampNeg ∨ n1 < dp.toNatClampNeg + n9.toNatClampNeg then none else some (.inl (pc + 3, ls, st, eUp h a1 (.inl (0, n1, .inl (va_cpy f g sp.toNatClampNeg dp.toNatClampNeg n9.toNatClampNeg))))))))) _ = _
  rw [Nat.ble_eq_true_of_le hsum]
  unfold hI cP
  rcases hc0 : h.1 a0 with ⟨t0, n0, f | f | f | f | f⟩ | x
  · dsimp only
    cases Nat.beq t0 0 with
    | false => rfl
    | true =>
      rcases hc1 : h.1 a1 with ⟨t1, n1, g | g | g | g | g⟩ | y
      · dsimp only [cond_true]
        cases Nat.beq t1 0 with
        | false => rfl
        | true =>
          dsimp only [cond_true, bo]
          split <;> rfl
      all_goals rfl
  all_goals rfl
theorem ru_inv {r : eRow} {j : Nat} {as t : List Value} {pc' : Nat} (hf : eFind (qt k) pc = some r) (hj : j < k) (hs : estep none (eTo qm qt k) r ls st h = eInv (eTo qm qt k) j as t h (fun s h' => some (.inl (pc', ls, s, h')))) (hsum : eSum t ≤ 8) : ru k pc ls st h = cl (den j as h) (fun v h' => ru k pc' ls (v.toList ++ t) h') := by
  rw [ru_un hf, hs]
  unfold eInv
  rw [eTo_den hj, Nat.ble_eq_true_of_le hsum]
  cases den j as h with
  | none => rfl
  | some x => rfl
theorem ru_invb {r : eRow} {j : Nat} {as t : List Value} {pc' : Nat} (hf : eFind (qt k) pc = some r) (hj : j < k) (hs : estep none (eTo qm qt k) r ls st h = eInv (eTo qm qt k) j as t h (fun s h' => some (.inl (pc', ls, s, h')))) : ru k pc ls st h = bo (Nat.ble (eSum t) 8) (cl (den j as h) (fun v h' => ru k pc' ls (v.toList ++ t) h')) := by
  rw [ru_un hf, hs]
  unfold eInv
  rw [eTo_den hj, eN_bo]
  cases den j as h with
  | none => rfl
  | some x => rfl
end RUL
/-! what simp needs to run a method -/
theorem eKls : (eKl none = none) ∧ (∀ x, eKl (some (.int x)) = some (.int x)) ∧ (∀ x, eKl (some (.ref x)) = some (.ref x)) ∧ (∀ x, eKl (some (.long x)) = none) ∧ (∀ x, eKl (some (.float x)) = some (.float x)) := ⟨rfl, fun _ => rfl, fun _ => rfl, fun _ => rfl, fun _ => rfl⟩
theorem bo_true {α : Type} (o : Option α) : bo true o = o := rfl
theorem bo_false {α : Type} (o : Option α) : bo false o = none := rfl
theorem eUp_at (h : eH) (a : Nat) (e : va_E) : (eUp h a e).1 a = e := by simp [eUp, va_up]
theorem eUp_ne {h : eH} {a b : Nat} {e : va_E} (hb : b ≠ a) : (eUp h a e).1 b = h.1 b := by simp [eUp, va_up, hb]
theorem eUp_2 (h : eH) (a : Nat) (e : va_E) : (eUp h a e).2 = h.2 := rfl
theorem eUp_if (h : eH) (a b : Nat) (e : va_E) : (eUp h a e).1 b = if b = a then e else h.1 b := by simp [eUp, va_up]
theorem inR_nI {α : Type} {j n : Nat} {o : Option α} (hj : j < n) (hn : n < 2 ^ 31) : inR (nI j) n o = o := by
  unfold inR
  rw [if_neg (nI_in hj hn)]
theorem gF_sf {α : Type} {C b : Nat} {fs : List Value} {v : Value} {f : Value → Option α} (h : fs[b]? = some v) : gF (.inr (C, fs)) C b f = f v := by
  unfold gF
  dsimp only
  rw [Nat.beq_refl, h]
  rfl
theorem pF_sf {α : Type} {C b : Nat} {fs : List Value} {v : Value} {f : va_E → Option α} (h : b < fs.length) : pF (.inr (C, fs)) C b v f = bo (okv (qty C b) v) (f (.inr (C, fs.set b v))) := by
  unfold pF
  dsimp only
  rw [Nat.beq_refl, show Nat.blt b fs.length = true from Nat.ble_eq_true_of_le h, Bool.and_true, Bool.true_and]
theorem gFs {α : Type} : (∀ (C : Nat) (x0 : Value) (t : List Value) (f : Value → Option α), gF (.inr (C, x0 :: t)) C 0 f = f x0) ∧
  (∀ (C : Nat) (x0 x1 : Value) (t : List Value) (f : Value → Option α), gF (.inr (C, x0 :: x1 :: t)) C 1 f = f x1) ∧
  (∀ (C : Nat) (x0 x1 x2 : Value) (t : List Value) (f : Value → Option α), gF (.inr (C, x0 :: x1 :: x2 :: t)) C 2 f = f x2) ∧
  (∀ (C : Nat) (x0 x1 x2 x3 : Value) (t : List Value) (f : Value → Option α), gF (.inr (C, x0 :: x1 :: x2 :: x3 :: t)) C 3 f = f x3) ∧
  (∀ (C : Nat) (x0 x1 x2 x3 x4 : Value) (t : List Value) (f : Value → Option α), gF (.inr (C, x0 :: x1 :: x2 :: x3 :: x4 :: t)) C 4 f = f x4) ∧
  (∀ (C : Nat) (x0 x1 x2 x3 x4 x5 : Value) (t : List Value) (f : Value → Option α), gF (.inr (C, x0 :: x1 :: x2 :: x3 :: x4 :: x5 :: t)) C 5 f = f x5) ∧
  (∀ (C : Nat) (x0 x1 x2 x3 x4 x5 x6 : Value) (t : List Value) (f : Value → Option α), gF (.inr (C, x0 :: x1 :: x2 :: x3 :: x4 :: x5 :: x6 :: t)) C 6 f = f x6) ∧
  (∀ (C : Nat) (x0 x1 x2 x3 x4 x5 x6 x7 : Value) (t : List Value) (f : Value → Option α), gF (.inr (C, x0 :: x1 :: x2 :: x3 :: x4 :: x5 :: x6 :: x7 :: t)) C 7 f = f x7) ∧
  (∀ (C : Nat) (x0 x1 x2 x3 x4 x5 x6 x7 x8 : Value) (t : List Value) (f : Value → Option α), gF (.inr (C, x0 :: x1 :: x2 :: x3 :: x4 :: x5 :: x6 :: x7 :: x8 :: t)) C 8 f = f x8) ∧
  (∀ (C : Nat) (x0 x1 x2 x3 x4 x5 x6 x7 x8 x9 : Value) (t : List Value) (f : Value → Option α), gF (.inr (C, x0 :: x1 :: x2 :: x3 :: x4 :: x5 :: x6 :: x7 :: x8 :: x9 :: t)) C 9 f = f x9) ∧
  (∀ (C : Nat) (x0 x1 x2 x3 x4 x5 x6 x7 x8 x9 x10 : Value) (t : List Value) (f : Value → Option α), gF (.inr (C, x0 :: x1 :: x2 :: x3 :: x4 :: x5 :: x6 :: x7 :: x8 :: x9 :: x10 :: t)) C 10 f = f x10) ∧
  (∀ (C : Nat) (x0 x1 x2 x3 x4 x5 x6 x7 x8 x9 x10 x11 : Value) (t : List Value) (f : Value → Option α), gF (.inr (C, x0 :: x1 :: x2 :: x3 :: x4 :: x5 :: x6 :: x7 :: x8 :: x9 :: x10 :: x11 :: t)) C 11 f = f x11) ∧
  (∀ (C : Nat) (x0 x1 x2 x3 x4 x5 x6 x7 x8 x9 x10 x11 x12 : Value) (t : List Value) (f : Value → Option α), gF (.inr (C, x0 :: x1 :: x2 :: x3 :: x4 :: x5 :: x6 :: x7 :: x8 :: x9 :: x10 :: x11 :: x12 :: t)) C 12 f = f x12) ∧
  (∀ (C : Nat) (x0 x1 x2 x3 x4 x5 x6 x7 x8 x9 x10 x11 x12 x13 : Value) (t : List Value) (f : Value → Option α), gF (.inr (C, x0 :: x1 :: x2 :: x3 :: x4 :: x5 :: x6 :: x7 :: x8 :: x9 :: x10 :: x11 :: x12 :: x13 :: t)) C 13 f = f x13) ∧
  (∀ (C : Nat) (x0 x1 x2 x3 x4 x5 x6 x7 x8 x9 x10 x11 x12 x13 x14 : Value) (t : List Value) (f : Value → Option α), gF (.inr (C, x0 :: x1 :: x2 :: x3 :: x4 :: x5 :: x6 :: x7 :: x8 :: x9 :: x10 :: x11 :: x12 :: x13 :: x14 :: t)) C 14 f = f x14) ∧
  (∀ (C : Nat) (x0 x1 x2 x3 x4 x5 x6 x7 x8 x9 x10 x11 x12 x13 x14 x15 : Value) (t : List Value) (f : Value → Option α), gF (.inr (C, x0 :: x1 :: x2 :: x3 :: x4 :: x5 :: x6 :: x7 :: x8 :: x9 :: x10 :: x11 :: x12 :: x13 :: x14 :: x15 :: t)) C 15 f = f x15) ∧
  (∀ (C : Nat) (x0 x1 x2 x3 x4 x5 x6 x7 x8 x9 x10 x11 x12 x13 x14 x15 x16 : Value) (t : List Value) (f : Value → Option α), gF (.inr (C, x0 :: x1 :: x2 :: x3 :: x4 :: x5 :: x6 :: x7 :: x8 :: x9 :: x10 :: x11 :: x12 :: x13 :: x14 :: x15 :: x16 :: t)) C 16 f = f x16) ∧
  (∀ (C : Nat) (x0 x1 x2 x3 x4 x5 x6 x7 x8 x9 x10 x11 x12 x13 x14 x15 x16 x17 : Value) (t : List Value) (f : Value → Option α), gF (.inr (C, x0 :: x1 :: x2 :: x3 :: x4 :: x5 :: x6 :: x7 :: x8 :: x9 :: x10 :: x11 :: x12 :: x13 :: x14 :: x15 :: x16 :: x17 :: t)) C 17 f = f x17) ∧
  (∀ (C : Nat) (x0 x1 x2 x3 x4 x5 x6 x7 x8 x9 x10 x11 x12 x13 x14 x15 x16 x17 x18 : Value) (t : List Value) (f : Value → Option α), gF (.inr (C, x0 :: x1 :: x2 :: x3 :: x4 :: x5 :: x6 :: x7 :: x8 :: x9 :: x10 :: x11 :: x12 :: x13 :: x14 :: x15 :: x16 :: x17 :: x18 :: t)) C 18 f = f x18) ∧
  (∀ (C : Nat) (x0 x1 x2 x3 x4 x5 x6 x7 x8 x9 x10 x11 x12 x13 x14 x15 x16 x17 x18 x19 : Value) (t : List Value) (f : Value → Option α), gF (.inr (C, x0 :: x1 :: x2 :: x3 :: x4 :: x5 :: x6 :: x7 :: x8 :: x9 :: x10 :: x11 :: x12 :: x13 :: x14 :: x15 :: x16 :: x17 :: x18 :: x19 :: t)) C 19 f = f x19) ∧
  (∀ (C : Nat) (x0 x1 x2 x3 x4 x5 x6 x7 x8 x9 x10 x11 x12 x13 x14 x15 x16 x17 x18 x19 x20 : Value) (t : List Value) (f : Value → Option α), gF (.inr (C, x0 :: x1 :: x2 :: x3 :: x4 :: x5 :: x6 :: x7 :: x8 :: x9 :: x10 :: x11 :: x12 :: x13 :: x14 :: x15 :: x16 :: x17 :: x18 :: x19 :: x20 :: t)) C 20 f = f x20) ∧
  (∀ (C : Nat) (x0 x1 x2 x3 x4 x5 x6 x7 x8 x9 x10 x11 x12 x13 x14 x15 x16 x17 x18 x19 x20 x21 : Value) (t : List Value) (f : Value → Option α), gF (.inr (C, x0 :: x1 :: x2 :: x3 :: x4 :: x5 :: x6 :: x7 :: x8 :: x9 :: x10 :: x11 :: x12 :: x13 :: x14 :: x15 :: x16 :: x17 :: x18 :: x19 :: x20 :: x21 :: t)) C 21 f = f x21) ∧
  (∀ (C : Nat) (x0 x1 x2 x3 x4 x5 x6 x7 x8 x9 x10 x11 x12 x13 x14 x15 x16 x17 x18 x19 x20 x21 x22 : Value) (t : List Value) (f : Value → Option α), gF (.inr (C, x0 :: x1 :: x2 :: x3 :: x4 :: x5 :: x6 :: x7 :: x8 :: x9 :: x10 :: x11 :: x12 :: x13 :: x14 :: x15 :: x16 :: x17 :: x18 :: x19 :: x20 :: x21 :: x22 :: t)) C 22 f = f x22) ∧
  (∀ (C : Nat) (x0 x1 x2 x3 x4 x5 x6 x7 x8 x9 x10 x11 x12 x13 x14 x15 x16 x17 x18 x19 x20 x21 x22 x23 : Value) (t : List Value) (f : Value → Option α), gF (.inr (C, x0 :: x1 :: x2 :: x3 :: x4 :: x5 :: x6 :: x7 :: x8 :: x9 :: x10 :: x11 :: x12 :: x13 :: x14 :: x15 :: x16 :: x17 :: x18 :: x19 :: x20 :: x21 :: x22 :: x23 :: t)) C 23 f = f x23) := by
  refine ⟨?_, ?_, ?_, ?_, ?_, ?_, ?_, ?_, ?_, ?_, ?_, ?_, ?_, ?_, ?_, ?_, ?_, ?_, ?_, ?_, ?_, ?_, ?_, ?_⟩ <;> intros <;> exact gF_sf rfl
theorem pFs {α : Type} : (∀ (C : Nat) (x0 : Value) (t : List Value) (v : Value) (f : va_E → Option α), pF (.inr (C, x0 :: t)) C 0 v f = bo (okv (qty C 0) v) (f (.inr (C, v :: t)))) ∧
  (∀ (C : Nat) (x0 x1 : Value) (t : List Value) (v : Value) (f : va_E → Option α), pF (.inr (C, x0 :: x1 :: t)) C 1 v f = bo (okv (qty C 1) v) (f (.inr (C, x0 :: v :: t)))) ∧
  (∀ (C : Nat) (x0 x1 x2 : Value) (t : List Value) (v : Value) (f : va_E → Option α), pF (.inr (C, x0 :: x1 :: x2 :: t)) C 2 v f = bo (okv (qty C 2) v) (f (.inr (C, x0 :: x1 :: v :: t)))) ∧
  (∀ (C : Nat) (x0 x1 x2 x3 : Value) (t : List Value) (v : Value) (f : va_E → Option α), pF (.inr (C, x0 :: x1 :: x2 :: x3 :: t)) C 3 v f = bo (okv (qty C 3) v) (f (.inr (C, x0 :: x1 :: x2 :: v :: t)))) ∧
  (∀ (C : Nat) (x0 x1 x2 x3 x4 : Value) (t : List Value) (v : Value) (f : va_E → Option α), pF (.inr (C, x0 :: x1 :: x2 :: x3 :: x4 :: t)) C 4 v f = bo (okv (qty C 4) v) (f (.inr (C, x0 :: x1 :: x2 :: x3 :: v :: t)))) ∧
  (∀ (C : Nat) (x0 x1 x2 x3 x4 x5 : Value) (t : List Value) (v : Value) (f : va_E → Option α), pF (.inr (C, x0 :: x1 :: x2 :: x3 :: x4 :: x5 :: t)) C 5 v f = bo (okv (qty C 5) v) (f (.inr (C, x0 :: x1 :: x2 :: x3 :: x4 :: v :: t)))) ∧
  (∀ (C : Nat) (x0 x1 x2 x3 x4 x5 x6 : Value) (t : List Value) (v : Value) (f : va_E → Option α), pF (.inr (C, x0 :: x1 :: x2 :: x3 :: x4 :: x5 :: x6 :: t)) C 6 v f = bo (okv (qty C 6) v) (f (.inr (C, x0 :: x1 :: x2 :: x3 :: x4 :: x5 :: v :: t)))) ∧
  (∀ (C : Nat) (x0 x1 x2 x3 x4 x5 x6 x7 : Value) (t : List Value) (v : Value) (f : va_E → Option α), pF (.inr (C, x0 :: x1 :: x2 :: x3 :: x4 :: x5 :: x6 :: x7 :: t)) C 7 v f = bo (okv (qty C 7) v) (f (.inr (C, x0 :: x1 :: x2 :: x3 :: x4 :: x5 :: x6 :: v :: t)))) ∧
  (∀ (C : Nat) (x0 x1 x2 x3 x4 x5 x6 x7 x8 : Value) (t : List Value) (v : Value) (f : va_E → Option α), pF (.inr (C, x0 :: x1 :: x2 :: x3 :: x4 :: x5 :: x6 :: x7 :: x8 :: t)) C 8 v f = bo (okv (qty C 8) v) (f (.inr (C, x0 :: x1 :: x2 :: x3 :: x4 :: x5 :: x6 :: x7 :: v :: t)))) ∧
  (∀ (C : Nat) (x0 x1 x2 x3 x4 x5 x6 x7 x8 x9 : Value) (t : List Value) (v : Value) (f : va_E → Option α), pF (.inr (C, x0 :: x1 :: x2 :: x3 :: x4 :: x5 :: x6 :: x7 :: x8 :: x9 :: t)) C 9 v f = bo (okv (qty C 9) v) (f (.inr (C, x0 :: x1 :: x2 :: x3 :: x4 :: x5 :: x6 :: x7 :: x8 :: v :: t)))) ∧
  (∀ (C : Nat) (x0 x1 x2 x3 x4 x5 x6 x7 x8 x9 x10 : Value) (t : List Value) (v : Value) (f : va_E → Option α), pF (.inr (C, x0 :: x1 :: x2 :: x3 :: x4 :: x5 :: x6 :: x7 :: x8 :: x9 :: x10 :: t)) C 10 v f = bo (okv (qty C 10) v) (f (.inr (C, x0 :: x1 :: x2 :: x3 :: x4 :: x5 :: x6 :: x7 :: x8 :: x9 :: v :: t)))) ∧
  (∀ (C : Nat) (x0 x1 x2 x3 x4 x5 x6 x7 x8 x9 x10 x11 : Value) (t : List Value) (v : Value) (f : va_E → Option α), pF (.inr (C, x0 :: x1 :: x2 :: x3 :: x4 :: x5 :: x6 :: x7 :: x8 :: x9 :: x10 :: x11 :: t)) C 11 v f = bo (okv (qty C 11) v) (f (.inr (C, x0 :: x1 :: x2 :: x3 :: x4 :: x5 :: x6 :: x7 :: x8 :: x9 :: x10 :: v :: t)))) ∧
  (∀ (C : Nat) (x0 x1 x2 x3 x4 x5 x6 x7 x8 x9 x10 x11 x12 : Value) (t : List Value) (v : Value) (f : va_E → Option α), pF (.inr (C, x0 :: x1 :: x2 :: x3 :: x4 :: x5 :: x6 :: x7 :: x8 :: x9 :: x10 :: x11 :: x12 :: t)) C 12 v f = bo (okv (qty C 12) v) (f (.inr (C, x0 :: x1 :: x2 :: x3 :: x4 :: x5 :: x6 :: x7 :: x8 :: x9 :: x10 :: x11 :: v :: t)))) ∧
  (∀ (C : Nat) (x0 x1 x2 x3 x4 x5 x6 x7 x8 x9 x10 x11 x12 x13 : Value) (t : List Value) (v : Value) (f : va_E → Option α), pF (.inr (C, x0 :: x1 :: x2 :: x3 :: x4 :: x5 :: x6 :: x7 :: x8 :: x9 :: x10 :: x11 :: x12 :: x13 :: t)) C 13 v f = bo (okv (qty C 13) v) (f (.inr (C, x0 :: x1 :: x2 :: x3 :: x4 :: x5 :: x6 :: x7 :: x8 :: x9 :: x10 :: x11 :: x12 :: v :: t)))) ∧
  (∀ (C : Nat) (x0 x1 x2 x3 x4 x5 x6 x7 x8 x9 x10 x11 x12 x13 x14 : Value) (t : List Value) (v : Value) (f : va_E → Option α), pF (.inr (C, x0 :: x1 :: x2 :: x3 :: x4 :: x5 :: x6 :: x7 :: x8 :: x9 :: x10 :: x11 :: x12 :: x13 :: x14 :: t)) C 14 v f = bo (okv (qty C 14) v) (f (.inr (C, x0 :: x1 :: x2 :: x3 :: x4 :: x5 :: x6 :: x7 :: x8 :: x9 :: x10 :: x11 :: x12 :: x13 :: v :: t)))) ∧
  (∀ (C : Nat) (x0 x1 x2 x3 x4 x5 x6 x7 x8 x9 x10 x11 x12 x13 x14 x15 : Value) (t : List Value) (v : Value) (f : va_E → Option α), pF (.inr (C, x0 :: x1 :: x2 :: x3 :: x4 :: x5 :: x6 :: x7 :: x8 :: x9 :: x10 :: x11 :: x12 :: x13 :: x14 :: x15 :: t)) C 15 v f = bo (okv (qty C 15) v) (f (.inr (C, x0 :: x1 :: x2 :: x3 :: x4 :: x5 :: x6 :: x7 :: x8 :: x9 :: x10 :: x11 :: x12 :: x13 :: x14 :: v :: t)))) ∧
  (∀ (C : Nat) (x0 x1 x2 x3 x4 x5 x6 x7 x8 x9 x10 x11 x12 x13 x14 x15 x16 : Value) (t : List Value) (v : Value) (f : va_E → Option α), pF (.inr (C, x0 :: x1 :: x2 :: x3 :: x4 :: x5 :: x6 :: x7 :: x8 :: x9 :: x10 :: x11 :: x12 :: x13 :: x14 :: x15 :: x16 :: t)) C 16 v f = bo (okv (qty C 16) v) (f (.inr (C, x0 :: x1 :: x2 :: x3 :: x4 :: x5 :: x6 :: x7 :: x8 :: x9 :: x10 :: x11 :: x12 :: x13 :: x14 :: x15 :: v :: t)))) ∧
  (∀ (C : Nat) (x0 x1 x2 x3 x4 x5 x6 x7 x8 x9 x10 x11 x12 x13 x14 x15 x16 x17 : Value) (t : List Value) (v : Value) (f : va_E → Option α), pF (.inr (C, x0 :: x1 :: x2 :: x3 :: x4 :: x5 :: x6 :: x7 :: x8 :: x9 :: x10 :: x11 :: x12 :: x13 :: x14 :: x15 :: x16 :: x17 :: t)) C 17 v f = bo (okv (qty C 17) v) (f (.inr (C, x0 :: x1 :: x2 :: x3 :: x4 :: x5 :: x6 :: x7 :: x8 :: x9 :: x10 :: x11 :: x12 :: x13 :: x14 :: x15 :: x16 :: v :: t)))) ∧
  (∀ (C : Nat) (x0 x1 x2 x3 x4 x5 x6 x7 x8 x9 x10 x11 x12 x13 x14 x15 x16 x17 x18 : Value) (t : List Value) (v : Value) (f : va_E → Option α), pF (.inr (C, x0 :: x1 :: x2 :: x3 :: x4 :: x5 :: x6 :: x7 :: x8 :: x9 :: x10 :: x11 :: x12 :: x13 :: x14 :: x15 :: x16 :: x17 :: x18 :: t)) C 18 v f = bo (okv (qty C 18) v) (f (.inr (C, x0 :: x1 :: x2 :: x3 :: x4 :: x5 :: x6 :: x7 :: x8 :: x9 :: x10 :: x11 :: x12 :: x13 :: x14 :: x15 :: x16 :: x17 :: v :: t)))) ∧
  (∀ (C : Nat) (x0 x1 x2 x3 x4 x5 x6 x7 x8 x9 x10 x11 x12 x13 x14 x15 x16 x17 x18 x19 : Value) (t : List Value) (v : Value) (f : va_E → Option α), pF (.inr (C, x0 :: x1 :: x2 :: x3 :: x4 :: x5 :: x6 :: x7 :: x8 :: x9 :: x10 :: x11 :: x12 :: x13 :: x14 :: x15 :: x16 :: x17 :: x18 :: x19 :: t)) C 19 v f = bo (okv (qty C 19) v) (f (.inr (C, x0 :: x1 :: x2 :: x3 :: x4 :: x5 :: x6 :: x7 :: x8 :: x9 :: x10 :: x11 :: x12 :: x13 :: x14 :: x15 :: x16 :: x17 :: x18 :: v :: t)))) ∧
  (∀ (C : Nat) (x0 x1 x2 x3 x4 x5 x6 x7 x8 x9 x10 x11 x12 x13 x14 x15 x16 x17 x18 x19 x20 : Value) (t : List Value) (v : Value) (f : va_E → Option α), pF (.inr (C, x0 :: x1 :: x2 :: x3 :: x4 :: x5 :: x6 :: x7 :: x8 :: x9 :: x10 :: x11 :: x12 :: x13 :: x14 :: x15 :: x16 :: x17 :: x18 :: x19 :: x20 :: t)) C 20 v f = bo (okv (qty C 20) v) (f (.inr (C, x0 :: x1 :: x2 :: x3 :: x4 :: x5 :: x6 :: x7 :: x8 :: x9 :: x10 :: x11 :: x12 :: x13 :: x14 :: x15 :: x16 :: x17 :: x18 :: x19 :: v :: t)))) ∧
  (∀ (C : Nat) (x0 x1 x2 x3 x4 x5 x6 x7 x8 x9 x10 x11 x12 x13 x14 x15 x16 x17 x18 x19 x20 x21 : Value) (t : List Value) (v : Value) (f : va_E → Option α), pF (.inr (C, x0 :: x1 :: x2 :: x3 :: x4 :: x5 :: x6 :: x7 :: x8 :: x9 :: x10 :: x11 :: x12 :: x13 :: x14 :: x15 :: x16 :: x17 :: x18 :: x19 :: x20 :: x21 :: t)) C 21 v f = bo (okv (qty C 21) v) (f (.inr (C, x0 :: x1 :: x2 :: x3 :: x4 :: x5 :: x6 :: x7 :: x8 :: x9 :: x10 :: x11 :: x12 :: x13 :: x14 :: x15 :: x16 :: x17 :: x18 :: x19 :: x20 :: v :: t)))) ∧
  (∀ (C : Nat) (x0 x1 x2 x3 x4 x5 x6 x7 x8 x9 x10 x11 x12 x13 x14 x15 x16 x17 x18 x19 x20 x21 x22 : Value) (t : List Value) (v : Value) (f : va_E → Option α), pF (.inr (C, x0 :: x1 :: x2 :: x3 :: x4 :: x5 :: x6 :: x7 :: x8 :: x9 :: x10 :: x11 :: x12 :: x13 :: x14 :: x15 :: x16 :: x17 :: x18 :: x19 :: x20 :: x21 :: x22 :: t)) C 22 v f = bo (okv (qty C 22) v) (f (.inr (C, x0 :: x1 :: x2 :: x3 :: x4 :: x5 :: x6 :: x7 :: x8 :: x9 :: x10 :: x11 :: x12 :: x13 :: x14 :: x15 :: x16 :: x17 :: x18 :: x19 :: x20 :: x21 :: v :: t)))) ∧
  (∀ (C : Nat) (x0 x1 x2 x3 x4 x5 x6 x7 x8 x9 x10 x11 x12 x13 x14 x15 x16 x17 x18 x19 x20 x21 x22 x23 : Value) (t : List Value) (v : Value) (f : va_E → Option α), pF (.inr (C, x0 :: x1 :: x2 :: x3 :: x4 :: x5 :: x6 :: x7 :: x8 :: x9 :: x10 :: x11 :: x12 :: x13 :: x14 :: x15 :: x16 :: x17 :: x18 :: x19 :: x20 :: x21 :: x22 :: x23 :: t)) C 23 v f = bo (okv (qty C 23) v) (f (.inr (C, x0 :: x1 :: x2 :: x3 :: x4 :: x5 :: x6 :: x7 :: x8 :: x9 :: x10 :: x11 :: x12 :: x13 :: x14 :: x15 :: x16 :: x17 :: x18 :: x19 :: x20 :: x21 :: x22 :: v :: t)))) := by
  refine ⟨?_, ?_, ?_, ?_, ?_, ?_, ?_, ?_, ?_, ?_, ?_, ?_, ?_, ?_, ?_, ?_, ?_, ?_, ?_, ?_, ?_, ?_, ?_, ?_⟩ <;> intros <;> exact pF_sf (by simp only [List.length_cons]; omega)
theorem okq : (∀ x, okv (qty 0 0) (.ref x) = true) ∧ (∀ x, okv (qty 0 1) (.ref x) = true) ∧ (∀ x, okv (qty 0 2) (.ref x) = true) ∧ (∀ x, okv (qty 0 3) (.ref x) = true) ∧ (∀ x, okv (qty 0 4) (.ref x) = true) ∧ (∀ x, okv (qty 0 5) (.ref x) = true) ∧ (∀ x, okv (qty 0 6) (.ref x) = true) ∧ (∀ x, okv (qty 0 7) (.int x) = true) ∧ (∀ x, okv (qty 1 0) (.ref x) = true) ∧ (∀ x, okv (qty 1 1) (.ref x) = true) ∧ (∀ x, okv (qty 1 2) (.ref x) = true) ∧ (∀ x, okv (qty 1 3) (.ref x) = true) ∧ (∀ x, okv (qty 1 4) (.ref x) = true) ∧ (∀ x, okv (qty 1 5) (.ref x) = true) ∧ (∀ x, okv (qty 1 6) (.ref x) = true) ∧ (∀ x, okv (qty 2 0) (.ref x) = true) ∧ (∀ x, okv (qty 2 1) (.ref x) = true) ∧ (∀ x, okv (qty 2 2) (.ref x) = true) ∧ (∀ x, okv (qty 2 3) (.ref x) = true) ∧ (∀ x, okv (qty 3 0) (.ref x) = true) ∧ (∀ x, okv (qty 3 1) (.ref x) = true) ∧ (∀ x, okv (qty 3 2) (.ref x) = true) ∧ (∀ x, okv (qty 3 3) (.ref x) = true) ∧ (∀ x, okv (qty 3 4) (.ref x) = true) ∧ (∀ x, okv (qty 3 5) (.ref x) = true) ∧ (∀ x, okv (qty 4 0) (.ref x) = true) ∧ (∀ x, okv (qty 4 1) (.ref x) = true) ∧ (∀ x, okv (qty 4 2) (.ref x) = true) ∧ (∀ x, okv (qty 5 0) (.int x) = true) ∧ (∀ x, okv (qty 5 1) (.int x) = true) ∧ (∀ x, okv (qty 5 2) (.int x) = true) ∧ (∀ x, okv (qty 5 3) (.ref x) = true) ∧ (∀ x, okv (qty 5 4) (.ref x) = true) ∧ (∀ x, okv (qty 5 5) (.ref x) = true) ∧ (∀ x, okv (qty 5 6) (.int x) = true) ∧ (∀ x, okv (qty 5 7) (.int x) = true) ∧ (∀ x, okv (qty 5 8) (.int x) = true) ∧ (∀ x, okv (qty 5 9) (.int x) = true) ∧ (∀ x, okv (qty 5 10) (.ref x) = true) ∧ (∀ x, okv (qty 5 11) (.ref x) = true) ∧ (∀ x, okv (qty 5 12) (.int x) = (x == 0 || x == 1)) ∧ (∀ x, okv (qty 6 0) (.int x) = true) ∧ (∀ x, okv (qty 6 1) (.int x) = true) ∧ (∀ x, okv (qty 6 2) (.int x) = true) ∧ (∀ x, okv (qty 6 3) (.ref x) = true) ∧ (∀ x, okv (qty 6 4) (.ref x) = true) ∧ (∀ x, okv (qty 6 5) (.ref x) = true) ∧ (∀ x, okv (qty 6 6) (.ref x) = true) ∧ (∀ x, okv (qty 6 7) (.ref x) = true) ∧ (∀ x, okv (qty 6 8) (.ref x) = true) ∧ (∀ x, okv (qty 6 9) (.ref x) = true) ∧ (∀ x, okv (qty 7 0) (.ref x) = true) ∧ (∀ x, okv (qty 7 1) (.ref x) = true) ∧ (∀ x, okv (qty 7 2) (.ref x) = true) ∧ (∀ x, okv (qty 7 3) (.int x) = true) ∧ (∀ x, okv (qty 7 4) (.int x) = true) ∧ (∀ x, okv (qty 7 5) (.int x) = true) ∧ (∀ x, okv (qty 8 0) (.ref x) = true) ∧ (∀ x, okv (qty 9 0) (.ref x) = true) ∧ (∀ x, okv (qty 9 1) (.int x) = true) ∧ (∀ x, okv (qty 9 2) (.int x) = (x == 0 || x == 1)) ∧ (∀ x, okv (qty 10 0) (.ref x) = true) ∧ (∀ x, okv (qty 10 1) (.ref x) = true) ∧ (∀ x, okv (qty 10 2) (.ref x) = true) ∧ (∀ x, okv (qty 10 3) (.ref x) = true) ∧ (∀ x, okv (qty 10 4) (.ref x) = true) ∧ (∀ x, okv (qty 10 5) (.ref x) = true) ∧ (∀ x, okv (qty 10 6) (.ref x) = true) ∧ (∀ x, okv (qty 10 7) (.ref x) = true) ∧ (∀ x, okv (qty 10 8) (.ref x) = true) ∧ (∀ x, okv (qty 10 9) (.ref x) = true) ∧ (∀ x, okv (qty 10 10) (.ref x) = true) ∧ (∀ x, okv (qty 10 11) (.int x) = (x == 0 || x == 1)) ∧ (∀ x, okv (qty 10 12) (.int x) = (x == 0 || x == 1)) ∧ (∀ x, okv (qty 10 13) (.int x) = (x == 0 || x == 1)) ∧ (∀ x, okv (qty 10 14) (.int x) = (x == 0 || x == 1)) ∧ (∀ x, okv (qty 10 15) (.int x) = (x == 0 || x == 1)) ∧ (∀ x, okv (qty 10 16) (.int x) = (x == 0 || x == 1)) ∧ (∀ x, okv (qty 11 0) (.ref x) = true) ∧ (∀ x, okv (qty 11 1) (.ref x) = true) ∧ (∀ x, okv (qty 11 2) (.ref x) = true) ∧ (∀ x, okv (qty 11 3) (.ref x) = true) ∧ (∀ x, okv (qty 11 4) (.int x) = true) ∧ (∀ x, okv (qty 11 5) (.ref x) = true) ∧ (∀ x, okv (qty 11 6) (.ref x) = true) ∧ (∀ x, okv (qty 11 7) (.ref x) = true) ∧ (∀ x, okv (qty 11 8) (.ref x) = true) ∧ (∀ x, okv (qty 11 9) (.ref x) = true) ∧ (∀ x, okv (qty 11 10) (.int x) = true) ∧ (∀ x, okv (qty 11 11) (.ref x) = true) ∧ (∀ x, okv (qty 11 12) (.ref x) = true) ∧ (∀ x, okv (qty 11 13) (.ref x) = true) ∧ (∀ x, okv (qty 11 14) (.ref x) = true) ∧ (∀ x, okv (qty 11 15) (.ref x) = true) ∧ (∀ x, okv (qty 11 16) (.ref x) = true) ∧ (∀ x, okv (qty 11 17) (.ref x) = true) ∧ (∀ x, okv (qty 11 18) (.ref x) = true) ∧ (∀ x, okv (qty 11 19) (.int x) = true) ∧ (∀ x, okv (qty 11 20) (.int x) = true) ∧ (∀ x, okv (qty 11 21) (.int x) = true) ∧ (∀ x, okv (qty 11 22) (.ref x) = true) ∧ (∀ x, okv (qty 11 23) (.int x) = true) := ⟨fun _ => rfl, fun _ => rfl, fun _ => rfl, fun _ => rfl, fun _ => rfl, fun _ => rfl, fun _ => rfl, fun _ => rfl, fun _ => rfl, fun _ => rfl, fun _ => rfl, fun _ => rfl, fun _ => rfl, fun _ => rfl, fun _ => rfl, fun _ => rfl, fun _ => rfl, fun _ => rfl, fun _ => rfl, fun _ => rfl, fun _ => rfl, fun _ => rfl, fun _ => rfl, fun _ => rfl, fun _ => rfl, fun _ => rfl, fun _ => rfl, fun _ => rfl, fun _ => rfl, fun _ => rfl, fun _ => rfl, fun _ => rfl, fun _ => rfl, fun _ => rfl, fun _ => rfl, fun _ => rfl, fun _ => rfl, fun _ => rfl, fun _ => rfl, fun _ => rfl, fun _ => rfl, fun _ => rfl, fun _ => rfl, fun _ => rfl, fun _ => rfl, fun _ => rfl, fun _ => rfl, fun _ => rfl, fun _ => rfl, fun _ => rfl, fun _ => rfl, fun _ => rfl, fun _ => rfl, fun _ => rfl, fun _ => rfl, fun _ => rfl, fun _ => rfl, fun _ => rfl, fun _ => rfl, fun _ => rfl, fun _ => rfl, fun _ => rfl, fun _ => rfl, fun _ => rfl, fun _ => rfl, fun _ => rfl, fun _ => rfl, fun _ => rfl, fun _ => rfl, fun _ => rfl, fun _ => rfl, fun _ => rfl, fun _ => rfl, fun _ => rfl, fun _ => rfl, fun _ => rfl, fun _ => rfl, fun _ => rfl, fun _ => rfl, fun _ => rfl, fun _ => rfl, fun _ => rfl, fun _ => rfl, fun _ => rfl, fun _ => rfl, fun _ => rfl, fun _ => rfl, fun _ => rfl, fun _ => rfl, fun _ => rfl, fun _ => rfl, fun _ => rfl, fun _ => rfl, fun _ => rfl, fun _ => rfl, fun _ => rfl, fun _ => rfl, fun _ => rfl, fun _ => rfl, fun _ => rfl, fun _ => rfl, fun _ => rfl⟩
theorem aI_nI {α : Type} {tg n j : Nat} {g : Nat → Int32} {f : Int32 → Option α} (hj : j < n) (hn : n < 2 ^ 31) : aI (.inl (tg, n, .inl g)) tg (nI j) f = f (g j) := by
  unfold aI
  dsimp only
  rw [Nat.beq_refl, bo_true, inR_nI hj hn, nI_clamp (by omega)]
theorem aL_nI {α : Type} {n j : Nat} {g : Nat → Int64} {f : Int64 → Option α} (hj : j < n) (hn : n < 2 ^ 31) : aL (.inl (1, n, .inr (.inl g))) (nI j) f = f (g j) := by
  unfold aL
  dsimp only
  rw [Nat.beq_refl, bo_true, inR_nI hj hn, nI_clamp (by omega)]
theorem aQ_nI {α : Type} {t n j q : Nat} {g : Nat → Option Nat} {f : Nat → Option α} (ht : 3 ≤ t) (ht2 : t ≤ 6) (hj : j < n) (hn : n < 2 ^ 31) (hq : g j = some q) : aQ (.inl (t, n, .inr (.inr (.inr (.inr g))))) (nI j) f = f q := by
  unfold aQ
  dsimp only
  rw [Nat.ble_eq_true_of_le ht, Nat.ble_eq_true_of_le ht2, inR_nI hj hn, nI_clamp (by omega), hq]
  rfl
theorem wI_nI {α : Type} {n j : Nat} {g : Nat → Int32} {x : Int32} {f : va_E → Option α} (hj : j < n) (hn : n < 2 ^ 31) : wI (.inl (0, n, .inl g)) (nI j) x f = f (.inl (0, n, .inl (upd g j x))) := by
  unfold wI
  dsimp only
  rw [Nat.beq_refl, bo_true, inR_nI hj hn, nI_clamp (by omega)]
theorem wZ_nI {α : Type} {n j : Nat} {g : Nat → Int32} {x : Int32} {f : va_E → Option α} (hj : j < n) (hn : n < 2 ^ 31) : wZ (.inl (2, n, .inl g)) (nI j) x f = bo (x == 0 || x == 1) (f (.inl (2, n, .inl (upd g j x)))) := by
  unfold wZ
  dsimp only
  rw [Nat.beq_refl, bo_true, inR_nI hj hn, nI_clamp (by omega)]
theorem wL_nI {α : Type} {n j : Nat} {g : Nat → Int64} {x : Int64} {f : va_E → Option α} (hj : j < n) (hn : n < 2 ^ 31) : wL (.inl (1, n, .inr (.inl g))) (nI j) x f = f (.inl (1, n, .inr (.inl (vp_updL g j x)))) := by
  unfold wL
  dsimp only
  rw [Nat.beq_refl, bo_true, inR_nI hj hn, nI_clamp (by omega)]
theorem aN_sf {α : Type} {n : Nat} {g} {t : Nat} {f : Int32 → Option α} (ht : t ≤ 6) : aN (.inl (t, n, g)) f = f (nI n) := by
  unfold aN
  dsimp only
  rw [Nat.ble_eq_true_of_le ht]
  rfl
theorem den_ob {k : Nat} {a : Nat} {as : List Value} {h : eH} {fs : List Value} (hl : alen (.ref a :: as) ≤ (qm k).2.2.1) (ha : h.1 a = .inr ((qm k).2.2.2.2.2.2.1, fs)) : den k (.ref a :: as) h = ru k 0 (entL (qm k).2.2.1 (.ref a :: as)) [] h := by
  rw [den_eq]
  have : okA (qm k) (.ref a :: as) h = true := by
    unfold okA
    dsimp only
    rw [ha, Nat.ble_eq_true_of_le hl]
    dsimp only
    rw [Nat.beq_refl, Bool.or_true]
    rfl
  rw [this]
  rfl
theorem den_st {k : Nat} {as : List Value} {h : eH} (hs : (qm k).2.2.2.2.1 = true) (hl : alen as ≤ (qm k).2.2.1) : den k as h = ru k 0 (entL (qm k).2.2.1 as) [] h := by
  rw [den_eq]
  have : okA (qm k) as h = true := by
    unfold okA
    rw [hs, Nat.ble_eq_true_of_le hl, Bool.true_or]
    rfl
  rw [this]
  rfl
