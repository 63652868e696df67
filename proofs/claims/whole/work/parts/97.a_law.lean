/-! THE LAW: its instructions -/
noncomputable def lu (L : Nat) (xs : Nat → Int32) (pc : Nat) (ls : eL) (st : List Value) (h : eH) : Option eR := eRun (some (L, xs)) (eTo qm qt 192) (qt 192) (pc, ls, st, h)
section LUL
variable {L : Nat} {xs : Nat → Int32} {pc n ra rb wi : Nat} {ls : eL} {st : List Value} {h : eH}
theorem lu_un {r : eRow} (hf : eFind (qt 192) pc = some r) : lu L xs pc ls st h = eN (estep (some (L, xs)) (eTo qm qt 192) r ls st h) (fun q => lu L xs q.1 q.2.1 q.2.2.1 q.2.2.2) := by
  cases hs : estep (some (L, xs)) (eTo qm qt 192) r ls st h with
  | none => exact eRun_no hf hs
  | some y => cases y with
    | inl q => exact eRun_go hf hs
    | inr x => exact eRun_end hf hs
theorem lu_go {r : eRow} {pc' : Nat} {ls' : eL} {st' : List Value} {h' : eH} (hf : eFind (qt 192) pc = some r) (hs : estep (some (L, xs)) (eTo qm qt 192) r ls st h = some (.inl (pc', ls', st', h'))) : lu L xs pc ls st h = lu L xs pc' ls' st' h' := by
  rw [lu_un hf, hs]; rfl
theorem lu_ret {r : eRow} {x : eR} (hf : eFind (qt 192) pc = some r) (hs : estep (some (L, xs)) (eTo qm qt 192) r ls st h = some (.inr x)) : lu L xs pc ls st h = some x := by
  rw [lu_un hf, hs]; rfl
theorem lu_if {r : eRow} {c : Prop} {dc : Decidable c} {p1 p2 : Nat} {st' : List Value} (hf : eFind (qt 192) pc = some r) (hs : estep (some (L, xs)) (eTo qm qt 192) r ls st h = @ite _ c dc (some (.inl (p1, ls, st', h))) (some (.inl (p2, ls, st', h)))) : lu L xs pc ls st h = @ite _ c dc (lu L xs p1 ls st' h) (lu L xs p2 ls st' h) := by
  rw [lu_un hf, hs]
  by_cases hc : c
  · rw [if_pos hc, if_pos hc]; rfl
  · rw [if_neg hc, if_neg hc]; rfl
theorem lu_bret {r : eRow} {b : Bool} {x : eR} (hf : eFind (qt 192) pc = some r) (hs : estep (some (L, xs)) (eTo qm qt 192) r ls st h = bo b (some (.inr x))) : lu L xs pc ls st h = bo b (some x) := by
  rw [lu_un hf, hs]
  cases b <;> rfl
theorem lu_sw {x : Int32} {d lo hi : Int} {offs : Array Int} {len : Nat} (hf : eFind (qt 192) pc = some (pc, .tableswitch d lo hi offs, len, ra, rb, wi)) : lu L xs pc ls (.int x :: st) h = swF (eSw pc x d lo hi offs) (fun z => lu L xs z ls st h) := by
  rw [lu_un hf]
  show eN (match eSw pc x d lo hi offs with | some z => if 0 ≤ z then some (.inl (z.toNat, ls, st, h)) else none | none => none) _ = _
  unfold swF
  cases eSw pc x d lo hi offs with
  | none => rfl
  | some z =>
    dsimp only
    split <;> rfl
theorem lu_iald {i : Int32} {v : UInt32} (hf : eFind (qt 192) pc = some (pc, .iaload, 1, ra, rb, wi)) : lu L xs pc ls (.int i :: .float v :: st) h = inR i L (lu L xs (pc + 1) ls (.int (xs i.toNatClampNeg) :: st) h) := by
  rw [lu_un hf]
  show eN (inR i L (some (.inl (pc + 1, ls, .int (xs i.toNatClampNeg) :: st, h)))) _ = _
  rw [eN_inR]
  rfl
theorem lu_inv {r : eRow} {j : Nat} {as t : List Value} {pc' : Nat} (hf : eFind (qt 192) pc = some r) (hj : j < 192) (hs : estep (some (L, xs)) (eTo qm qt 192) r ls st h = eInv (eTo qm qt 192) j as t h (fun s h' => some (.inl (pc', ls, s, h')))) (hsum : eSum t ≤ 8) : lu L xs pc ls st h = cl (den j as h) (fun v h' => lu L xs pc' ls (v.toList ++ t) h') := by
  rw [lu_un hf, hs]
  unfold eInv
  rw [eTo_den hj, Nat.ble_eq_true_of_le hsum]
  cases den j as h with
  | none => rfl
  | some x => rfl
end LUL
section LWS
variable {L : Nat} {xs : Nat → Int32}
set_option maxRecDepth 100000 in
theorem H192_18 : (∀ (x0 x1 x2 : Option Value) (v : Int32) (t : eL) (st : List Value) (h : eH), lu L xs 18 (x0 :: x1 :: x2 :: some (.int v) :: t) st h = lu L xs 19 (x0 :: x1 :: x2 :: some (.int v) :: t) (.int v :: st) h) := fun x0 x1 x2 v t st h => lu_go rfl rfl
set_option maxRecDepth 100000 in
theorem H192_764 : (∀ (ls : eL) (st : List Value) (h : eH), lu L xs 764 ls st h = lu L xs 765 ls (.int (nI 1) :: st) h) := fun ls st h => lu_go rfl rfl
set_option maxRecDepth 100000 in
theorem S192_0 : (∀ (ls : eL) (st : List Value) (h : eH), lu L xs 0 ls st h = lu L xs 3 ls (.ref h.2.1 :: st) (va_up h.1 h.2.1 (.inr (10, [.null, .null, .null, .null, .null, .null, .null, .null, .null, .null, .null, .int 0, .int 0, .int 0, .int 0, .int 0, .int 0])), h.2.1 + 1, h.2.2 + 17)) ∧
  (∀ (x : Nat) (ls : eL) (st : List Value) (h : eH), lu L xs 3 ls (.ref x :: st) h = lu L xs 4 ls (.ref x :: .ref x :: st) h) ∧
  (∀ (a0 : Nat) (u0 : Nat) (ls : eL) (h : eH), lu L xs 4 ls [.ref a0, .ref u0] h = cl (den 148 [.ref a0] h) (fun v h => lu L xs 7 ls (v.toList ++ [.ref u0]) h)) ∧
  (∀ (x0 x1 : Option Value) (v : Nat) (t : eL) (st : List Value) (h : eH), lu L xs 7 (x0 :: x1 :: t) (.ref v :: st) h = lu L xs 8 (eKl x0 :: some (.ref v) :: t) st h) ∧
  (∀ (ls : eL) (st : List Value) (h : eH), lu L xs 8 ls st h = lu L xs 11 ls (.ref h.2.1 :: st) (va_up h.1 h.2.1 (.inr (11, [.null, .null, .null, .null, .int 0, .null, .null, .null, .null, .null, .int 0, .null, .null, .null, .null, .null, .null, .null, .null, .int 0, .int 0, .int 0, .null, .int 0])), h.2.1 + 1, h.2.2 + 24)) ∧
  (∀ (x : Nat) (ls : eL) (st : List Value) (h : eH), lu L xs 11 ls (.ref x :: st) h = lu L xs 12 ls (.ref x :: .ref x :: st) h) ∧
  (∀ (a0 : Nat) (u0 : Nat) (ls : eL) (h : eH), lu L xs 12 ls [.ref a0, .ref u0] h = cl (den 53 [.ref a0] h) (fun v h => lu L xs 15 ls (v.toList ++ [.ref u0]) h)) ∧
  (∀ (x0 x1 x2 : Option Value) (v : Nat) (t : eL) (st : List Value) (h : eH), lu L xs 15 (x0 :: x1 :: x2 :: t) (.ref v :: st) h = lu L xs 16 (x0 :: eKl x1 :: some (.ref v) :: t) st h) ∧
  (∀ (ls : eL) (st : List Value) (h : eH), lu L xs 16 ls st h = lu L xs 17 ls (.int (nI 0) :: st) h) ∧
  (∀ (x0 x1 x2 x3 : Option Value) (v : Int32) (t : eL) (st : List Value) (h : eH), lu L xs 17 (x0 :: x1 :: x2 :: x3 :: t) (.int v :: st) h = lu L xs 18 (x0 :: x1 :: eKl x2 :: some (.int v) :: t) st h) ∧
  (∀ (v : UInt32) (t : eL) (st : List Value) (h : eH), lu L xs 19 (some (.float v) :: t) st h = lu L xs 20 (some (.float v) :: t) (.float v :: st) h) ∧
  (∀ (v : UInt32) (ls : eL) (st : List Value) (h : eH), lu L xs 20 ls (.float v :: st) h = lu L xs 21 ls (.int (nI L) :: st) h) ∧
  (∀ (ls : eL) (st : List Value) (h : eH), lu L xs 21 ls st h = lu L xs 22 ls (.int (nI 5) :: st) h) ∧
  (∀ (x y : Int32) (ls : eL) (st : List Value) (h : eH), lu L xs 22 ls (.int y :: .int x :: st) h = lu L xs 23 ls (.int (x - y) :: st) h) ∧
  (∀ (x y : Int32) (ls : eL) (st : List Value) (h : eH), lu L xs 23 ls (.int y :: .int x :: st) h = if y < x then lu L xs 764 ls st h else lu L xs 26 ls st h) ∧
  (∀ (v : UInt32) (t : eL) (st : List Value) (h : eH), lu L xs 26 (some (.float v) :: t) st h = lu L xs 27 (some (.float v) :: t) (.float v :: st) h) ∧
  (∀ (x0 x1 x2 : Option Value) (v : Int32) (t : eL) (st : List Value) (h : eH), lu L xs 27 (x0 :: x1 :: x2 :: some (.int v) :: t) st h = lu L xs 28 (x0 :: x1 :: x2 :: some (.int v) :: t) (.int v :: st) h) ∧
  (∀ (i : Int32) (v : UInt32) (ls : eL) (st : List Value) (h : eH), lu L xs 28 ls (.int i :: .float v :: st) h = inR i L (lu L xs 29 ls (.int (xs i.toNatClampNeg) :: st) h)) ∧
  (∀ (ls : eL) (st : List Value) (h : eH), lu L xs 29 ls st h = lu L xs 31 ls (.int (nI 31) :: st) h) ∧
  (∀ (x y : Int32) (ls : eL) (st : List Value) (h : eH), lu L xs 31 ls (.int y :: .int x :: st) h = lu L xs 32 ls (.int (x &&& y) :: st) h) ∧
  (∀ (x : Int32) (ls : eL) (st : List Value) (h : eH), lu L xs 32 ls (.int x :: st) h = swF (eSw 32 x 726 0 21 #[104, 147, 170, 243, 266, 309, 342, 355, 388, 401, 444, 457, 490, 503, 526, 539, 572, 585, 598, 621, 670, 703]) (fun z => lu L xs z ls st h)) ∧
  (∀ (x0 : Option Value) (v : Nat) (t : eL) (st : List Value) (h : eH), lu L xs 136 (x0 :: some (.ref v) :: t) st h = lu L xs 137 (x0 :: some (.ref v) :: t) (.ref v :: st) h) ∧
  (∀ (v : UInt32) (t : eL) (st : List Value) (h : eH), lu L xs 137 (some (.float v) :: t) st h = lu L xs 138 (some (.float v) :: t) (.float v :: st) h) ∧
  (∀ (x0 x1 x2 : Option Value) (v : Int32) (t : eL) (st : List Value) (h : eH), lu L xs 138 (x0 :: x1 :: x2 :: some (.int v) :: t) st h = lu L xs 139 (x0 :: x1 :: x2 :: some (.int v) :: t) (.int v :: st) h) ∧
  (∀ (ls : eL) (st : List Value) (h : eH), lu L xs 139 ls st h = lu L xs 140 ls (.int (nI 1) :: st) h) ∧
  (∀ (x y : Int32) (ls : eL) (st : List Value) (h : eH), lu L xs 140 ls (.int y :: .int x :: st) h = lu L xs 141 ls (.int (x + y) :: st) h) ∧
  (∀ (i : Int32) (v : UInt32) (ls : eL) (st : List Value) (h : eH), lu L xs 141 ls (.int i :: .float v :: st) h = inR i L (lu L xs 142 ls (.int (xs i.toNatClampNeg) :: st) h)) ∧
  (∀ (v : UInt32) (t : eL) (st : List Value) (h : eH), lu L xs 142 (some (.float v) :: t) st h = lu L xs 143 (some (.float v) :: t) (.float v :: st) h) ∧
  (∀ (x0 x1 x2 : Option Value) (v : Int32) (t : eL) (st : List Value) (h : eH), lu L xs 143 (x0 :: x1 :: x2 :: some (.int v) :: t) st h = lu L xs 144 (x0 :: x1 :: x2 :: some (.int v) :: t) (.int v :: st) h) ∧
  (∀ (ls : eL) (st : List Value) (h : eH), lu L xs 144 ls st h = lu L xs 145 ls (.int (nI 2) :: st) h) ∧
  (∀ (x y : Int32) (ls : eL) (st : List Value) (h : eH), lu L xs 145 ls (.int y :: .int x :: st) h = lu L xs 146 ls (.int (x + y) :: st) h) ∧
  (∀ (i : Int32) (v : UInt32) (ls : eL) (st : List Value) (h : eH), lu L xs 146 ls (.int i :: .float v :: st) h = inR i L (lu L xs 147 ls (.int (xs i.toNatClampNeg) :: st) h)) ∧
  (∀ (v : UInt32) (t : eL) (st : List Value) (h : eH), lu L xs 147 (some (.float v) :: t) st h = lu L xs 148 (some (.float v) :: t) (.float v :: st) h) ∧
  (∀ (x0 x1 x2 : Option Value) (v : Int32) (t : eL) (st : List Value) (h : eH), lu L xs 148 (x0 :: x1 :: x2 :: some (.int v) :: t) st h = lu L xs 149 (x0 :: x1 :: x2 :: some (.int v) :: t) (.int v :: st) h) ∧
  (∀ (ls : eL) (st : List Value) (h : eH), lu L xs 149 ls st h = lu L xs 150 ls (.int (nI 3) :: st) h) ∧
  (∀ (x y : Int32) (ls : eL) (st : List Value) (h : eH), lu L xs 150 ls (.int y :: .int x :: st) h = lu L xs 151 ls (.int (x + y) :: st) h) ∧
  (∀ (i : Int32) (v : UInt32) (ls : eL) (st : List Value) (h : eH), lu L xs 151 ls (.int i :: .float v :: st) h = inR i L (lu L xs 152 ls (.int (xs i.toNatClampNeg) :: st) h)) ∧
  (∀ (a0 : Nat) (a1 : Int32) (a2 : Int32) (a3 : Int32) (ls : eL) (h : eH), lu L xs 152 ls [.int a3, .int a2, .int a1, .ref a0] h = cl (den 172 [.ref a0, .int a1, .int a2, .int a3] h) (fun v h => lu L xs 155 ls (v.toList ++ []) h)) ∧
  (∀ (x0 x1 : Option Value) (v : Nat) (t : eL) (st : List Value) (h : eH), lu L xs 155 (x0 :: x1 :: some (.ref v) :: t) st h = lu L xs 156 (x0 :: x1 :: some (.ref v) :: t) (.ref v :: st) h) ∧
  (∀ (v : UInt32) (t : eL) (st : List Value) (h : eH), lu L xs 156 (some (.float v) :: t) st h = lu L xs 157 (some (.float v) :: t) (.float v :: st) h) ∧
  (∀ (x0 x1 x2 : Option Value) (v : Int32) (t : eL) (st : List Value) (h : eH), lu L xs 157 (x0 :: x1 :: x2 :: some (.int v) :: t) st h = lu L xs 158 (x0 :: x1 :: x2 :: some (.int v) :: t) (.int v :: st) h) ∧
  (∀ (ls : eL) (st : List Value) (h : eH), lu L xs 158 ls st h = lu L xs 159 ls (.int (nI 1) :: st) h) ∧
  (∀ (x y : Int32) (ls : eL) (st : List Value) (h : eH), lu L xs 159 ls (.int y :: .int x :: st) h = lu L xs 160 ls (.int (x + y) :: st) h) ∧
  (∀ (i : Int32) (v : UInt32) (ls : eL) (st : List Value) (h : eH), lu L xs 160 ls (.int i :: .float v :: st) h = inR i L (lu L xs 161 ls (.int (xs i.toNatClampNeg) :: st) h)) ∧
  (∀ (v : UInt32) (t : eL) (st : List Value) (h : eH), lu L xs 161 (some (.float v) :: t) st h = lu L xs 162 (some (.float v) :: t) (.float v :: st) h) ∧
  (∀ (x0 x1 x2 : Option Value) (v : Int32) (t : eL) (st : List Value) (h : eH), lu L xs 162 (x0 :: x1 :: x2 :: some (.int v) :: t) st h = lu L xs 163 (x0 :: x1 :: x2 :: some (.int v) :: t) (.int v :: st) h) ∧
  (∀ (ls : eL) (st : List Value) (h : eH), lu L xs 163 ls st h = lu L xs 164 ls (.int (nI 2) :: st) h) ∧
  (∀ (x y : Int32) (ls : eL) (st : List Value) (h : eH), lu L xs 164 ls (.int y :: .int x :: st) h = lu L xs 165 ls (.int (x + y) :: st) h) ∧
  (∀ (i : Int32) (v : UInt32) (ls : eL) (st : List Value) (h : eH), lu L xs 165 ls (.int i :: .float v :: st) h = inR i L (lu L xs 166 ls (.int (xs i.toNatClampNeg) :: st) h)) ∧
  (∀ (v : UInt32) (t : eL) (st : List Value) (h : eH), lu L xs 166 (some (.float v) :: t) st h = lu L xs 167 (some (.float v) :: t) (.float v :: st) h) ∧
  (∀ (x0 x1 x2 : Option Value) (v : Int32) (t : eL) (st : List Value) (h : eH), lu L xs 167 (x0 :: x1 :: x2 :: some (.int v) :: t) st h = lu L xs 168 (x0 :: x1 :: x2 :: some (.int v) :: t) (.int v :: st) h) ∧
  (∀ (ls : eL) (st : List Value) (h : eH), lu L xs 168 ls st h = lu L xs 169 ls (.int (nI 3) :: st) h) ∧
  (∀ (x y : Int32) (ls : eL) (st : List Value) (h : eH), lu L xs 169 ls (.int y :: .int x :: st) h = lu L xs 170 ls (.int (x + y) :: st) h) ∧
  (∀ (i : Int32) (v : UInt32) (ls : eL) (st : List Value) (h : eH), lu L xs 170 ls (.int i :: .float v :: st) h = inR i L (lu L xs 171 ls (.int (xs i.toNatClampNeg) :: st) h)) ∧
  (∀ (a0 : Nat) (a1 : Int32) (a2 : Int32) (a3 : Int32) (u0 : Int32) (ls : eL) (h : eH), lu L xs 171 ls [.int a3, .int a2, .int a1, .ref a0, .int u0] h = cl (den 69 [.ref a0, .int a1, .int a2, .int a3] h) (fun v h => lu L xs 174 ls (v.toList ++ [.int u0]) h)) ∧
  (∀ (x y : Int32) (ls : eL) (st : List Value) (h : eH), lu L xs 174 ls (.int y :: .int x :: st) h = if x = y then lu L xs 758 ls st h else lu L xs 177 ls st h) ∧
  (∀ (ls : eL) (st : List Value) (h : eH), lu L xs 177 ls st h = lu L xs 178 ls (.int (nI 0) :: st) h) ∧
  (∀ (x : Int32) (ls : eL) (h : eH), lu L xs 178 ls [.int x] h = bo (x == 0 || x == 1) (some (some (.int x), h))) ∧
  (∀ (x0 : Option Value) (v : Nat) (t : eL) (st : List Value) (h : eH), lu L xs 179 (x0 :: some (.ref v) :: t) st h = lu L xs 180 (x0 :: some (.ref v) :: t) (.ref v :: st) h) ∧
  (∀ (v : UInt32) (t : eL) (st : List Value) (h : eH), lu L xs 180 (some (.float v) :: t) st h = lu L xs 181 (some (.float v) :: t) (.float v :: st) h) := ⟨fun ls st h => lu_go rfl rfl,
  fun x ls st h => lu_go rfl rfl,
  fun a0 u0 ls h => lu_inv rfl (by decide) rfl (Nat.le_of_ble_eq_true rfl),
  fun x0 x1 v t st h => lu_go rfl rfl,
  fun ls st h => lu_go rfl rfl,
  fun x ls st h => lu_go rfl rfl,
  fun a0 u0 ls h => lu_inv rfl (by decide) rfl (Nat.le_of_ble_eq_true rfl),
  fun x0 x1 x2 v t st h => lu_go rfl rfl,
  fun ls st h => lu_go rfl rfl,
  fun x0 x1 x2 x3 v t st h => lu_go rfl rfl,
  fun v t st h => lu_go rfl rfl,
  fun v ls st h => lu_go rfl rfl,
  fun ls st h => lu_go rfl rfl,
  fun x y ls st h => lu_go rfl rfl,
  fun x y ls st h => lu_if rfl rfl,
  fun v t st h => lu_go rfl rfl,
  fun x0 x1 x2 v t st h => lu_go rfl rfl,
  fun i v ls st h => lu_iald rfl,
  fun ls st h => lu_go rfl rfl,
  fun x y ls st h => lu_go rfl rfl,
  fun x ls st h => lu_sw rfl,
  fun x0 v t st h => lu_go rfl rfl,
  fun v t st h => lu_go rfl rfl,
  fun x0 x1 x2 v t st h => lu_go rfl rfl,
  fun ls st h => lu_go rfl rfl,
  fun x y ls st h => lu_go rfl rfl,
  fun i v ls st h => lu_iald rfl,
  fun v t st h => lu_go rfl rfl,
  fun x0 x1 x2 v t st h => lu_go rfl rfl,
  fun ls st h => lu_go rfl rfl,
  fun x y ls st h => lu_go rfl rfl,
  fun i v ls st h => lu_iald rfl,
  fun v t st h => lu_go rfl rfl,
  fun x0 x1 x2 v t st h => lu_go rfl rfl,
  fun ls st h => lu_go rfl rfl,
  fun x y ls st h => lu_go rfl rfl,
  fun i v ls st h => lu_iald rfl,
  fun a0 a1 a2 a3 ls h => lu_inv rfl (by decide) rfl (Nat.le_of_ble_eq_true rfl),
  fun x0 x1 v t st h => lu_go rfl rfl,
  fun v t st h => lu_go rfl rfl,
  fun x0 x1 x2 v t st h => lu_go rfl rfl,
  fun ls st h => lu_go rfl rfl,
  fun x y ls st h => lu_go rfl rfl,
  fun i v ls st h => lu_iald rfl,
  fun v t st h => lu_go rfl rfl,
  fun x0 x1 x2 v t st h => lu_go rfl rfl,
  fun ls st h => lu_go rfl rfl,
  fun x y ls st h => lu_go rfl rfl,
  fun i v ls st h => lu_iald rfl,
  fun v t st h => lu_go rfl rfl,
  fun x0 x1 x2 v t st h => lu_go rfl rfl,
  fun ls st h => lu_go rfl rfl,
  fun x y ls st h => lu_go rfl rfl,
  fun i v ls st h => lu_iald rfl,
  fun a0 a1 a2 a3 u0 ls h => lu_inv rfl (by decide) rfl (Nat.le_of_ble_eq_true rfl),
  fun x y ls st h => lu_if rfl rfl,
  fun ls st h => lu_go rfl rfl,
  fun x ls h => lu_bret rfl rfl,
  fun x0 v t st h => lu_go rfl rfl,
  fun v t st h => lu_go rfl rfl⟩
set_option maxRecDepth 100000 in
theorem S192_1 : (∀ (x0 x1 x2 : Option Value) (v : Int32) (t : eL) (st : List Value) (h : eH), lu L xs 181 (x0 :: x1 :: x2 :: some (.int v) :: t) st h = lu L xs 182 (x0 :: x1 :: x2 :: some (.int v) :: t) (.int v :: st) h) ∧
  (∀ (ls : eL) (st : List Value) (h : eH), lu L xs 182 ls st h = lu L xs 183 ls (.int (nI 1) :: st) h) ∧
  (∀ (x y : Int32) (ls : eL) (st : List Value) (h : eH), lu L xs 183 ls (.int y :: .int x :: st) h = lu L xs 184 ls (.int (x + y) :: st) h) ∧
  (∀ (i : Int32) (v : UInt32) (ls : eL) (st : List Value) (h : eH), lu L xs 184 ls (.int i :: .float v :: st) h = inR i L (lu L xs 185 ls (.int (xs i.toNatClampNeg) :: st) h)) ∧
  (∀ (a0 : Nat) (a1 : Int32) (ls : eL) (h : eH), lu L xs 185 ls [.int a1, .ref a0] h = cl (den 182 [.ref a0, .int a1] h) (fun v h => lu L xs 188 ls (v.toList ++ []) h)) ∧
  (∀ (x0 x1 : Option Value) (v : Nat) (t : eL) (st : List Value) (h : eH), lu L xs 188 (x0 :: x1 :: some (.ref v) :: t) st h = lu L xs 189 (x0 :: x1 :: some (.ref v) :: t) (.ref v :: st) h) ∧
  (∀ (v : UInt32) (t : eL) (st : List Value) (h : eH), lu L xs 189 (some (.float v) :: t) st h = lu L xs 190 (some (.float v) :: t) (.float v :: st) h) ∧
  (∀ (x0 x1 x2 : Option Value) (v : Int32) (t : eL) (st : List Value) (h : eH), lu L xs 190 (x0 :: x1 :: x2 :: some (.int v) :: t) st h = lu L xs 191 (x0 :: x1 :: x2 :: some (.int v) :: t) (.int v :: st) h) ∧
  (∀ (ls : eL) (st : List Value) (h : eH), lu L xs 191 ls st h = lu L xs 192 ls (.int (nI 1) :: st) h) ∧
  (∀ (x y : Int32) (ls : eL) (st : List Value) (h : eH), lu L xs 192 ls (.int y :: .int x :: st) h = lu L xs 193 ls (.int (x + y) :: st) h) ∧
  (∀ (i : Int32) (v : UInt32) (ls : eL) (st : List Value) (h : eH), lu L xs 193 ls (.int i :: .float v :: st) h = inR i L (lu L xs 194 ls (.int (xs i.toNatClampNeg) :: st) h)) ∧
  (∀ (a0 : Nat) (a1 : Int32) (u0 : Int32) (ls : eL) (h : eH), lu L xs 194 ls [.int a1, .ref a0, .int u0] h = cl (den 75 [.ref a0, .int a1] h) (fun v h => lu L xs 197 ls (v.toList ++ [.int u0]) h)) ∧
  (∀ (x y : Int32) (ls : eL) (st : List Value) (h : eH), lu L xs 197 ls (.int y :: .int x :: st) h = if x = y then lu L xs 758 ls st h else lu L xs 200 ls st h) ∧
  (∀ (ls : eL) (st : List Value) (h : eH), lu L xs 200 ls st h = lu L xs 201 ls (.int (nI 0) :: st) h) ∧
  (∀ (x : Int32) (ls : eL) (h : eH), lu L xs 201 ls [.int x] h = bo (x == 0 || x == 1) (some (some (.int x), h))) ∧
  (∀ (x0 : Option Value) (v : Nat) (t : eL) (st : List Value) (h : eH), lu L xs 202 (x0 :: some (.ref v) :: t) st h = lu L xs 203 (x0 :: some (.ref v) :: t) (.ref v :: st) h) ∧
  (∀ (v : UInt32) (t : eL) (st : List Value) (h : eH), lu L xs 203 (some (.float v) :: t) st h = lu L xs 204 (some (.float v) :: t) (.float v :: st) h) ∧
  (∀ (x0 x1 x2 : Option Value) (v : Int32) (t : eL) (st : List Value) (h : eH), lu L xs 204 (x0 :: x1 :: x2 :: some (.int v) :: t) st h = lu L xs 205 (x0 :: x1 :: x2 :: some (.int v) :: t) (.int v :: st) h) ∧
  (∀ (ls : eL) (st : List Value) (h : eH), lu L xs 205 ls st h = lu L xs 206 ls (.int (nI 1) :: st) h) ∧
  (∀ (x y : Int32) (ls : eL) (st : List Value) (h : eH), lu L xs 206 ls (.int y :: .int x :: st) h = lu L xs 207 ls (.int (x + y) :: st) h) ∧
  (∀ (i : Int32) (v : UInt32) (ls : eL) (st : List Value) (h : eH), lu L xs 207 ls (.int i :: .float v :: st) h = inR i L (lu L xs 208 ls (.int (xs i.toNatClampNeg) :: st) h)) ∧
  (∀ (v : UInt32) (t : eL) (st : List Value) (h : eH), lu L xs 208 (some (.float v) :: t) st h = lu L xs 209 (some (.float v) :: t) (.float v :: st) h) ∧
  (∀ (x0 x1 x2 : Option Value) (v : Int32) (t : eL) (st : List Value) (h : eH), lu L xs 209 (x0 :: x1 :: x2 :: some (.int v) :: t) st h = lu L xs 210 (x0 :: x1 :: x2 :: some (.int v) :: t) (.int v :: st) h) ∧
  (∀ (ls : eL) (st : List Value) (h : eH), lu L xs 210 ls st h = lu L xs 211 ls (.int (nI 2) :: st) h) ∧
  (∀ (x y : Int32) (ls : eL) (st : List Value) (h : eH), lu L xs 211 ls (.int y :: .int x :: st) h = lu L xs 212 ls (.int (x + y) :: st) h) ∧
  (∀ (i : Int32) (v : UInt32) (ls : eL) (st : List Value) (h : eH), lu L xs 212 ls (.int i :: .float v :: st) h = inR i L (lu L xs 213 ls (.int (xs i.toNatClampNeg) :: st) h)) ∧
  (∀ (v : UInt32) (t : eL) (st : List Value) (h : eH), lu L xs 213 (some (.float v) :: t) st h = lu L xs 214 (some (.float v) :: t) (.float v :: st) h) ∧
  (∀ (x0 x1 x2 : Option Value) (v : Int32) (t : eL) (st : List Value) (h : eH), lu L xs 214 (x0 :: x1 :: x2 :: some (.int v) :: t) st h = lu L xs 215 (x0 :: x1 :: x2 :: some (.int v) :: t) (.int v :: st) h) ∧
  (∀ (ls : eL) (st : List Value) (h : eH), lu L xs 215 ls st h = lu L xs 216 ls (.int (nI 3) :: st) h) ∧
  (∀ (x y : Int32) (ls : eL) (st : List Value) (h : eH), lu L xs 216 ls (.int y :: .int x :: st) h = lu L xs 217 ls (.int (x + y) :: st) h) ∧
  (∀ (i : Int32) (v : UInt32) (ls : eL) (st : List Value) (h : eH), lu L xs 217 ls (.int i :: .float v :: st) h = inR i L (lu L xs 218 ls (.int (xs i.toNatClampNeg) :: st) h)) ∧
  (∀ (x : Int32) (ls : eL) (st : List Value) (h : eH), lu L xs 218 ls (.int x :: st) h = lu L xs 219 ls (.long (x.toInt64) :: st) h) ∧
  (∀ (ls : eL) (st : List Value) (h : eH), lu L xs 219 ls st h = lu L xs 221 ls (.int (nI 32) :: st) h) ∧
  (∀ (x : Int64) (y : Int32) (ls : eL) (st : List Value) (h : eH), lu L xs 221 ls (.int y :: .long x :: st) h = lu L xs 222 ls (.long (x <<< (y.toInt64 &&& 63)) :: st) h) ∧
  (∀ (v : UInt32) (t : eL) (st : List Value) (h : eH), lu L xs 222 (some (.float v) :: t) st h = lu L xs 223 (some (.float v) :: t) (.float v :: st) h) ∧
  (∀ (x0 x1 x2 : Option Value) (v : Int32) (t : eL) (st : List Value) (h : eH), lu L xs 223 (x0 :: x1 :: x2 :: some (.int v) :: t) st h = lu L xs 224 (x0 :: x1 :: x2 :: some (.int v) :: t) (.int v :: st) h) ∧
  (∀ (ls : eL) (st : List Value) (h : eH), lu L xs 224 ls st h = lu L xs 225 ls (.int (nI 4) :: st) h) ∧
  (∀ (x y : Int32) (ls : eL) (st : List Value) (h : eH), lu L xs 225 ls (.int y :: .int x :: st) h = lu L xs 226 ls (.int (x + y) :: st) h) ∧
  (∀ (i : Int32) (v : UInt32) (ls : eL) (st : List Value) (h : eH), lu L xs 226 ls (.int i :: .float v :: st) h = inR i L (lu L xs 227 ls (.int (xs i.toNatClampNeg) :: st) h)) ∧
  (∀ (x : Int32) (ls : eL) (st : List Value) (h : eH), lu L xs 227 ls (.int x :: st) h = lu L xs 228 ls (.long (x.toInt64) :: st) h) ∧
  (∀ (ls : eL) (st : List Value) (h : eH), lu L xs 228 ls st h = lu L xs 231 ls (.long (lN 4294967295) :: st) h) ∧
  (∀ (x y : Int64) (ls : eL) (st : List Value) (h : eH), lu L xs 231 ls (.long y :: .long x :: st) h = lu L xs 232 ls (.long (x &&& y) :: st) h) ∧
  (∀ (x y : Int64) (ls : eL) (st : List Value) (h : eH), lu L xs 232 ls (.long y :: .long x :: st) h = lu L xs 233 ls (.long (x ||| y) :: st) h) ∧
  (∀ (a0 : Nat) (a1 : Int32) (a2 : Int32) (a3 : Int64) (ls : eL) (h : eH), lu L xs 233 ls [.long a3, .int a2, .int a1, .ref a0] h = cl (den 191 [.ref a0, .int a1, .int a2, .long a3] h) (fun v h => lu L xs 236 ls (v.toList ++ []) h)) ∧
  (∀ (x0 x1 : Option Value) (v : Nat) (t : eL) (st : List Value) (h : eH), lu L xs 236 (x0 :: x1 :: some (.ref v) :: t) st h = lu L xs 237 (x0 :: x1 :: some (.ref v) :: t) (.ref v :: st) h) ∧
  (∀ (v : UInt32) (t : eL) (st : List Value) (h : eH), lu L xs 237 (some (.float v) :: t) st h = lu L xs 238 (some (.float v) :: t) (.float v :: st) h) ∧
  (∀ (x0 x1 x2 : Option Value) (v : Int32) (t : eL) (st : List Value) (h : eH), lu L xs 238 (x0 :: x1 :: x2 :: some (.int v) :: t) st h = lu L xs 239 (x0 :: x1 :: x2 :: some (.int v) :: t) (.int v :: st) h) ∧
  (∀ (ls : eL) (st : List Value) (h : eH), lu L xs 239 ls st h = lu L xs 240 ls (.int (nI 1) :: st) h) ∧
  (∀ (x y : Int32) (ls : eL) (st : List Value) (h : eH), lu L xs 240 ls (.int y :: .int x :: st) h = lu L xs 241 ls (.int (x + y) :: st) h) ∧
  (∀ (i : Int32) (v : UInt32) (ls : eL) (st : List Value) (h : eH), lu L xs 241 ls (.int i :: .float v :: st) h = inR i L (lu L xs 242 ls (.int (xs i.toNatClampNeg) :: st) h)) ∧
  (∀ (v : UInt32) (t : eL) (st : List Value) (h : eH), lu L xs 242 (some (.float v) :: t) st h = lu L xs 243 (some (.float v) :: t) (.float v :: st) h) ∧
  (∀ (x0 x1 x2 : Option Value) (v : Int32) (t : eL) (st : List Value) (h : eH), lu L xs 243 (x0 :: x1 :: x2 :: some (.int v) :: t) st h = lu L xs 244 (x0 :: x1 :: x2 :: some (.int v) :: t) (.int v :: st) h) ∧
  (∀ (ls : eL) (st : List Value) (h : eH), lu L xs 244 ls st h = lu L xs 245 ls (.int (nI 2) :: st) h) ∧
  (∀ (x y : Int32) (ls : eL) (st : List Value) (h : eH), lu L xs 245 ls (.int y :: .int x :: st) h = lu L xs 246 ls (.int (x + y) :: st) h) ∧
  (∀ (i : Int32) (v : UInt32) (ls : eL) (st : List Value) (h : eH), lu L xs 246 ls (.int i :: .float v :: st) h = inR i L (lu L xs 247 ls (.int (xs i.toNatClampNeg) :: st) h)) ∧
  (∀ (v : UInt32) (t : eL) (st : List Value) (h : eH), lu L xs 247 (some (.float v) :: t) st h = lu L xs 248 (some (.float v) :: t) (.float v :: st) h) ∧
  (∀ (x0 x1 x2 : Option Value) (v : Int32) (t : eL) (st : List Value) (h : eH), lu L xs 248 (x0 :: x1 :: x2 :: some (.int v) :: t) st h = lu L xs 249 (x0 :: x1 :: x2 :: some (.int v) :: t) (.int v :: st) h) ∧
  (∀ (ls : eL) (st : List Value) (h : eH), lu L xs 249 ls st h = lu L xs 250 ls (.int (nI 3) :: st) h) ∧
  (∀ (x y : Int32) (ls : eL) (st : List Value) (h : eH), lu L xs 250 ls (.int y :: .int x :: st) h = lu L xs 251 ls (.int (x + y) :: st) h) ∧
  (∀ (i : Int32) (v : UInt32) (ls : eL) (st : List Value) (h : eH), lu L xs 251 ls (.int i :: .float v :: st) h = inR i L (lu L xs 252 ls (.int (xs i.toNatClampNeg) :: st) h)) := ⟨fun x0 x1 x2 v t st h => lu_go rfl rfl,
  fun ls st h => lu_go rfl rfl,
  fun x y ls st h => lu_go rfl rfl,
  fun i v ls st h => lu_iald rfl,
  fun a0 a1 ls h => lu_inv rfl (by decide) rfl (Nat.le_of_ble_eq_true rfl),
  fun x0 x1 v t st h => lu_go rfl rfl,
  fun v t st h => lu_go rfl rfl,
  fun x0 x1 x2 v t st h => lu_go rfl rfl,
  fun ls st h => lu_go rfl rfl,
  fun x y ls st h => lu_go rfl rfl,
  fun i v ls st h => lu_iald rfl,
  fun a0 a1 u0 ls h => lu_inv rfl (by decide) rfl (Nat.le_of_ble_eq_true rfl),
  fun x y ls st h => lu_if rfl rfl,
  fun ls st h => lu_go rfl rfl,
  fun x ls h => lu_bret rfl rfl,
  fun x0 v t st h => lu_go rfl rfl,
  fun v t st h => lu_go rfl rfl,
  fun x0 x1 x2 v t st h => lu_go rfl rfl,
  fun ls st h => lu_go rfl rfl,
  fun x y ls st h => lu_go rfl rfl,
  fun i v ls st h => lu_iald rfl,
  fun v t st h => lu_go rfl rfl,
  fun x0 x1 x2 v t st h => lu_go rfl rfl,
  fun ls st h => lu_go rfl rfl,
  fun x y ls st h => lu_go rfl rfl,
  fun i v ls st h => lu_iald rfl,
  fun v t st h => lu_go rfl rfl,
  fun x0 x1 x2 v t st h => lu_go rfl rfl,
  fun ls st h => lu_go rfl rfl,
  fun x y ls st h => lu_go rfl rfl,
  fun i v ls st h => lu_iald rfl,
  fun x ls st h => lu_go rfl rfl,
  fun ls st h => lu_go rfl rfl,
  fun x y ls st h => lu_go rfl rfl,
  fun v t st h => lu_go rfl rfl,
  fun x0 x1 x2 v t st h => lu_go rfl rfl,
  fun ls st h => lu_go rfl rfl,
  fun x y ls st h => lu_go rfl rfl,
  fun i v ls st h => lu_iald rfl,
  fun x ls st h => lu_go rfl rfl,
  fun ls st h => lu_go rfl rfl,
  fun x y ls st h => lu_go rfl rfl,
  fun x y ls st h => lu_go rfl rfl,
  fun a0 a1 a2 a3 ls h => lu_inv rfl (by decide) rfl (Nat.le_of_ble_eq_true rfl),
  fun x0 x1 v t st h => lu_go rfl rfl,
  fun v t st h => lu_go rfl rfl,
  fun x0 x1 x2 v t st h => lu_go rfl rfl,
  fun ls st h => lu_go rfl rfl,
  fun x y ls st h => lu_go rfl rfl,
  fun i v ls st h => lu_iald rfl,
  fun v t st h => lu_go rfl rfl,
  fun x0 x1 x2 v t st h => lu_go rfl rfl,
  fun ls st h => lu_go rfl rfl,
  fun x y ls st h => lu_go rfl rfl,
  fun i v ls st h => lu_iald rfl,
  fun v t st h => lu_go rfl rfl,
  fun x0 x1 x2 v t st h => lu_go rfl rfl,
  fun ls st h => lu_go rfl rfl,
  fun x y ls st h => lu_go rfl rfl,
  fun i v ls st h => lu_iald rfl⟩
set_option maxRecDepth 100000 in
theorem S192_2 : (∀ (x : Int32) (ls : eL) (st : List Value) (h : eH), lu L xs 252 ls (.int x :: st) h = lu L xs 253 ls (.long (x.toInt64) :: st) h) ∧
  (∀ (ls : eL) (st : List Value) (h : eH), lu L xs 253 ls st h = lu L xs 255 ls (.int (nI 32) :: st) h) ∧
  (∀ (x : Int64) (y : Int32) (ls : eL) (st : List Value) (h : eH), lu L xs 255 ls (.int y :: .long x :: st) h = lu L xs 256 ls (.long (x <<< (y.toInt64 &&& 63)) :: st) h) ∧
  (∀ (v : UInt32) (t : eL) (st : List Value) (h : eH), lu L xs 256 (some (.float v) :: t) st h = lu L xs 257 (some (.float v) :: t) (.float v :: st) h) ∧
  (∀ (x0 x1 x2 : Option Value) (v : Int32) (t : eL) (st : List Value) (h : eH), lu L xs 257 (x0 :: x1 :: x2 :: some (.int v) :: t) st h = lu L xs 258 (x0 :: x1 :: x2 :: some (.int v) :: t) (.int v :: st) h) ∧
  (∀ (ls : eL) (st : List Value) (h : eH), lu L xs 258 ls st h = lu L xs 259 ls (.int (nI 4) :: st) h) ∧
  (∀ (x y : Int32) (ls : eL) (st : List Value) (h : eH), lu L xs 259 ls (.int y :: .int x :: st) h = lu L xs 260 ls (.int (x + y) :: st) h) ∧
  (∀ (i : Int32) (v : UInt32) (ls : eL) (st : List Value) (h : eH), lu L xs 260 ls (.int i :: .float v :: st) h = inR i L (lu L xs 261 ls (.int (xs i.toNatClampNeg) :: st) h)) ∧
  (∀ (x : Int32) (ls : eL) (st : List Value) (h : eH), lu L xs 261 ls (.int x :: st) h = lu L xs 262 ls (.long (x.toInt64) :: st) h) ∧
  (∀ (ls : eL) (st : List Value) (h : eH), lu L xs 262 ls st h = lu L xs 265 ls (.long (lN 4294967295) :: st) h) ∧
  (∀ (x y : Int64) (ls : eL) (st : List Value) (h : eH), lu L xs 265 ls (.long y :: .long x :: st) h = lu L xs 266 ls (.long (x &&& y) :: st) h) ∧
  (∀ (x y : Int64) (ls : eL) (st : List Value) (h : eH), lu L xs 266 ls (.long y :: .long x :: st) h = lu L xs 267 ls (.long (x ||| y) :: st) h) ∧
  (∀ (a0 : Nat) (a1 : Int32) (a2 : Int32) (a3 : Int64) (u0 : Int32) (ls : eL) (h : eH), lu L xs 267 ls [.long a3, .int a2, .int a1, .ref a0, .int u0] h = cl (den 80 [.ref a0, .int a1, .int a2, .long a3] h) (fun v h => lu L xs 270 ls (v.toList ++ [.int u0]) h)) ∧
  (∀ (x y : Int32) (ls : eL) (st : List Value) (h : eH), lu L xs 270 ls (.int y :: .int x :: st) h = if x = y then lu L xs 758 ls st h else lu L xs 273 ls st h) ∧
  (∀ (ls : eL) (st : List Value) (h : eH), lu L xs 273 ls st h = lu L xs 274 ls (.int (nI 0) :: st) h) ∧
  (∀ (x : Int32) (ls : eL) (h : eH), lu L xs 274 ls [.int x] h = bo (x == 0 || x == 1) (some (some (.int x), h))) ∧
  (∀ (x0 : Option Value) (v : Nat) (t : eL) (st : List Value) (h : eH), lu L xs 275 (x0 :: some (.ref v) :: t) st h = lu L xs 276 (x0 :: some (.ref v) :: t) (.ref v :: st) h) ∧
  (∀ (v : UInt32) (t : eL) (st : List Value) (h : eH), lu L xs 276 (some (.float v) :: t) st h = lu L xs 277 (some (.float v) :: t) (.float v :: st) h) ∧
  (∀ (x0 x1 x2 : Option Value) (v : Int32) (t : eL) (st : List Value) (h : eH), lu L xs 277 (x0 :: x1 :: x2 :: some (.int v) :: t) st h = lu L xs 278 (x0 :: x1 :: x2 :: some (.int v) :: t) (.int v :: st) h) ∧
  (∀ (ls : eL) (st : List Value) (h : eH), lu L xs 278 ls st h = lu L xs 279 ls (.int (nI 1) :: st) h) ∧
  (∀ (x y : Int32) (ls : eL) (st : List Value) (h : eH), lu L xs 279 ls (.int y :: .int x :: st) h = lu L xs 280 ls (.int (x + y) :: st) h) ∧
  (∀ (i : Int32) (v : UInt32) (ls : eL) (st : List Value) (h : eH), lu L xs 280 ls (.int i :: .float v :: st) h = inR i L (lu L xs 281 ls (.int (xs i.toNatClampNeg) :: st) h)) ∧
  (∀ (a0 : Nat) (a1 : Int32) (ls : eL) (h : eH), lu L xs 281 ls [.int a1, .ref a0] h = cl (den 168 [.ref a0, .int a1] h) (fun v h => lu L xs 284 ls (v.toList ++ []) h)) ∧
  (∀ (x0 x1 : Option Value) (v : Nat) (t : eL) (st : List Value) (h : eH), lu L xs 284 (x0 :: x1 :: some (.ref v) :: t) st h = lu L xs 285 (x0 :: x1 :: some (.ref v) :: t) (.ref v :: st) h) ∧
  (∀ (v : UInt32) (t : eL) (st : List Value) (h : eH), lu L xs 285 (some (.float v) :: t) st h = lu L xs 286 (some (.float v) :: t) (.float v :: st) h) ∧
  (∀ (x0 x1 x2 : Option Value) (v : Int32) (t : eL) (st : List Value) (h : eH), lu L xs 286 (x0 :: x1 :: x2 :: some (.int v) :: t) st h = lu L xs 287 (x0 :: x1 :: x2 :: some (.int v) :: t) (.int v :: st) h) ∧
  (∀ (ls : eL) (st : List Value) (h : eH), lu L xs 287 ls st h = lu L xs 288 ls (.int (nI 1) :: st) h) ∧
  (∀ (x y : Int32) (ls : eL) (st : List Value) (h : eH), lu L xs 288 ls (.int y :: .int x :: st) h = lu L xs 289 ls (.int (x + y) :: st) h) ∧
  (∀ (i : Int32) (v : UInt32) (ls : eL) (st : List Value) (h : eH), lu L xs 289 ls (.int i :: .float v :: st) h = inR i L (lu L xs 290 ls (.int (xs i.toNatClampNeg) :: st) h)) ∧
  (∀ (a0 : Nat) (a1 : Int32) (u0 : Int32) (ls : eL) (h : eH), lu L xs 290 ls [.int a1, .ref a0, .int u0] h = cl (den 66 [.ref a0, .int a1] h) (fun v h => lu L xs 293 ls (v.toList ++ [.int u0]) h)) ∧
  (∀ (x y : Int32) (ls : eL) (st : List Value) (h : eH), lu L xs 293 ls (.int y :: .int x :: st) h = if x = y then lu L xs 758 ls st h else lu L xs 296 ls st h) ∧
  (∀ (ls : eL) (st : List Value) (h : eH), lu L xs 296 ls st h = lu L xs 297 ls (.int (nI 0) :: st) h) ∧
  (∀ (x : Int32) (ls : eL) (h : eH), lu L xs 297 ls [.int x] h = bo (x == 0 || x == 1) (some (some (.int x), h))) ∧
  (∀ (x0 : Option Value) (v : Nat) (t : eL) (st : List Value) (h : eH), lu L xs 298 (x0 :: some (.ref v) :: t) st h = lu L xs 299 (x0 :: some (.ref v) :: t) (.ref v :: st) h) ∧
  (∀ (v : UInt32) (t : eL) (st : List Value) (h : eH), lu L xs 299 (some (.float v) :: t) st h = lu L xs 300 (some (.float v) :: t) (.float v :: st) h) ∧
  (∀ (x0 x1 x2 : Option Value) (v : Int32) (t : eL) (st : List Value) (h : eH), lu L xs 300 (x0 :: x1 :: x2 :: some (.int v) :: t) st h = lu L xs 301 (x0 :: x1 :: x2 :: some (.int v) :: t) (.int v :: st) h) ∧
  (∀ (ls : eL) (st : List Value) (h : eH), lu L xs 301 ls st h = lu L xs 302 ls (.int (nI 1) :: st) h) ∧
  (∀ (x y : Int32) (ls : eL) (st : List Value) (h : eH), lu L xs 302 ls (.int y :: .int x :: st) h = lu L xs 303 ls (.int (x + y) :: st) h) ∧
  (∀ (i : Int32) (v : UInt32) (ls : eL) (st : List Value) (h : eH), lu L xs 303 ls (.int i :: .float v :: st) h = inR i L (lu L xs 304 ls (.int (xs i.toNatClampNeg) :: st) h)) ∧
  (∀ (v : UInt32) (t : eL) (st : List Value) (h : eH), lu L xs 304 (some (.float v) :: t) st h = lu L xs 305 (some (.float v) :: t) (.float v :: st) h) ∧
  (∀ (x0 x1 x2 : Option Value) (v : Int32) (t : eL) (st : List Value) (h : eH), lu L xs 305 (x0 :: x1 :: x2 :: some (.int v) :: t) st h = lu L xs 306 (x0 :: x1 :: x2 :: some (.int v) :: t) (.int v :: st) h) ∧
  (∀ (ls : eL) (st : List Value) (h : eH), lu L xs 306 ls st h = lu L xs 307 ls (.int (nI 2) :: st) h) ∧
  (∀ (x y : Int32) (ls : eL) (st : List Value) (h : eH), lu L xs 307 ls (.int y :: .int x :: st) h = lu L xs 308 ls (.int (x + y) :: st) h) ∧
  (∀ (i : Int32) (v : UInt32) (ls : eL) (st : List Value) (h : eH), lu L xs 308 ls (.int i :: .float v :: st) h = inR i L (lu L xs 309 ls (.int (xs i.toNatClampNeg) :: st) h)) ∧
  (∀ (v : UInt32) (t : eL) (st : List Value) (h : eH), lu L xs 309 (some (.float v) :: t) st h = lu L xs 310 (some (.float v) :: t) (.float v :: st) h) ∧
  (∀ (x0 x1 x2 : Option Value) (v : Int32) (t : eL) (st : List Value) (h : eH), lu L xs 310 (x0 :: x1 :: x2 :: some (.int v) :: t) st h = lu L xs 311 (x0 :: x1 :: x2 :: some (.int v) :: t) (.int v :: st) h) ∧
  (∀ (ls : eL) (st : List Value) (h : eH), lu L xs 311 ls st h = lu L xs 312 ls (.int (nI 3) :: st) h) ∧
  (∀ (x y : Int32) (ls : eL) (st : List Value) (h : eH), lu L xs 312 ls (.int y :: .int x :: st) h = lu L xs 313 ls (.int (x + y) :: st) h) ∧
  (∀ (i : Int32) (v : UInt32) (ls : eL) (st : List Value) (h : eH), lu L xs 313 ls (.int i :: .float v :: st) h = inR i L (lu L xs 314 ls (.int (xs i.toNatClampNeg) :: st) h)) ∧
  (∀ (a0 : Nat) (a1 : Int32) (a2 : Int32) (a3 : Int32) (ls : eL) (h : eH), lu L xs 314 ls [.int a3, .int a2, .int a1, .ref a0] h = cl (den 160 [.ref a0, .int a1, .int a2, .int a3] h) (fun v h => lu L xs 317 ls (v.toList ++ []) h)) ∧
  (∀ (x0 x1 : Option Value) (v : Nat) (t : eL) (st : List Value) (h : eH), lu L xs 317 (x0 :: x1 :: some (.ref v) :: t) st h = lu L xs 318 (x0 :: x1 :: some (.ref v) :: t) (.ref v :: st) h) ∧
  (∀ (v : UInt32) (t : eL) (st : List Value) (h : eH), lu L xs 318 (some (.float v) :: t) st h = lu L xs 319 (some (.float v) :: t) (.float v :: st) h) ∧
  (∀ (x0 x1 x2 : Option Value) (v : Int32) (t : eL) (st : List Value) (h : eH), lu L xs 319 (x0 :: x1 :: x2 :: some (.int v) :: t) st h = lu L xs 320 (x0 :: x1 :: x2 :: some (.int v) :: t) (.int v :: st) h) ∧
  (∀ (ls : eL) (st : List Value) (h : eH), lu L xs 320 ls st h = lu L xs 321 ls (.int (nI 1) :: st) h) ∧
  (∀ (x y : Int32) (ls : eL) (st : List Value) (h : eH), lu L xs 321 ls (.int y :: .int x :: st) h = lu L xs 322 ls (.int (x + y) :: st) h) ∧
  (∀ (i : Int32) (v : UInt32) (ls : eL) (st : List Value) (h : eH), lu L xs 322 ls (.int i :: .float v :: st) h = inR i L (lu L xs 323 ls (.int (xs i.toNatClampNeg) :: st) h)) ∧
  (∀ (v : UInt32) (t : eL) (st : List Value) (h : eH), lu L xs 323 (some (.float v) :: t) st h = lu L xs 324 (some (.float v) :: t) (.float v :: st) h) ∧
  (∀ (x0 x1 x2 : Option Value) (v : Int32) (t : eL) (st : List Value) (h : eH), lu L xs 324 (x0 :: x1 :: x2 :: some (.int v) :: t) st h = lu L xs 325 (x0 :: x1 :: x2 :: some (.int v) :: t) (.int v :: st) h) ∧
  (∀ (ls : eL) (st : List Value) (h : eH), lu L xs 325 ls st h = lu L xs 326 ls (.int (nI 2) :: st) h) ∧
  (∀ (x y : Int32) (ls : eL) (st : List Value) (h : eH), lu L xs 326 ls (.int y :: .int x :: st) h = lu L xs 327 ls (.int (x + y) :: st) h) := ⟨fun x ls st h => lu_go rfl rfl,
  fun ls st h => lu_go rfl rfl,
  fun x y ls st h => lu_go rfl rfl,
  fun v t st h => lu_go rfl rfl,
  fun x0 x1 x2 v t st h => lu_go rfl rfl,
  fun ls st h => lu_go rfl rfl,
  fun x y ls st h => lu_go rfl rfl,
  fun i v ls st h => lu_iald rfl,
  fun x ls st h => lu_go rfl rfl,
  fun ls st h => lu_go rfl rfl,
  fun x y ls st h => lu_go rfl rfl,
  fun x y ls st h => lu_go rfl rfl,
  fun a0 a1 a2 a3 u0 ls h => lu_inv rfl (by decide) rfl (Nat.le_of_ble_eq_true rfl),
  fun x y ls st h => lu_if rfl rfl,
  fun ls st h => lu_go rfl rfl,
  fun x ls h => lu_bret rfl rfl,
  fun x0 v t st h => lu_go rfl rfl,
  fun v t st h => lu_go rfl rfl,
  fun x0 x1 x2 v t st h => lu_go rfl rfl,
  fun ls st h => lu_go rfl rfl,
  fun x y ls st h => lu_go rfl rfl,
  fun i v ls st h => lu_iald rfl,
  fun a0 a1 ls h => lu_inv rfl (by decide) rfl (Nat.le_of_ble_eq_true rfl),
  fun x0 x1 v t st h => lu_go rfl rfl,
  fun v t st h => lu_go rfl rfl,
  fun x0 x1 x2 v t st h => lu_go rfl rfl,
  fun ls st h => lu_go rfl rfl,
  fun x y ls st h => lu_go rfl rfl,
  fun i v ls st h => lu_iald rfl,
  fun a0 a1 u0 ls h => lu_inv rfl (by decide) rfl (Nat.le_of_ble_eq_true rfl),
  fun x y ls st h => lu_if rfl rfl,
  fun ls st h => lu_go rfl rfl,
  fun x ls h => lu_bret rfl rfl,
  fun x0 v t st h => lu_go rfl rfl,
  fun v t st h => lu_go rfl rfl,
  fun x0 x1 x2 v t st h => lu_go rfl rfl,
  fun ls st h => lu_go rfl rfl,
  fun x y ls st h => lu_go rfl rfl,
  fun i v ls st h => lu_iald rfl,
  fun v t st h => lu_go rfl rfl,
  fun x0 x1 x2 v t st h => lu_go rfl rfl,
  fun ls st h => lu_go rfl rfl,
  fun x y ls st h => lu_go rfl rfl,
  fun i v ls st h => lu_iald rfl,
  fun v t st h => lu_go rfl rfl,
  fun x0 x1 x2 v t st h => lu_go rfl rfl,
  fun ls st h => lu_go rfl rfl,
  fun x y ls st h => lu_go rfl rfl,
  fun i v ls st h => lu_iald rfl,
  fun a0 a1 a2 a3 ls h => lu_inv rfl (by decide) rfl (Nat.le_of_ble_eq_true rfl),
  fun x0 x1 v t st h => lu_go rfl rfl,
  fun v t st h => lu_go rfl rfl,
  fun x0 x1 x2 v t st h => lu_go rfl rfl,
  fun ls st h => lu_go rfl rfl,
  fun x y ls st h => lu_go rfl rfl,
  fun i v ls st h => lu_iald rfl,
  fun v t st h => lu_go rfl rfl,
  fun x0 x1 x2 v t st h => lu_go rfl rfl,
  fun ls st h => lu_go rfl rfl,
  fun x y ls st h => lu_go rfl rfl⟩
set_option maxRecDepth 100000 in
theorem S192_3 : (∀ (i : Int32) (v : UInt32) (ls : eL) (st : List Value) (h : eH), lu L xs 327 ls (.int i :: .float v :: st) h = inR i L (lu L xs 328 ls (.int (xs i.toNatClampNeg) :: st) h)) ∧
  (∀ (v : UInt32) (t : eL) (st : List Value) (h : eH), lu L xs 328 (some (.float v) :: t) st h = lu L xs 329 (some (.float v) :: t) (.float v :: st) h) ∧
  (∀ (x0 x1 x2 : Option Value) (v : Int32) (t : eL) (st : List Value) (h : eH), lu L xs 329 (x0 :: x1 :: x2 :: some (.int v) :: t) st h = lu L xs 330 (x0 :: x1 :: x2 :: some (.int v) :: t) (.int v :: st) h) ∧
  (∀ (ls : eL) (st : List Value) (h : eH), lu L xs 330 ls st h = lu L xs 331 ls (.int (nI 3) :: st) h) ∧
  (∀ (x y : Int32) (ls : eL) (st : List Value) (h : eH), lu L xs 331 ls (.int y :: .int x :: st) h = lu L xs 332 ls (.int (x + y) :: st) h) ∧
  (∀ (i : Int32) (v : UInt32) (ls : eL) (st : List Value) (h : eH), lu L xs 332 ls (.int i :: .float v :: st) h = inR i L (lu L xs 333 ls (.int (xs i.toNatClampNeg) :: st) h)) ∧
  (∀ (a0 : Nat) (a1 : Int32) (a2 : Int32) (a3 : Int32) (u0 : Int32) (ls : eL) (h : eH), lu L xs 333 ls [.int a3, .int a2, .int a1, .ref a0, .int u0] h = cl (den 61 [.ref a0, .int a1, .int a2, .int a3] h) (fun v h => lu L xs 336 ls (v.toList ++ [.int u0]) h)) ∧
  (∀ (x y : Int32) (ls : eL) (st : List Value) (h : eH), lu L xs 336 ls (.int y :: .int x :: st) h = if x = y then lu L xs 758 ls st h else lu L xs 339 ls st h) ∧
  (∀ (ls : eL) (st : List Value) (h : eH), lu L xs 339 ls st h = lu L xs 340 ls (.int (nI 0) :: st) h) ∧
  (∀ (x : Int32) (ls : eL) (h : eH), lu L xs 340 ls [.int x] h = bo (x == 0 || x == 1) (some (some (.int x), h))) ∧
  (∀ (x0 : Option Value) (v : Nat) (t : eL) (st : List Value) (h : eH), lu L xs 341 (x0 :: some (.ref v) :: t) st h = lu L xs 342 (x0 :: some (.ref v) :: t) (.ref v :: st) h) ∧
  (∀ (v : UInt32) (t : eL) (st : List Value) (h : eH), lu L xs 342 (some (.float v) :: t) st h = lu L xs 343 (some (.float v) :: t) (.float v :: st) h) ∧
  (∀ (x0 x1 x2 : Option Value) (v : Int32) (t : eL) (st : List Value) (h : eH), lu L xs 343 (x0 :: x1 :: x2 :: some (.int v) :: t) st h = lu L xs 344 (x0 :: x1 :: x2 :: some (.int v) :: t) (.int v :: st) h) ∧
  (∀ (ls : eL) (st : List Value) (h : eH), lu L xs 344 ls st h = lu L xs 345 ls (.int (nI 1) :: st) h) ∧
  (∀ (x y : Int32) (ls : eL) (st : List Value) (h : eH), lu L xs 345 ls (.int y :: .int x :: st) h = lu L xs 346 ls (.int (x + y) :: st) h) ∧
  (∀ (i : Int32) (v : UInt32) (ls : eL) (st : List Value) (h : eH), lu L xs 346 ls (.int i :: .float v :: st) h = inR i L (lu L xs 347 ls (.int (xs i.toNatClampNeg) :: st) h)) ∧
  (∀ (v : UInt32) (t : eL) (st : List Value) (h : eH), lu L xs 347 (some (.float v) :: t) st h = lu L xs 348 (some (.float v) :: t) (.float v :: st) h) ∧
  (∀ (x0 x1 x2 : Option Value) (v : Int32) (t : eL) (st : List Value) (h : eH), lu L xs 348 (x0 :: x1 :: x2 :: some (.int v) :: t) st h = lu L xs 349 (x0 :: x1 :: x2 :: some (.int v) :: t) (.int v :: st) h) ∧
  (∀ (ls : eL) (st : List Value) (h : eH), lu L xs 349 ls st h = lu L xs 350 ls (.int (nI 2) :: st) h) ∧
  (∀ (x y : Int32) (ls : eL) (st : List Value) (h : eH), lu L xs 350 ls (.int y :: .int x :: st) h = lu L xs 351 ls (.int (x + y) :: st) h) ∧
  (∀ (i : Int32) (v : UInt32) (ls : eL) (st : List Value) (h : eH), lu L xs 351 ls (.int i :: .float v :: st) h = inR i L (lu L xs 352 ls (.int (xs i.toNatClampNeg) :: st) h)) ∧
  (∀ (a0 : Nat) (a1 : Int32) (a2 : Int32) (ls : eL) (h : eH), lu L xs 352 ls [.int a2, .int a1, .ref a0] h = cl (den 170 [.ref a0, .int a1, .int a2] h) (fun v h => lu L xs 355 ls (v.toList ++ []) h)) ∧
  (∀ (x0 x1 : Option Value) (v : Nat) (t : eL) (st : List Value) (h : eH), lu L xs 355 (x0 :: x1 :: some (.ref v) :: t) st h = lu L xs 356 (x0 :: x1 :: some (.ref v) :: t) (.ref v :: st) h) ∧
  (∀ (v : UInt32) (t : eL) (st : List Value) (h : eH), lu L xs 356 (some (.float v) :: t) st h = lu L xs 357 (some (.float v) :: t) (.float v :: st) h) ∧
  (∀ (x0 x1 x2 : Option Value) (v : Int32) (t : eL) (st : List Value) (h : eH), lu L xs 357 (x0 :: x1 :: x2 :: some (.int v) :: t) st h = lu L xs 358 (x0 :: x1 :: x2 :: some (.int v) :: t) (.int v :: st) h) ∧
  (∀ (ls : eL) (st : List Value) (h : eH), lu L xs 358 ls st h = lu L xs 359 ls (.int (nI 1) :: st) h) ∧
  (∀ (x y : Int32) (ls : eL) (st : List Value) (h : eH), lu L xs 359 ls (.int y :: .int x :: st) h = lu L xs 360 ls (.int (x + y) :: st) h) ∧
  (∀ (i : Int32) (v : UInt32) (ls : eL) (st : List Value) (h : eH), lu L xs 360 ls (.int i :: .float v :: st) h = inR i L (lu L xs 361 ls (.int (xs i.toNatClampNeg) :: st) h)) ∧
  (∀ (v : UInt32) (t : eL) (st : List Value) (h : eH), lu L xs 361 (some (.float v) :: t) st h = lu L xs 362 (some (.float v) :: t) (.float v :: st) h) ∧
  (∀ (x0 x1 x2 : Option Value) (v : Int32) (t : eL) (st : List Value) (h : eH), lu L xs 362 (x0 :: x1 :: x2 :: some (.int v) :: t) st h = lu L xs 363 (x0 :: x1 :: x2 :: some (.int v) :: t) (.int v :: st) h) ∧
  (∀ (ls : eL) (st : List Value) (h : eH), lu L xs 363 ls st h = lu L xs 364 ls (.int (nI 2) :: st) h) ∧
  (∀ (x y : Int32) (ls : eL) (st : List Value) (h : eH), lu L xs 364 ls (.int y :: .int x :: st) h = lu L xs 365 ls (.int (x + y) :: st) h) ∧
  (∀ (i : Int32) (v : UInt32) (ls : eL) (st : List Value) (h : eH), lu L xs 365 ls (.int i :: .float v :: st) h = inR i L (lu L xs 366 ls (.int (xs i.toNatClampNeg) :: st) h)) ∧
  (∀ (a0 : Nat) (a1 : Int32) (a2 : Int32) (u0 : Int32) (ls : eL) (h : eH), lu L xs 366 ls [.int a2, .int a1, .ref a0, .int u0] h = cl (den 68 [.ref a0, .int a1, .int a2] h) (fun v h => lu L xs 369 ls (v.toList ++ [.int u0]) h)) ∧
  (∀ (x y : Int32) (ls : eL) (st : List Value) (h : eH), lu L xs 369 ls (.int y :: .int x :: st) h = if x = y then lu L xs 758 ls st h else lu L xs 372 ls st h) ∧
  (∀ (ls : eL) (st : List Value) (h : eH), lu L xs 372 ls st h = lu L xs 373 ls (.int (nI 0) :: st) h) ∧
  (∀ (x : Int32) (ls : eL) (h : eH), lu L xs 373 ls [.int x] h = bo (x == 0 || x == 1) (some (some (.int x), h))) ∧
  (∀ (x0 : Option Value) (v : Nat) (t : eL) (st : List Value) (h : eH), lu L xs 374 (x0 :: some (.ref v) :: t) st h = lu L xs 375 (x0 :: some (.ref v) :: t) (.ref v :: st) h) ∧
  (∀ (a0 : Nat) (ls : eL) (h : eH), lu L xs 375 ls [.ref a0] h = cl (den 180 [.ref a0] h) (fun v h => lu L xs 378 ls (v.toList ++ []) h)) ∧
  (∀ (x0 x1 : Option Value) (v : Nat) (t : eL) (st : List Value) (h : eH), lu L xs 378 (x0 :: x1 :: some (.ref v) :: t) st h = lu L xs 379 (x0 :: x1 :: some (.ref v) :: t) (.ref v :: st) h) ∧
  (∀ (a0 : Nat) (u0 : Int32) (ls : eL) (h : eH), lu L xs 379 ls [.ref a0, .int u0] h = cl (den 74 [.ref a0] h) (fun v h => lu L xs 382 ls (v.toList ++ [.int u0]) h)) ∧
  (∀ (x y : Int32) (ls : eL) (st : List Value) (h : eH), lu L xs 382 ls (.int y :: .int x :: st) h = if x = y then lu L xs 758 ls st h else lu L xs 385 ls st h) ∧
  (∀ (ls : eL) (st : List Value) (h : eH), lu L xs 385 ls st h = lu L xs 386 ls (.int (nI 0) :: st) h) ∧
  (∀ (x : Int32) (ls : eL) (h : eH), lu L xs 386 ls [.int x] h = bo (x == 0 || x == 1) (some (some (.int x), h))) ∧
  (∀ (x0 : Option Value) (v : Nat) (t : eL) (st : List Value) (h : eH), lu L xs 387 (x0 :: some (.ref v) :: t) st h = lu L xs 388 (x0 :: some (.ref v) :: t) (.ref v :: st) h) ∧
  (∀ (v : UInt32) (t : eL) (st : List Value) (h : eH), lu L xs 388 (some (.float v) :: t) st h = lu L xs 389 (some (.float v) :: t) (.float v :: st) h) ∧
  (∀ (x0 x1 x2 : Option Value) (v : Int32) (t : eL) (st : List Value) (h : eH), lu L xs 389 (x0 :: x1 :: x2 :: some (.int v) :: t) st h = lu L xs 390 (x0 :: x1 :: x2 :: some (.int v) :: t) (.int v :: st) h) ∧
  (∀ (ls : eL) (st : List Value) (h : eH), lu L xs 390 ls st h = lu L xs 391 ls (.int (nI 1) :: st) h) ∧
  (∀ (x y : Int32) (ls : eL) (st : List Value) (h : eH), lu L xs 391 ls (.int y :: .int x :: st) h = lu L xs 392 ls (.int (x + y) :: st) h) ∧
  (∀ (i : Int32) (v : UInt32) (ls : eL) (st : List Value) (h : eH), lu L xs 392 ls (.int i :: .float v :: st) h = inR i L (lu L xs 393 ls (.int (xs i.toNatClampNeg) :: st) h)) ∧
  (∀ (v : UInt32) (t : eL) (st : List Value) (h : eH), lu L xs 393 (some (.float v) :: t) st h = lu L xs 394 (some (.float v) :: t) (.float v :: st) h) ∧
  (∀ (x0 x1 x2 : Option Value) (v : Int32) (t : eL) (st : List Value) (h : eH), lu L xs 394 (x0 :: x1 :: x2 :: some (.int v) :: t) st h = lu L xs 395 (x0 :: x1 :: x2 :: some (.int v) :: t) (.int v :: st) h) ∧
  (∀ (ls : eL) (st : List Value) (h : eH), lu L xs 395 ls st h = lu L xs 396 ls (.int (nI 2) :: st) h) ∧
  (∀ (x y : Int32) (ls : eL) (st : List Value) (h : eH), lu L xs 396 ls (.int y :: .int x :: st) h = lu L xs 397 ls (.int (x + y) :: st) h) ∧
  (∀ (i : Int32) (v : UInt32) (ls : eL) (st : List Value) (h : eH), lu L xs 397 ls (.int i :: .float v :: st) h = inR i L (lu L xs 398 ls (.int (xs i.toNatClampNeg) :: st) h)) ∧
  (∀ (a0 : Nat) (a1 : Int32) (a2 : Int32) (ls : eL) (h : eH), lu L xs 398 ls [.int a2, .int a1, .ref a0] h = cl (den 179 [.ref a0, .int a1, .int a2] h) (fun v h => lu L xs 401 ls (v.toList ++ []) h)) ∧
  (∀ (x0 x1 : Option Value) (v : Nat) (t : eL) (st : List Value) (h : eH), lu L xs 401 (x0 :: x1 :: some (.ref v) :: t) st h = lu L xs 402 (x0 :: x1 :: some (.ref v) :: t) (.ref v :: st) h) ∧
  (∀ (v : UInt32) (t : eL) (st : List Value) (h : eH), lu L xs 402 (some (.float v) :: t) st h = lu L xs 403 (some (.float v) :: t) (.float v :: st) h) ∧
  (∀ (x0 x1 x2 : Option Value) (v : Int32) (t : eL) (st : List Value) (h : eH), lu L xs 403 (x0 :: x1 :: x2 :: some (.int v) :: t) st h = lu L xs 404 (x0 :: x1 :: x2 :: some (.int v) :: t) (.int v :: st) h) ∧
  (∀ (ls : eL) (st : List Value) (h : eH), lu L xs 404 ls st h = lu L xs 405 ls (.int (nI 1) :: st) h) := ⟨fun i v ls st h => lu_iald rfl,
  fun v t st h => lu_go rfl rfl,
  fun x0 x1 x2 v t st h => lu_go rfl rfl,
  fun ls st h => lu_go rfl rfl,
  fun x y ls st h => lu_go rfl rfl,
  fun i v ls st h => lu_iald rfl,
  fun a0 a1 a2 a3 u0 ls h => lu_inv rfl (by decide) rfl (Nat.le_of_ble_eq_true rfl),
  fun x y ls st h => lu_if rfl rfl,
  fun ls st h => lu_go rfl rfl,
  fun x ls h => lu_bret rfl rfl,
  fun x0 v t st h => lu_go rfl rfl,
  fun v t st h => lu_go rfl rfl,
  fun x0 x1 x2 v t st h => lu_go rfl rfl,
  fun ls st h => lu_go rfl rfl,
  fun x y ls st h => lu_go rfl rfl,
  fun i v ls st h => lu_iald rfl,
  fun v t st h => lu_go rfl rfl,
  fun x0 x1 x2 v t st h => lu_go rfl rfl,
  fun ls st h => lu_go rfl rfl,
  fun x y ls st h => lu_go rfl rfl,
  fun i v ls st h => lu_iald rfl,
  fun a0 a1 a2 ls h => lu_inv rfl (by decide) rfl (Nat.le_of_ble_eq_true rfl),
  fun x0 x1 v t st h => lu_go rfl rfl,
  fun v t st h => lu_go rfl rfl,
  fun x0 x1 x2 v t st h => lu_go rfl rfl,
  fun ls st h => lu_go rfl rfl,
  fun x y ls st h => lu_go rfl rfl,
  fun i v ls st h => lu_iald rfl,
  fun v t st h => lu_go rfl rfl,
  fun x0 x1 x2 v t st h => lu_go rfl rfl,
  fun ls st h => lu_go rfl rfl,
  fun x y ls st h => lu_go rfl rfl,
  fun i v ls st h => lu_iald rfl,
  fun a0 a1 a2 u0 ls h => lu_inv rfl (by decide) rfl (Nat.le_of_ble_eq_true rfl),
  fun x y ls st h => lu_if rfl rfl,
  fun ls st h => lu_go rfl rfl,
  fun x ls h => lu_bret rfl rfl,
  fun x0 v t st h => lu_go rfl rfl,
  fun a0 ls h => lu_inv rfl (by decide) rfl (Nat.le_of_ble_eq_true rfl),
  fun x0 x1 v t st h => lu_go rfl rfl,
  fun a0 u0 ls h => lu_inv rfl (by decide) rfl (Nat.le_of_ble_eq_true rfl),
  fun x y ls st h => lu_if rfl rfl,
  fun ls st h => lu_go rfl rfl,
  fun x ls h => lu_bret rfl rfl,
  fun x0 v t st h => lu_go rfl rfl,
  fun v t st h => lu_go rfl rfl,
  fun x0 x1 x2 v t st h => lu_go rfl rfl,
  fun ls st h => lu_go rfl rfl,
  fun x y ls st h => lu_go rfl rfl,
  fun i v ls st h => lu_iald rfl,
  fun v t st h => lu_go rfl rfl,
  fun x0 x1 x2 v t st h => lu_go rfl rfl,
  fun ls st h => lu_go rfl rfl,
  fun x y ls st h => lu_go rfl rfl,
  fun i v ls st h => lu_iald rfl,
  fun a0 a1 a2 ls h => lu_inv rfl (by decide) rfl (Nat.le_of_ble_eq_true rfl),
  fun x0 x1 v t st h => lu_go rfl rfl,
  fun v t st h => lu_go rfl rfl,
  fun x0 x1 x2 v t st h => lu_go rfl rfl,
  fun ls st h => lu_go rfl rfl⟩
set_option maxRecDepth 100000 in
theorem S192_4 : (∀ (x y : Int32) (ls : eL) (st : List Value) (h : eH), lu L xs 405 ls (.int y :: .int x :: st) h = lu L xs 406 ls (.int (x + y) :: st) h) ∧
  (∀ (i : Int32) (v : UInt32) (ls : eL) (st : List Value) (h : eH), lu L xs 406 ls (.int i :: .float v :: st) h = inR i L (lu L xs 407 ls (.int (xs i.toNatClampNeg) :: st) h)) ∧
  (∀ (v : UInt32) (t : eL) (st : List Value) (h : eH), lu L xs 407 (some (.float v) :: t) st h = lu L xs 408 (some (.float v) :: t) (.float v :: st) h) ∧
  (∀ (x0 x1 x2 : Option Value) (v : Int32) (t : eL) (st : List Value) (h : eH), lu L xs 408 (x0 :: x1 :: x2 :: some (.int v) :: t) st h = lu L xs 409 (x0 :: x1 :: x2 :: some (.int v) :: t) (.int v :: st) h) ∧
  (∀ (ls : eL) (st : List Value) (h : eH), lu L xs 409 ls st h = lu L xs 410 ls (.int (nI 2) :: st) h) ∧
  (∀ (x y : Int32) (ls : eL) (st : List Value) (h : eH), lu L xs 410 ls (.int y :: .int x :: st) h = lu L xs 411 ls (.int (x + y) :: st) h) ∧
  (∀ (i : Int32) (v : UInt32) (ls : eL) (st : List Value) (h : eH), lu L xs 411 ls (.int i :: .float v :: st) h = inR i L (lu L xs 412 ls (.int (xs i.toNatClampNeg) :: st) h)) ∧
  (∀ (a0 : Nat) (a1 : Int32) (a2 : Int32) (u0 : Int32) (ls : eL) (h : eH), lu L xs 412 ls [.int a2, .int a1, .ref a0, .int u0] h = cl (den 73 [.ref a0, .int a1, .int a2] h) (fun v h => lu L xs 415 ls (v.toList ++ [.int u0]) h)) ∧
  (∀ (x y : Int32) (ls : eL) (st : List Value) (h : eH), lu L xs 415 ls (.int y :: .int x :: st) h = if x = y then lu L xs 758 ls st h else lu L xs 418 ls st h) ∧
  (∀ (ls : eL) (st : List Value) (h : eH), lu L xs 418 ls st h = lu L xs 419 ls (.int (nI 0) :: st) h) ∧
  (∀ (x : Int32) (ls : eL) (h : eH), lu L xs 419 ls [.int x] h = bo (x == 0 || x == 1) (some (some (.int x), h))) ∧
  (∀ (x0 : Option Value) (v : Nat) (t : eL) (st : List Value) (h : eH), lu L xs 420 (x0 :: some (.ref v) :: t) st h = lu L xs 421 (x0 :: some (.ref v) :: t) (.ref v :: st) h) ∧
  (∀ (a0 : Nat) (ls : eL) (h : eH), lu L xs 421 ls [.ref a0] h = cl (den 188 [.ref a0] h) (fun v h => lu L xs 424 ls (v.toList ++ []) h)) ∧
  (∀ (x0 x1 : Option Value) (v : Nat) (t : eL) (st : List Value) (h : eH), lu L xs 424 (x0 :: x1 :: some (.ref v) :: t) st h = lu L xs 425 (x0 :: x1 :: some (.ref v) :: t) (.ref v :: st) h) ∧
  (∀ (a0 : Nat) (u0 : Int32) (ls : eL) (h : eH), lu L xs 425 ls [.ref a0, .int u0] h = cl (den 79 [.ref a0] h) (fun v h => lu L xs 428 ls (v.toList ++ [.int u0]) h)) ∧
  (∀ (x y : Int32) (ls : eL) (st : List Value) (h : eH), lu L xs 428 ls (.int y :: .int x :: st) h = if x = y then lu L xs 758 ls st h else lu L xs 431 ls st h) ∧
  (∀ (ls : eL) (st : List Value) (h : eH), lu L xs 431 ls st h = lu L xs 432 ls (.int (nI 0) :: st) h) ∧
  (∀ (x : Int32) (ls : eL) (h : eH), lu L xs 432 ls [.int x] h = bo (x == 0 || x == 1) (some (some (.int x), h))) ∧
  (∀ (x0 : Option Value) (v : Nat) (t : eL) (st : List Value) (h : eH), lu L xs 433 (x0 :: some (.ref v) :: t) st h = lu L xs 434 (x0 :: some (.ref v) :: t) (.ref v :: st) h) ∧
  (∀ (v : UInt32) (t : eL) (st : List Value) (h : eH), lu L xs 434 (some (.float v) :: t) st h = lu L xs 435 (some (.float v) :: t) (.float v :: st) h) ∧
  (∀ (x0 x1 x2 : Option Value) (v : Int32) (t : eL) (st : List Value) (h : eH), lu L xs 435 (x0 :: x1 :: x2 :: some (.int v) :: t) st h = lu L xs 436 (x0 :: x1 :: x2 :: some (.int v) :: t) (.int v :: st) h) ∧
  (∀ (ls : eL) (st : List Value) (h : eH), lu L xs 436 ls st h = lu L xs 437 ls (.int (nI 1) :: st) h) ∧
  (∀ (x y : Int32) (ls : eL) (st : List Value) (h : eH), lu L xs 437 ls (.int y :: .int x :: st) h = lu L xs 438 ls (.int (x + y) :: st) h) ∧
  (∀ (i : Int32) (v : UInt32) (ls : eL) (st : List Value) (h : eH), lu L xs 438 ls (.int i :: .float v :: st) h = inR i L (lu L xs 439 ls (.int (xs i.toNatClampNeg) :: st) h)) ∧
  (∀ (v : UInt32) (t : eL) (st : List Value) (h : eH), lu L xs 439 (some (.float v) :: t) st h = lu L xs 440 (some (.float v) :: t) (.float v :: st) h) ∧
  (∀ (x0 x1 x2 : Option Value) (v : Int32) (t : eL) (st : List Value) (h : eH), lu L xs 440 (x0 :: x1 :: x2 :: some (.int v) :: t) st h = lu L xs 441 (x0 :: x1 :: x2 :: some (.int v) :: t) (.int v :: st) h) ∧
  (∀ (ls : eL) (st : List Value) (h : eH), lu L xs 441 ls st h = lu L xs 442 ls (.int (nI 2) :: st) h) ∧
  (∀ (x y : Int32) (ls : eL) (st : List Value) (h : eH), lu L xs 442 ls (.int y :: .int x :: st) h = lu L xs 443 ls (.int (x + y) :: st) h) ∧
  (∀ (i : Int32) (v : UInt32) (ls : eL) (st : List Value) (h : eH), lu L xs 443 ls (.int i :: .float v :: st) h = inR i L (lu L xs 444 ls (.int (xs i.toNatClampNeg) :: st) h)) ∧
  (∀ (v : UInt32) (t : eL) (st : List Value) (h : eH), lu L xs 444 (some (.float v) :: t) st h = lu L xs 445 (some (.float v) :: t) (.float v :: st) h) ∧
  (∀ (x0 x1 x2 : Option Value) (v : Int32) (t : eL) (st : List Value) (h : eH), lu L xs 445 (x0 :: x1 :: x2 :: some (.int v) :: t) st h = lu L xs 446 (x0 :: x1 :: x2 :: some (.int v) :: t) (.int v :: st) h) ∧
  (∀ (ls : eL) (st : List Value) (h : eH), lu L xs 446 ls st h = lu L xs 447 ls (.int (nI 3) :: st) h) ∧
  (∀ (x y : Int32) (ls : eL) (st : List Value) (h : eH), lu L xs 447 ls (.int y :: .int x :: st) h = lu L xs 448 ls (.int (x + y) :: st) h) ∧
  (∀ (i : Int32) (v : UInt32) (ls : eL) (st : List Value) (h : eH), lu L xs 448 ls (.int i :: .float v :: st) h = inR i L (lu L xs 449 ls (.int (xs i.toNatClampNeg) :: st) h)) ∧
  (∀ (a0 : Nat) (a1 : Int32) (a2 : Int32) (a3 : Int32) (ls : eL) (h : eH), lu L xs 449 ls [.int a3, .int a2, .int a1, .ref a0] h = cl (den 187 [.ref a0, .int a1, .int a2, .int a3] h) (fun v h => lu L xs 452 ls (v.toList ++ []) h)) ∧
  (∀ (x0 x1 : Option Value) (v : Nat) (t : eL) (st : List Value) (h : eH), lu L xs 452 (x0 :: x1 :: some (.ref v) :: t) st h = lu L xs 453 (x0 :: x1 :: some (.ref v) :: t) (.ref v :: st) h) ∧
  (∀ (v : UInt32) (t : eL) (st : List Value) (h : eH), lu L xs 453 (some (.float v) :: t) st h = lu L xs 454 (some (.float v) :: t) (.float v :: st) h) ∧
  (∀ (x0 x1 x2 : Option Value) (v : Int32) (t : eL) (st : List Value) (h : eH), lu L xs 454 (x0 :: x1 :: x2 :: some (.int v) :: t) st h = lu L xs 455 (x0 :: x1 :: x2 :: some (.int v) :: t) (.int v :: st) h) ∧
  (∀ (ls : eL) (st : List Value) (h : eH), lu L xs 455 ls st h = lu L xs 456 ls (.int (nI 1) :: st) h) ∧
  (∀ (x y : Int32) (ls : eL) (st : List Value) (h : eH), lu L xs 456 ls (.int y :: .int x :: st) h = lu L xs 457 ls (.int (x + y) :: st) h) ∧
  (∀ (i : Int32) (v : UInt32) (ls : eL) (st : List Value) (h : eH), lu L xs 457 ls (.int i :: .float v :: st) h = inR i L (lu L xs 458 ls (.int (xs i.toNatClampNeg) :: st) h)) ∧
  (∀ (v : UInt32) (t : eL) (st : List Value) (h : eH), lu L xs 458 (some (.float v) :: t) st h = lu L xs 459 (some (.float v) :: t) (.float v :: st) h) ∧
  (∀ (x0 x1 x2 : Option Value) (v : Int32) (t : eL) (st : List Value) (h : eH), lu L xs 459 (x0 :: x1 :: x2 :: some (.int v) :: t) st h = lu L xs 460 (x0 :: x1 :: x2 :: some (.int v) :: t) (.int v :: st) h) ∧
  (∀ (ls : eL) (st : List Value) (h : eH), lu L xs 460 ls st h = lu L xs 461 ls (.int (nI 2) :: st) h) ∧
  (∀ (x y : Int32) (ls : eL) (st : List Value) (h : eH), lu L xs 461 ls (.int y :: .int x :: st) h = lu L xs 462 ls (.int (x + y) :: st) h) ∧
  (∀ (i : Int32) (v : UInt32) (ls : eL) (st : List Value) (h : eH), lu L xs 462 ls (.int i :: .float v :: st) h = inR i L (lu L xs 463 ls (.int (xs i.toNatClampNeg) :: st) h)) ∧
  (∀ (v : UInt32) (t : eL) (st : List Value) (h : eH), lu L xs 463 (some (.float v) :: t) st h = lu L xs 464 (some (.float v) :: t) (.float v :: st) h) ∧
  (∀ (x0 x1 x2 : Option Value) (v : Int32) (t : eL) (st : List Value) (h : eH), lu L xs 464 (x0 :: x1 :: x2 :: some (.int v) :: t) st h = lu L xs 465 (x0 :: x1 :: x2 :: some (.int v) :: t) (.int v :: st) h) ∧
  (∀ (ls : eL) (st : List Value) (h : eH), lu L xs 465 ls st h = lu L xs 466 ls (.int (nI 3) :: st) h) ∧
  (∀ (x y : Int32) (ls : eL) (st : List Value) (h : eH), lu L xs 466 ls (.int y :: .int x :: st) h = lu L xs 467 ls (.int (x + y) :: st) h) ∧
  (∀ (i : Int32) (v : UInt32) (ls : eL) (st : List Value) (h : eH), lu L xs 467 ls (.int i :: .float v :: st) h = inR i L (lu L xs 468 ls (.int (xs i.toNatClampNeg) :: st) h)) ∧
  (∀ (a0 : Nat) (a1 : Int32) (a2 : Int32) (a3 : Int32) (u0 : Int32) (ls : eL) (h : eH), lu L xs 468 ls [.int a3, .int a2, .int a1, .ref a0, .int u0] h = cl (den 78 [.ref a0, .int a1, .int a2, .int a3] h) (fun v h => lu L xs 471 ls (v.toList ++ [.int u0]) h)) ∧
  (∀ (x y : Int32) (ls : eL) (st : List Value) (h : eH), lu L xs 471 ls (.int y :: .int x :: st) h = if x = y then lu L xs 758 ls st h else lu L xs 474 ls st h) ∧
  (∀ (ls : eL) (st : List Value) (h : eH), lu L xs 474 ls st h = lu L xs 475 ls (.int (nI 0) :: st) h) ∧
  (∀ (x : Int32) (ls : eL) (h : eH), lu L xs 475 ls [.int x] h = bo (x == 0 || x == 1) (some (some (.int x), h))) ∧
  (∀ (x0 : Option Value) (v : Nat) (t : eL) (st : List Value) (h : eH), lu L xs 476 (x0 :: some (.ref v) :: t) st h = lu L xs 477 (x0 :: some (.ref v) :: t) (.ref v :: st) h) ∧
  (∀ (a0 : Nat) (ls : eL) (h : eH), lu L xs 477 ls [.ref a0] h = cl (den 139 [.ref a0] h) (fun v h => lu L xs 480 ls (v.toList ++ []) h)) ∧
  (∀ (x0 x1 : Option Value) (v : Nat) (t : eL) (st : List Value) (h : eH), lu L xs 480 (x0 :: x1 :: some (.ref v) :: t) st h = lu L xs 481 (x0 :: x1 :: some (.ref v) :: t) (.ref v :: st) h) ∧
  (∀ (a0 : Nat) (u0 : Int32) (ls : eL) (h : eH), lu L xs 481 ls [.ref a0, .int u0] h = cl (den 50 [.ref a0] h) (fun v h => lu L xs 484 ls (v.toList ++ [.int u0]) h)) ∧
  (∀ (x y : Int32) (ls : eL) (st : List Value) (h : eH), lu L xs 484 ls (.int y :: .int x :: st) h = if x = y then lu L xs 758 ls st h else lu L xs 487 ls st h) := ⟨fun x y ls st h => lu_go rfl rfl,
  fun i v ls st h => lu_iald rfl,
  fun v t st h => lu_go rfl rfl,
  fun x0 x1 x2 v t st h => lu_go rfl rfl,
  fun ls st h => lu_go rfl rfl,
  fun x y ls st h => lu_go rfl rfl,
  fun i v ls st h => lu_iald rfl,
  fun a0 a1 a2 u0 ls h => lu_inv rfl (by decide) rfl (Nat.le_of_ble_eq_true rfl),
  fun x y ls st h => lu_if rfl rfl,
  fun ls st h => lu_go rfl rfl,
  fun x ls h => lu_bret rfl rfl,
  fun x0 v t st h => lu_go rfl rfl,
  fun a0 ls h => lu_inv rfl (by decide) rfl (Nat.le_of_ble_eq_true rfl),
  fun x0 x1 v t st h => lu_go rfl rfl,
  fun a0 u0 ls h => lu_inv rfl (by decide) rfl (Nat.le_of_ble_eq_true rfl),
  fun x y ls st h => lu_if rfl rfl,
  fun ls st h => lu_go rfl rfl,
  fun x ls h => lu_bret rfl rfl,
  fun x0 v t st h => lu_go rfl rfl,
  fun v t st h => lu_go rfl rfl,
  fun x0 x1 x2 v t st h => lu_go rfl rfl,
  fun ls st h => lu_go rfl rfl,
  fun x y ls st h => lu_go rfl rfl,
  fun i v ls st h => lu_iald rfl,
  fun v t st h => lu_go rfl rfl,
  fun x0 x1 x2 v t st h => lu_go rfl rfl,
  fun ls st h => lu_go rfl rfl,
  fun x y ls st h => lu_go rfl rfl,
  fun i v ls st h => lu_iald rfl,
  fun v t st h => lu_go rfl rfl,
  fun x0 x1 x2 v t st h => lu_go rfl rfl,
  fun ls st h => lu_go rfl rfl,
  fun x y ls st h => lu_go rfl rfl,
  fun i v ls st h => lu_iald rfl,
  fun a0 a1 a2 a3 ls h => lu_inv rfl (by decide) rfl (Nat.le_of_ble_eq_true rfl),
  fun x0 x1 v t st h => lu_go rfl rfl,
  fun v t st h => lu_go rfl rfl,
  fun x0 x1 x2 v t st h => lu_go rfl rfl,
  fun ls st h => lu_go rfl rfl,
  fun x y ls st h => lu_go rfl rfl,
  fun i v ls st h => lu_iald rfl,
  fun v t st h => lu_go rfl rfl,
  fun x0 x1 x2 v t st h => lu_go rfl rfl,
  fun ls st h => lu_go rfl rfl,
  fun x y ls st h => lu_go rfl rfl,
  fun i v ls st h => lu_iald rfl,
  fun v t st h => lu_go rfl rfl,
  fun x0 x1 x2 v t st h => lu_go rfl rfl,
  fun ls st h => lu_go rfl rfl,
  fun x y ls st h => lu_go rfl rfl,
  fun i v ls st h => lu_iald rfl,
  fun a0 a1 a2 a3 u0 ls h => lu_inv rfl (by decide) rfl (Nat.le_of_ble_eq_true rfl),
  fun x y ls st h => lu_if rfl rfl,
  fun ls st h => lu_go rfl rfl,
  fun x ls h => lu_bret rfl rfl,
  fun x0 v t st h => lu_go rfl rfl,
  fun a0 ls h => lu_inv rfl (by decide) rfl (Nat.le_of_ble_eq_true rfl),
  fun x0 x1 v t st h => lu_go rfl rfl,
  fun a0 u0 ls h => lu_inv rfl (by decide) rfl (Nat.le_of_ble_eq_true rfl),
  fun x y ls st h => lu_if rfl rfl⟩
set_option maxRecDepth 100000 in
theorem S192_5 : (∀ (ls : eL) (st : List Value) (h : eH), lu L xs 487 ls st h = lu L xs 488 ls (.int (nI 0) :: st) h) ∧
  (∀ (x : Int32) (ls : eL) (h : eH), lu L xs 488 ls [.int x] h = bo (x == 0 || x == 1) (some (some (.int x), h))) ∧
  (∀ (x0 : Option Value) (v : Nat) (t : eL) (st : List Value) (h : eH), lu L xs 489 (x0 :: some (.ref v) :: t) st h = lu L xs 490 (x0 :: some (.ref v) :: t) (.ref v :: st) h) ∧
  (∀ (v : UInt32) (t : eL) (st : List Value) (h : eH), lu L xs 490 (some (.float v) :: t) st h = lu L xs 491 (some (.float v) :: t) (.float v :: st) h) ∧
  (∀ (x0 x1 x2 : Option Value) (v : Int32) (t : eL) (st : List Value) (h : eH), lu L xs 491 (x0 :: x1 :: x2 :: some (.int v) :: t) st h = lu L xs 492 (x0 :: x1 :: x2 :: some (.int v) :: t) (.int v :: st) h) ∧
  (∀ (ls : eL) (st : List Value) (h : eH), lu L xs 492 ls st h = lu L xs 493 ls (.int (nI 1) :: st) h) ∧
  (∀ (x y : Int32) (ls : eL) (st : List Value) (h : eH), lu L xs 493 ls (.int y :: .int x :: st) h = lu L xs 494 ls (.int (x + y) :: st) h) ∧
  (∀ (i : Int32) (v : UInt32) (ls : eL) (st : List Value) (h : eH), lu L xs 494 ls (.int i :: .float v :: st) h = inR i L (lu L xs 495 ls (.int (xs i.toNatClampNeg) :: st) h)) ∧
  (∀ (v : UInt32) (t : eL) (st : List Value) (h : eH), lu L xs 495 (some (.float v) :: t) st h = lu L xs 496 (some (.float v) :: t) (.float v :: st) h) ∧
  (∀ (x0 x1 x2 : Option Value) (v : Int32) (t : eL) (st : List Value) (h : eH), lu L xs 496 (x0 :: x1 :: x2 :: some (.int v) :: t) st h = lu L xs 497 (x0 :: x1 :: x2 :: some (.int v) :: t) (.int v :: st) h) ∧
  (∀ (ls : eL) (st : List Value) (h : eH), lu L xs 497 ls st h = lu L xs 498 ls (.int (nI 2) :: st) h) ∧
  (∀ (x y : Int32) (ls : eL) (st : List Value) (h : eH), lu L xs 498 ls (.int y :: .int x :: st) h = lu L xs 499 ls (.int (x + y) :: st) h) ∧
  (∀ (i : Int32) (v : UInt32) (ls : eL) (st : List Value) (h : eH), lu L xs 499 ls (.int i :: .float v :: st) h = inR i L (lu L xs 500 ls (.int (xs i.toNatClampNeg) :: st) h)) ∧
  (∀ (a0 : Nat) (a1 : Int32) (a2 : Int32) (ls : eL) (h : eH), lu L xs 500 ls [.int a2, .int a1, .ref a0] h = cl (den 159 [.ref a0, .int a1, .int a2] h) (fun v h => lu L xs 503 ls (v.toList ++ []) h)) ∧
  (∀ (x0 x1 : Option Value) (v : Nat) (t : eL) (st : List Value) (h : eH), lu L xs 503 (x0 :: x1 :: some (.ref v) :: t) st h = lu L xs 504 (x0 :: x1 :: some (.ref v) :: t) (.ref v :: st) h) ∧
  (∀ (v : UInt32) (t : eL) (st : List Value) (h : eH), lu L xs 504 (some (.float v) :: t) st h = lu L xs 505 (some (.float v) :: t) (.float v :: st) h) ∧
  (∀ (x0 x1 x2 : Option Value) (v : Int32) (t : eL) (st : List Value) (h : eH), lu L xs 505 (x0 :: x1 :: x2 :: some (.int v) :: t) st h = lu L xs 506 (x0 :: x1 :: x2 :: some (.int v) :: t) (.int v :: st) h) ∧
  (∀ (ls : eL) (st : List Value) (h : eH), lu L xs 506 ls st h = lu L xs 507 ls (.int (nI 1) :: st) h) ∧
  (∀ (x y : Int32) (ls : eL) (st : List Value) (h : eH), lu L xs 507 ls (.int y :: .int x :: st) h = lu L xs 508 ls (.int (x + y) :: st) h) ∧
  (∀ (i : Int32) (v : UInt32) (ls : eL) (st : List Value) (h : eH), lu L xs 508 ls (.int i :: .float v :: st) h = inR i L (lu L xs 509 ls (.int (xs i.toNatClampNeg) :: st) h)) ∧
  (∀ (v : UInt32) (t : eL) (st : List Value) (h : eH), lu L xs 509 (some (.float v) :: t) st h = lu L xs 510 (some (.float v) :: t) (.float v :: st) h) ∧
  (∀ (x0 x1 x2 : Option Value) (v : Int32) (t : eL) (st : List Value) (h : eH), lu L xs 510 (x0 :: x1 :: x2 :: some (.int v) :: t) st h = lu L xs 511 (x0 :: x1 :: x2 :: some (.int v) :: t) (.int v :: st) h) ∧
  (∀ (ls : eL) (st : List Value) (h : eH), lu L xs 511 ls st h = lu L xs 512 ls (.int (nI 2) :: st) h) ∧
  (∀ (x y : Int32) (ls : eL) (st : List Value) (h : eH), lu L xs 512 ls (.int y :: .int x :: st) h = lu L xs 513 ls (.int (x + y) :: st) h) ∧
  (∀ (i : Int32) (v : UInt32) (ls : eL) (st : List Value) (h : eH), lu L xs 513 ls (.int i :: .float v :: st) h = inR i L (lu L xs 514 ls (.int (xs i.toNatClampNeg) :: st) h)) ∧
  (∀ (a0 : Nat) (a1 : Int32) (a2 : Int32) (u0 : Int32) (ls : eL) (h : eH), lu L xs 514 ls [.int a2, .int a1, .ref a0, .int u0] h = cl (den 60 [.ref a0, .int a1, .int a2] h) (fun v h => lu L xs 517 ls (v.toList ++ [.int u0]) h)) ∧
  (∀ (x y : Int32) (ls : eL) (st : List Value) (h : eH), lu L xs 517 ls (.int y :: .int x :: st) h = if x = y then lu L xs 758 ls st h else lu L xs 520 ls st h) ∧
  (∀ (ls : eL) (st : List Value) (h : eH), lu L xs 520 ls st h = lu L xs 521 ls (.int (nI 0) :: st) h) ∧
  (∀ (x : Int32) (ls : eL) (h : eH), lu L xs 521 ls [.int x] h = bo (x == 0 || x == 1) (some (some (.int x), h))) ∧
  (∀ (x0 : Option Value) (v : Nat) (t : eL) (st : List Value) (h : eH), lu L xs 522 (x0 :: some (.ref v) :: t) st h = lu L xs 523 (x0 :: some (.ref v) :: t) (.ref v :: st) h) ∧
  (∀ (a0 : Nat) (ls : eL) (h : eH), lu L xs 523 ls [.ref a0] h = cl (den 133 [.ref a0] h) (fun v h => lu L xs 526 ls (v.toList ++ []) h)) ∧
  (∀ (x0 x1 : Option Value) (v : Nat) (t : eL) (st : List Value) (h : eH), lu L xs 526 (x0 :: x1 :: some (.ref v) :: t) st h = lu L xs 527 (x0 :: x1 :: some (.ref v) :: t) (.ref v :: st) h) ∧
  (∀ (a0 : Nat) (u0 : Int32) (ls : eL) (h : eH), lu L xs 527 ls [.ref a0, .int u0] h = cl (den 40 [.ref a0] h) (fun v h => lu L xs 530 ls (v.toList ++ [.int u0]) h)) ∧
  (∀ (x y : Int32) (ls : eL) (st : List Value) (h : eH), lu L xs 530 ls (.int y :: .int x :: st) h = if x = y then lu L xs 758 ls st h else lu L xs 533 ls st h) ∧
  (∀ (ls : eL) (st : List Value) (h : eH), lu L xs 533 ls st h = lu L xs 534 ls (.int (nI 0) :: st) h) ∧
  (∀ (x : Int32) (ls : eL) (h : eH), lu L xs 534 ls [.int x] h = bo (x == 0 || x == 1) (some (some (.int x), h))) ∧
  (∀ (x0 : Option Value) (v : Nat) (t : eL) (st : List Value) (h : eH), lu L xs 535 (x0 :: some (.ref v) :: t) st h = lu L xs 536 (x0 :: some (.ref v) :: t) (.ref v :: st) h) ∧
  (∀ (v : UInt32) (t : eL) (st : List Value) (h : eH), lu L xs 536 (some (.float v) :: t) st h = lu L xs 537 (some (.float v) :: t) (.float v :: st) h) ∧
  (∀ (x0 x1 x2 : Option Value) (v : Int32) (t : eL) (st : List Value) (h : eH), lu L xs 537 (x0 :: x1 :: x2 :: some (.int v) :: t) st h = lu L xs 538 (x0 :: x1 :: x2 :: some (.int v) :: t) (.int v :: st) h) ∧
  (∀ (ls : eL) (st : List Value) (h : eH), lu L xs 538 ls st h = lu L xs 539 ls (.int (nI 1) :: st) h) ∧
  (∀ (x y : Int32) (ls : eL) (st : List Value) (h : eH), lu L xs 539 ls (.int y :: .int x :: st) h = lu L xs 540 ls (.int (x + y) :: st) h) ∧
  (∀ (i : Int32) (v : UInt32) (ls : eL) (st : List Value) (h : eH), lu L xs 540 ls (.int i :: .float v :: st) h = inR i L (lu L xs 541 ls (.int (xs i.toNatClampNeg) :: st) h)) ∧
  (∀ (a0 : Nat) (a1 : Int32) (ls : eL) (h : eH), lu L xs 541 ls [.int a1, .ref a0] h = cl (den 131 [.ref a0, .int a1] h) (fun v h => lu L xs 544 ls (v.toList ++ []) h)) ∧
  (∀ (x0 x1 : Option Value) (v : Nat) (t : eL) (st : List Value) (h : eH), lu L xs 544 (x0 :: x1 :: some (.ref v) :: t) st h = lu L xs 545 (x0 :: x1 :: some (.ref v) :: t) (.ref v :: st) h) ∧
  (∀ (v : UInt32) (t : eL) (st : List Value) (h : eH), lu L xs 545 (some (.float v) :: t) st h = lu L xs 546 (some (.float v) :: t) (.float v :: st) h) ∧
  (∀ (x0 x1 x2 : Option Value) (v : Int32) (t : eL) (st : List Value) (h : eH), lu L xs 546 (x0 :: x1 :: x2 :: some (.int v) :: t) st h = lu L xs 547 (x0 :: x1 :: x2 :: some (.int v) :: t) (.int v :: st) h) ∧
  (∀ (ls : eL) (st : List Value) (h : eH), lu L xs 547 ls st h = lu L xs 548 ls (.int (nI 1) :: st) h) ∧
  (∀ (x y : Int32) (ls : eL) (st : List Value) (h : eH), lu L xs 548 ls (.int y :: .int x :: st) h = lu L xs 549 ls (.int (x + y) :: st) h) ∧
  (∀ (i : Int32) (v : UInt32) (ls : eL) (st : List Value) (h : eH), lu L xs 549 ls (.int i :: .float v :: st) h = inR i L (lu L xs 550 ls (.int (xs i.toNatClampNeg) :: st) h)) ∧
  (∀ (a0 : Nat) (a1 : Int32) (u0 : Int32) (ls : eL) (h : eH), lu L xs 550 ls [.int a1, .ref a0, .int u0] h = cl (den 39 [.ref a0, .int a1] h) (fun v h => lu L xs 553 ls (v.toList ++ [.int u0]) h)) ∧
  (∀ (x y : Int32) (ls : eL) (st : List Value) (h : eH), lu L xs 553 ls (.int y :: .int x :: st) h = if x = y then lu L xs 758 ls st h else lu L xs 556 ls st h) ∧
  (∀ (ls : eL) (st : List Value) (h : eH), lu L xs 556 ls st h = lu L xs 557 ls (.int (nI 0) :: st) h) ∧
  (∀ (x : Int32) (ls : eL) (h : eH), lu L xs 557 ls [.int x] h = bo (x == 0 || x == 1) (some (some (.int x), h))) ∧
  (∀ (x0 : Option Value) (v : Nat) (t : eL) (st : List Value) (h : eH), lu L xs 558 (x0 :: some (.ref v) :: t) st h = lu L xs 559 (x0 :: some (.ref v) :: t) (.ref v :: st) h) ∧
  (∀ (a0 : Nat) (ls : eL) (h : eH), lu L xs 559 ls [.ref a0] h = cl (den 174 [.ref a0] h) (fun v h => lu L xs 562 ls (v.toList ++ []) h)) ∧
  (∀ (x0 x1 : Option Value) (v : Nat) (t : eL) (st : List Value) (h : eH), lu L xs 562 (x0 :: x1 :: some (.ref v) :: t) st h = lu L xs 563 (x0 :: x1 :: some (.ref v) :: t) (.ref v :: st) h) ∧
  (∀ (a0 : Nat) (u0 : Int32) (ls : eL) (h : eH), lu L xs 563 ls [.ref a0, .int u0] h = cl (den 71 [.ref a0] h) (fun v h => lu L xs 566 ls (v.toList ++ [.int u0]) h)) ∧
  (∀ (x y : Int32) (ls : eL) (st : List Value) (h : eH), lu L xs 566 ls (.int y :: .int x :: st) h = if x = y then lu L xs 758 ls st h else lu L xs 569 ls st h) ∧
  (∀ (ls : eL) (st : List Value) (h : eH), lu L xs 569 ls st h = lu L xs 570 ls (.int (nI 0) :: st) h) ∧
  (∀ (x : Int32) (ls : eL) (h : eH), lu L xs 570 ls [.int x] h = bo (x == 0 || x == 1) (some (some (.int x), h))) := ⟨fun ls st h => lu_go rfl rfl,
  fun x ls h => lu_bret rfl rfl,
  fun x0 v t st h => lu_go rfl rfl,
  fun v t st h => lu_go rfl rfl,
  fun x0 x1 x2 v t st h => lu_go rfl rfl,
  fun ls st h => lu_go rfl rfl,
  fun x y ls st h => lu_go rfl rfl,
  fun i v ls st h => lu_iald rfl,
  fun v t st h => lu_go rfl rfl,
  fun x0 x1 x2 v t st h => lu_go rfl rfl,
  fun ls st h => lu_go rfl rfl,
  fun x y ls st h => lu_go rfl rfl,
  fun i v ls st h => lu_iald rfl,
  fun a0 a1 a2 ls h => lu_inv rfl (by decide) rfl (Nat.le_of_ble_eq_true rfl),
  fun x0 x1 v t st h => lu_go rfl rfl,
  fun v t st h => lu_go rfl rfl,
  fun x0 x1 x2 v t st h => lu_go rfl rfl,
  fun ls st h => lu_go rfl rfl,
  fun x y ls st h => lu_go rfl rfl,
  fun i v ls st h => lu_iald rfl,
  fun v t st h => lu_go rfl rfl,
  fun x0 x1 x2 v t st h => lu_go rfl rfl,
  fun ls st h => lu_go rfl rfl,
  fun x y ls st h => lu_go rfl rfl,
  fun i v ls st h => lu_iald rfl,
  fun a0 a1 a2 u0 ls h => lu_inv rfl (by decide) rfl (Nat.le_of_ble_eq_true rfl),
  fun x y ls st h => lu_if rfl rfl,
  fun ls st h => lu_go rfl rfl,
  fun x ls h => lu_bret rfl rfl,
  fun x0 v t st h => lu_go rfl rfl,
  fun a0 ls h => lu_inv rfl (by decide) rfl (Nat.le_of_ble_eq_true rfl),
  fun x0 x1 v t st h => lu_go rfl rfl,
  fun a0 u0 ls h => lu_inv rfl (by decide) rfl (Nat.le_of_ble_eq_true rfl),
  fun x y ls st h => lu_if rfl rfl,
  fun ls st h => lu_go rfl rfl,
  fun x ls h => lu_bret rfl rfl,
  fun x0 v t st h => lu_go rfl rfl,
  fun v t st h => lu_go rfl rfl,
  fun x0 x1 x2 v t st h => lu_go rfl rfl,
  fun ls st h => lu_go rfl rfl,
  fun x y ls st h => lu_go rfl rfl,
  fun i v ls st h => lu_iald rfl,
  fun a0 a1 ls h => lu_inv rfl (by decide) rfl (Nat.le_of_ble_eq_true rfl),
  fun x0 x1 v t st h => lu_go rfl rfl,
  fun v t st h => lu_go rfl rfl,
  fun x0 x1 x2 v t st h => lu_go rfl rfl,
  fun ls st h => lu_go rfl rfl,
  fun x y ls st h => lu_go rfl rfl,
  fun i v ls st h => lu_iald rfl,
  fun a0 a1 u0 ls h => lu_inv rfl (by decide) rfl (Nat.le_of_ble_eq_true rfl),
  fun x y ls st h => lu_if rfl rfl,
  fun ls st h => lu_go rfl rfl,
  fun x ls h => lu_bret rfl rfl,
  fun x0 v t st h => lu_go rfl rfl,
  fun a0 ls h => lu_inv rfl (by decide) rfl (Nat.le_of_ble_eq_true rfl),
  fun x0 x1 v t st h => lu_go rfl rfl,
  fun a0 u0 ls h => lu_inv rfl (by decide) rfl (Nat.le_of_ble_eq_true rfl),
  fun x y ls st h => lu_if rfl rfl,
  fun ls st h => lu_go rfl rfl,
  fun x ls h => lu_bret rfl rfl⟩
set_option maxRecDepth 100000 in
theorem S192_6 : (∀ (x0 : Option Value) (v : Nat) (t : eL) (st : List Value) (h : eH), lu L xs 571 (x0 :: some (.ref v) :: t) st h = lu L xs 572 (x0 :: some (.ref v) :: t) (.ref v :: st) h) ∧
  (∀ (v : UInt32) (t : eL) (st : List Value) (h : eH), lu L xs 572 (some (.float v) :: t) st h = lu L xs 573 (some (.float v) :: t) (.float v :: st) h) ∧
  (∀ (x0 x1 x2 : Option Value) (v : Int32) (t : eL) (st : List Value) (h : eH), lu L xs 573 (x0 :: x1 :: x2 :: some (.int v) :: t) st h = lu L xs 574 (x0 :: x1 :: x2 :: some (.int v) :: t) (.int v :: st) h) ∧
  (∀ (ls : eL) (st : List Value) (h : eH), lu L xs 574 ls st h = lu L xs 575 ls (.int (nI 1) :: st) h) ∧
  (∀ (x y : Int32) (ls : eL) (st : List Value) (h : eH), lu L xs 575 ls (.int y :: .int x :: st) h = lu L xs 576 ls (.int (x + y) :: st) h) ∧
  (∀ (i : Int32) (v : UInt32) (ls : eL) (st : List Value) (h : eH), lu L xs 576 ls (.int i :: .float v :: st) h = inR i L (lu L xs 577 ls (.int (xs i.toNatClampNeg) :: st) h)) ∧
  (∀ (v : UInt32) (t : eL) (st : List Value) (h : eH), lu L xs 577 (some (.float v) :: t) st h = lu L xs 578 (some (.float v) :: t) (.float v :: st) h) ∧
  (∀ (x0 x1 x2 : Option Value) (v : Int32) (t : eL) (st : List Value) (h : eH), lu L xs 578 (x0 :: x1 :: x2 :: some (.int v) :: t) st h = lu L xs 579 (x0 :: x1 :: x2 :: some (.int v) :: t) (.int v :: st) h) ∧
  (∀ (ls : eL) (st : List Value) (h : eH), lu L xs 579 ls st h = lu L xs 580 ls (.int (nI 2) :: st) h) ∧
  (∀ (x y : Int32) (ls : eL) (st : List Value) (h : eH), lu L xs 580 ls (.int y :: .int x :: st) h = lu L xs 581 ls (.int (x + y) :: st) h) ∧
  (∀ (i : Int32) (v : UInt32) (ls : eL) (st : List Value) (h : eH), lu L xs 581 ls (.int i :: .float v :: st) h = inR i L (lu L xs 582 ls (.int (xs i.toNatClampNeg) :: st) h)) ∧
  (∀ (a0 : Nat) (a1 : Int32) (a2 : Int32) (ls : eL) (h : eH), lu L xs 582 ls [.int a2, .int a1, .ref a0] h = cl (den 173 [.ref a0, .int a1, .int a2] h) (fun v h => lu L xs 585 ls (v.toList ++ []) h)) ∧
  (∀ (x0 x1 : Option Value) (v : Nat) (t : eL) (st : List Value) (h : eH), lu L xs 585 (x0 :: x1 :: some (.ref v) :: t) st h = lu L xs 586 (x0 :: x1 :: some (.ref v) :: t) (.ref v :: st) h) ∧
  (∀ (v : UInt32) (t : eL) (st : List Value) (h : eH), lu L xs 586 (some (.float v) :: t) st h = lu L xs 587 (some (.float v) :: t) (.float v :: st) h) ∧
  (∀ (x0 x1 x2 : Option Value) (v : Int32) (t : eL) (st : List Value) (h : eH), lu L xs 587 (x0 :: x1 :: x2 :: some (.int v) :: t) st h = lu L xs 588 (x0 :: x1 :: x2 :: some (.int v) :: t) (.int v :: st) h) ∧
  (∀ (ls : eL) (st : List Value) (h : eH), lu L xs 588 ls st h = lu L xs 589 ls (.int (nI 1) :: st) h) ∧
  (∀ (x y : Int32) (ls : eL) (st : List Value) (h : eH), lu L xs 589 ls (.int y :: .int x :: st) h = lu L xs 590 ls (.int (x + y) :: st) h) ∧
  (∀ (i : Int32) (v : UInt32) (ls : eL) (st : List Value) (h : eH), lu L xs 590 ls (.int i :: .float v :: st) h = inR i L (lu L xs 591 ls (.int (xs i.toNatClampNeg) :: st) h)) ∧
  (∀ (v : UInt32) (t : eL) (st : List Value) (h : eH), lu L xs 591 (some (.float v) :: t) st h = lu L xs 592 (some (.float v) :: t) (.float v :: st) h) ∧
  (∀ (x0 x1 x2 : Option Value) (v : Int32) (t : eL) (st : List Value) (h : eH), lu L xs 592 (x0 :: x1 :: x2 :: some (.int v) :: t) st h = lu L xs 593 (x0 :: x1 :: x2 :: some (.int v) :: t) (.int v :: st) h) ∧
  (∀ (ls : eL) (st : List Value) (h : eH), lu L xs 593 ls st h = lu L xs 594 ls (.int (nI 2) :: st) h) ∧
  (∀ (x y : Int32) (ls : eL) (st : List Value) (h : eH), lu L xs 594 ls (.int y :: .int x :: st) h = lu L xs 595 ls (.int (x + y) :: st) h) ∧
  (∀ (i : Int32) (v : UInt32) (ls : eL) (st : List Value) (h : eH), lu L xs 595 ls (.int i :: .float v :: st) h = inR i L (lu L xs 596 ls (.int (xs i.toNatClampNeg) :: st) h)) ∧
  (∀ (a0 : Nat) (a1 : Int32) (a2 : Int32) (u0 : Int32) (ls : eL) (h : eH), lu L xs 596 ls [.int a2, .int a1, .ref a0, .int u0] h = cl (den 70 [.ref a0, .int a1, .int a2] h) (fun v h => lu L xs 599 ls (v.toList ++ [.int u0]) h)) ∧
  (∀ (x y : Int32) (ls : eL) (st : List Value) (h : eH), lu L xs 599 ls (.int y :: .int x :: st) h = if x = y then lu L xs 758 ls st h else lu L xs 602 ls st h) ∧
  (∀ (ls : eL) (st : List Value) (h : eH), lu L xs 602 ls st h = lu L xs 603 ls (.int (nI 0) :: st) h) ∧
  (∀ (x : Int32) (ls : eL) (h : eH), lu L xs 603 ls [.int x] h = bo (x == 0 || x == 1) (some (some (.int x), h))) ∧
  (∀ (x0 : Option Value) (v : Nat) (t : eL) (st : List Value) (h : eH), lu L xs 604 (x0 :: some (.ref v) :: t) st h = lu L xs 605 (x0 :: some (.ref v) :: t) (.ref v :: st) h) ∧
  (∀ (a0 : Nat) (ls : eL) (h : eH), lu L xs 605 ls [.ref a0] h = cl (den 183 [.ref a0] h) (fun v h => lu L xs 608 ls (v.toList ++ []) h)) ∧
  (∀ (x0 x1 : Option Value) (v : Nat) (t : eL) (st : List Value) (h : eH), lu L xs 608 (x0 :: x1 :: some (.ref v) :: t) st h = lu L xs 609 (x0 :: x1 :: some (.ref v) :: t) (.ref v :: st) h) ∧
  (∀ (a0 : Nat) (u0 : Int32) (ls : eL) (h : eH), lu L xs 609 ls [.ref a0, .int u0] h = cl (den 76 [.ref a0] h) (fun v h => lu L xs 612 ls (v.toList ++ [.int u0]) h)) ∧
  (∀ (x y : Int32) (ls : eL) (st : List Value) (h : eH), lu L xs 612 ls (.int y :: .int x :: st) h = if x = y then lu L xs 758 ls st h else lu L xs 615 ls st h) ∧
  (∀ (ls : eL) (st : List Value) (h : eH), lu L xs 615 ls st h = lu L xs 616 ls (.int (nI 0) :: st) h) ∧
  (∀ (x : Int32) (ls : eL) (h : eH), lu L xs 616 ls [.int x] h = bo (x == 0 || x == 1) (some (some (.int x), h))) ∧
  (∀ (x0 : Option Value) (v : Nat) (t : eL) (st : List Value) (h : eH), lu L xs 617 (x0 :: some (.ref v) :: t) st h = lu L xs 618 (x0 :: some (.ref v) :: t) (.ref v :: st) h) ∧
  (∀ (a0 : Nat) (ls : eL) (h : eH), lu L xs 618 ls [.ref a0] h = cl (den 178 [.ref a0] h) (fun v h => lu L xs 621 ls (v.toList ++ []) h)) ∧
  (∀ (x0 x1 : Option Value) (v : Nat) (t : eL) (st : List Value) (h : eH), lu L xs 621 (x0 :: x1 :: some (.ref v) :: t) st h = lu L xs 622 (x0 :: x1 :: some (.ref v) :: t) (.ref v :: st) h) ∧
  (∀ (a0 : Nat) (u0 : Int32) (ls : eL) (h : eH), lu L xs 622 ls [.ref a0, .int u0] h = cl (den 72 [.ref a0] h) (fun v h => lu L xs 625 ls (v.toList ++ [.int u0]) h)) ∧
  (∀ (x y : Int32) (ls : eL) (st : List Value) (h : eH), lu L xs 625 ls (.int y :: .int x :: st) h = if x = y then lu L xs 758 ls st h else lu L xs 628 ls st h) ∧
  (∀ (ls : eL) (st : List Value) (h : eH), lu L xs 628 ls st h = lu L xs 629 ls (.int (nI 0) :: st) h) ∧
  (∀ (x : Int32) (ls : eL) (h : eH), lu L xs 629 ls [.int x] h = bo (x == 0 || x == 1) (some (some (.int x), h))) ∧
  (∀ (x0 : Option Value) (v : Nat) (t : eL) (st : List Value) (h : eH), lu L xs 630 (x0 :: some (.ref v) :: t) st h = lu L xs 631 (x0 :: some (.ref v) :: t) (.ref v :: st) h) ∧
  (∀ (v : UInt32) (t : eL) (st : List Value) (h : eH), lu L xs 631 (some (.float v) :: t) st h = lu L xs 632 (some (.float v) :: t) (.float v :: st) h) ∧
  (∀ (x0 x1 x2 : Option Value) (v : Int32) (t : eL) (st : List Value) (h : eH), lu L xs 632 (x0 :: x1 :: x2 :: some (.int v) :: t) st h = lu L xs 633 (x0 :: x1 :: x2 :: some (.int v) :: t) (.int v :: st) h) ∧
  (∀ (ls : eL) (st : List Value) (h : eH), lu L xs 633 ls st h = lu L xs 634 ls (.int (nI 1) :: st) h) ∧
  (∀ (x y : Int32) (ls : eL) (st : List Value) (h : eH), lu L xs 634 ls (.int y :: .int x :: st) h = lu L xs 635 ls (.int (x + y) :: st) h) ∧
  (∀ (i : Int32) (v : UInt32) (ls : eL) (st : List Value) (h : eH), lu L xs 635 ls (.int i :: .float v :: st) h = inR i L (lu L xs 636 ls (.int (xs i.toNatClampNeg) :: st) h)) ∧
  (∀ (a0 : Nat) (a1 : Int32) (ls : eL) (h : eH), lu L xs 636 ls [.int a1, .ref a0] h = cl (den 161 [.ref a0, .int a1] h) (fun v h => lu L xs 639 ls (v.toList ++ []) h)) ∧
  (∀ (x0 x1 : Option Value) (v : Nat) (t : eL) (st : List Value) (h : eH), lu L xs 639 (x0 :: x1 :: some (.ref v) :: t) st h = lu L xs 640 (x0 :: x1 :: some (.ref v) :: t) (.ref v :: st) h) ∧
  (∀ (v : UInt32) (t : eL) (st : List Value) (h : eH), lu L xs 640 (some (.float v) :: t) st h = lu L xs 641 (some (.float v) :: t) (.float v :: st) h) ∧
  (∀ (x0 x1 x2 : Option Value) (v : Int32) (t : eL) (st : List Value) (h : eH), lu L xs 641 (x0 :: x1 :: x2 :: some (.int v) :: t) st h = lu L xs 642 (x0 :: x1 :: x2 :: some (.int v) :: t) (.int v :: st) h) ∧
  (∀ (ls : eL) (st : List Value) (h : eH), lu L xs 642 ls st h = lu L xs 643 ls (.int (nI 1) :: st) h) ∧
  (∀ (x y : Int32) (ls : eL) (st : List Value) (h : eH), lu L xs 643 ls (.int y :: .int x :: st) h = lu L xs 644 ls (.int (x + y) :: st) h) ∧
  (∀ (i : Int32) (v : UInt32) (ls : eL) (st : List Value) (h : eH), lu L xs 644 ls (.int i :: .float v :: st) h = inR i L (lu L xs 645 ls (.int (xs i.toNatClampNeg) :: st) h)) ∧
  (∀ (a0 : Nat) (a1 : Int32) (u0 : Int32) (ls : eL) (h : eH), lu L xs 645 ls [.int a1, .ref a0, .int u0] h = cl (den 63 [.ref a0, .int a1] h) (fun v h => lu L xs 648 ls (v.toList ++ [.int u0]) h)) ∧
  (∀ (x y : Int32) (ls : eL) (st : List Value) (h : eH), lu L xs 648 ls (.int y :: .int x :: st) h = if x = y then lu L xs 758 ls st h else lu L xs 651 ls st h) ∧
  (∀ (ls : eL) (st : List Value) (h : eH), lu L xs 651 ls st h = lu L xs 652 ls (.int (nI 0) :: st) h) ∧
  (∀ (x : Int32) (ls : eL) (h : eH), lu L xs 652 ls [.int x] h = bo (x == 0 || x == 1) (some (some (.int x), h))) ∧
  (∀ (x0 : Option Value) (v : Nat) (t : eL) (st : List Value) (h : eH), lu L xs 653 (x0 :: some (.ref v) :: t) st h = lu L xs 654 (x0 :: some (.ref v) :: t) (.ref v :: st) h) ∧
  (∀ (v : UInt32) (t : eL) (st : List Value) (h : eH), lu L xs 654 (some (.float v) :: t) st h = lu L xs 655 (some (.float v) :: t) (.float v :: st) h) := ⟨fun x0 v t st h => lu_go rfl rfl,
  fun v t st h => lu_go rfl rfl,
  fun x0 x1 x2 v t st h => lu_go rfl rfl,
  fun ls st h => lu_go rfl rfl,
  fun x y ls st h => lu_go rfl rfl,
  fun i v ls st h => lu_iald rfl,
  fun v t st h => lu_go rfl rfl,
  fun x0 x1 x2 v t st h => lu_go rfl rfl,
  fun ls st h => lu_go rfl rfl,
  fun x y ls st h => lu_go rfl rfl,
  fun i v ls st h => lu_iald rfl,
  fun a0 a1 a2 ls h => lu_inv rfl (by decide) rfl (Nat.le_of_ble_eq_true rfl),
  fun x0 x1 v t st h => lu_go rfl rfl,
  fun v t st h => lu_go rfl rfl,
  fun x0 x1 x2 v t st h => lu_go rfl rfl,
  fun ls st h => lu_go rfl rfl,
  fun x y ls st h => lu_go rfl rfl,
  fun i v ls st h => lu_iald rfl,
  fun v t st h => lu_go rfl rfl,
  fun x0 x1 x2 v t st h => lu_go rfl rfl,
  fun ls st h => lu_go rfl rfl,
  fun x y ls st h => lu_go rfl rfl,
  fun i v ls st h => lu_iald rfl,
  fun a0 a1 a2 u0 ls h => lu_inv rfl (by decide) rfl (Nat.le_of_ble_eq_true rfl),
  fun x y ls st h => lu_if rfl rfl,
  fun ls st h => lu_go rfl rfl,
  fun x ls h => lu_bret rfl rfl,
  fun x0 v t st h => lu_go rfl rfl,
  fun a0 ls h => lu_inv rfl (by decide) rfl (Nat.le_of_ble_eq_true rfl),
  fun x0 x1 v t st h => lu_go rfl rfl,
  fun a0 u0 ls h => lu_inv rfl (by decide) rfl (Nat.le_of_ble_eq_true rfl),
  fun x y ls st h => lu_if rfl rfl,
  fun ls st h => lu_go rfl rfl,
  fun x ls h => lu_bret rfl rfl,
  fun x0 v t st h => lu_go rfl rfl,
  fun a0 ls h => lu_inv rfl (by decide) rfl (Nat.le_of_ble_eq_true rfl),
  fun x0 x1 v t st h => lu_go rfl rfl,
  fun a0 u0 ls h => lu_inv rfl (by decide) rfl (Nat.le_of_ble_eq_true rfl),
  fun x y ls st h => lu_if rfl rfl,
  fun ls st h => lu_go rfl rfl,
  fun x ls h => lu_bret rfl rfl,
  fun x0 v t st h => lu_go rfl rfl,
  fun v t st h => lu_go rfl rfl,
  fun x0 x1 x2 v t st h => lu_go rfl rfl,
  fun ls st h => lu_go rfl rfl,
  fun x y ls st h => lu_go rfl rfl,
  fun i v ls st h => lu_iald rfl,
  fun a0 a1 ls h => lu_inv rfl (by decide) rfl (Nat.le_of_ble_eq_true rfl),
  fun x0 x1 v t st h => lu_go rfl rfl,
  fun v t st h => lu_go rfl rfl,
  fun x0 x1 x2 v t st h => lu_go rfl rfl,
  fun ls st h => lu_go rfl rfl,
  fun x y ls st h => lu_go rfl rfl,
  fun i v ls st h => lu_iald rfl,
  fun a0 a1 u0 ls h => lu_inv rfl (by decide) rfl (Nat.le_of_ble_eq_true rfl),
  fun x y ls st h => lu_if rfl rfl,
  fun ls st h => lu_go rfl rfl,
  fun x ls h => lu_bret rfl rfl,
  fun x0 v t st h => lu_go rfl rfl,
  fun v t st h => lu_go rfl rfl⟩
set_option maxRecDepth 100000 in
theorem S192_7 : (∀ (x0 x1 x2 : Option Value) (v : Int32) (t : eL) (st : List Value) (h : eH), lu L xs 655 (x0 :: x1 :: x2 :: some (.int v) :: t) st h = lu L xs 656 (x0 :: x1 :: x2 :: some (.int v) :: t) (.int v :: st) h) ∧
  (∀ (ls : eL) (st : List Value) (h : eH), lu L xs 656 ls st h = lu L xs 657 ls (.int (nI 1) :: st) h) ∧
  (∀ (x y : Int32) (ls : eL) (st : List Value) (h : eH), lu L xs 657 ls (.int y :: .int x :: st) h = lu L xs 658 ls (.int (x + y) :: st) h) ∧
  (∀ (i : Int32) (v : UInt32) (ls : eL) (st : List Value) (h : eH), lu L xs 658 ls (.int i :: .float v :: st) h = inR i L (lu L xs 659 ls (.int (xs i.toNatClampNeg) :: st) h)) ∧
  (∀ (x : Int32) (ls : eL) (st : List Value) (h : eH), lu L xs 659 ls (.int x :: st) h = if x = 0 then lu L xs 666 ls st h else lu L xs 662 ls st h) ∧
  (∀ (ls : eL) (st : List Value) (h : eH), lu L xs 662 ls st h = lu L xs 663 ls (.int (nI 1) :: st) h) ∧
  (∀ (ls : eL) (st : List Value) (h : eH), lu L xs 663 ls st h = lu L xs 667 ls st h) ∧
  (∀ (ls : eL) (st : List Value) (h : eH), lu L xs 666 ls st h = lu L xs 667 ls (.int (nI 0) :: st) h) ∧
  (∀ (v : UInt32) (t : eL) (st : List Value) (h : eH), lu L xs 667 (some (.float v) :: t) st h = lu L xs 668 (some (.float v) :: t) (.float v :: st) h) ∧
  (∀ (x0 x1 x2 : Option Value) (v : Int32) (t : eL) (st : List Value) (h : eH), lu L xs 668 (x0 :: x1 :: x2 :: some (.int v) :: t) st h = lu L xs 669 (x0 :: x1 :: x2 :: some (.int v) :: t) (.int v :: st) h) ∧
  (∀ (ls : eL) (st : List Value) (h : eH), lu L xs 669 ls st h = lu L xs 670 ls (.int (nI 2) :: st) h) ∧
  (∀ (x y : Int32) (ls : eL) (st : List Value) (h : eH), lu L xs 670 ls (.int y :: .int x :: st) h = lu L xs 671 ls (.int (x + y) :: st) h) ∧
  (∀ (i : Int32) (v : UInt32) (ls : eL) (st : List Value) (h : eH), lu L xs 671 ls (.int i :: .float v :: st) h = inR i L (lu L xs 672 ls (.int (xs i.toNatClampNeg) :: st) h)) ∧
  (∀ (a0 : Nat) (a1 : Int32) (a2 : Int32) (ls : eL) (h : eH), lu L xs 672 ls [.int a2, .int a1, .ref a0] h = cl (den 169 [.ref a0, .int a1, .int a2] h) (fun v h => lu L xs 675 ls (v.toList ++ []) h)) ∧
  (∀ (x0 x1 : Option Value) (v : Nat) (t : eL) (st : List Value) (h : eH), lu L xs 675 (x0 :: x1 :: some (.ref v) :: t) st h = lu L xs 676 (x0 :: x1 :: some (.ref v) :: t) (.ref v :: st) h) ∧
  (∀ (v : UInt32) (t : eL) (st : List Value) (h : eH), lu L xs 676 (some (.float v) :: t) st h = lu L xs 677 (some (.float v) :: t) (.float v :: st) h) ∧
  (∀ (x0 x1 x2 : Option Value) (v : Int32) (t : eL) (st : List Value) (h : eH), lu L xs 677 (x0 :: x1 :: x2 :: some (.int v) :: t) st h = lu L xs 678 (x0 :: x1 :: x2 :: some (.int v) :: t) (.int v :: st) h) ∧
  (∀ (ls : eL) (st : List Value) (h : eH), lu L xs 678 ls st h = lu L xs 679 ls (.int (nI 1) :: st) h) ∧
  (∀ (x y : Int32) (ls : eL) (st : List Value) (h : eH), lu L xs 679 ls (.int y :: .int x :: st) h = lu L xs 680 ls (.int (x + y) :: st) h) ∧
  (∀ (i : Int32) (v : UInt32) (ls : eL) (st : List Value) (h : eH), lu L xs 680 ls (.int i :: .float v :: st) h = inR i L (lu L xs 681 ls (.int (xs i.toNatClampNeg) :: st) h)) ∧
  (∀ (x : Int32) (ls : eL) (st : List Value) (h : eH), lu L xs 681 ls (.int x :: st) h = if x = 0 then lu L xs 688 ls st h else lu L xs 684 ls st h) ∧
  (∀ (ls : eL) (st : List Value) (h : eH), lu L xs 684 ls st h = lu L xs 685 ls (.int (nI 1) :: st) h) ∧
  (∀ (ls : eL) (st : List Value) (h : eH), lu L xs 685 ls st h = lu L xs 689 ls st h) ∧
  (∀ (ls : eL) (st : List Value) (h : eH), lu L xs 688 ls st h = lu L xs 689 ls (.int (nI 0) :: st) h) ∧
  (∀ (v : UInt32) (t : eL) (st : List Value) (h : eH), lu L xs 689 (some (.float v) :: t) st h = lu L xs 690 (some (.float v) :: t) (.float v :: st) h) ∧
  (∀ (x0 x1 x2 : Option Value) (v : Int32) (t : eL) (st : List Value) (h : eH), lu L xs 690 (x0 :: x1 :: x2 :: some (.int v) :: t) st h = lu L xs 691 (x0 :: x1 :: x2 :: some (.int v) :: t) (.int v :: st) h) ∧
  (∀ (ls : eL) (st : List Value) (h : eH), lu L xs 691 ls st h = lu L xs 692 ls (.int (nI 2) :: st) h) ∧
  (∀ (x y : Int32) (ls : eL) (st : List Value) (h : eH), lu L xs 692 ls (.int y :: .int x :: st) h = lu L xs 693 ls (.int (x + y) :: st) h) ∧
  (∀ (i : Int32) (v : UInt32) (ls : eL) (st : List Value) (h : eH), lu L xs 693 ls (.int i :: .float v :: st) h = inR i L (lu L xs 694 ls (.int (xs i.toNatClampNeg) :: st) h)) ∧
  (∀ (a0 : Nat) (a1 : Int32) (a2 : Int32) (u0 : Int32) (ls : eL) (h : eH), lu L xs 694 ls [.int a2, .int a1, .ref a0, .int u0] h = cl (den 67 [.ref a0, .int a1, .int a2] h) (fun v h => lu L xs 697 ls (v.toList ++ [.int u0]) h)) ∧
  (∀ (x y : Int32) (ls : eL) (st : List Value) (h : eH), lu L xs 697 ls (.int y :: .int x :: st) h = if x = y then lu L xs 758 ls st h else lu L xs 700 ls st h) ∧
  (∀ (ls : eL) (st : List Value) (h : eH), lu L xs 700 ls st h = lu L xs 701 ls (.int (nI 0) :: st) h) ∧
  (∀ (x : Int32) (ls : eL) (h : eH), lu L xs 701 ls [.int x] h = bo (x == 0 || x == 1) (some (some (.int x), h))) ∧
  (∀ (x0 : Option Value) (v : Nat) (t : eL) (st : List Value) (h : eH), lu L xs 702 (x0 :: some (.ref v) :: t) st h = lu L xs 703 (x0 :: some (.ref v) :: t) (.ref v :: st) h) ∧
  (∀ (v : UInt32) (t : eL) (st : List Value) (h : eH), lu L xs 703 (some (.float v) :: t) st h = lu L xs 704 (some (.float v) :: t) (.float v :: st) h) ∧
  (∀ (x0 x1 x2 : Option Value) (v : Int32) (t : eL) (st : List Value) (h : eH), lu L xs 704 (x0 :: x1 :: x2 :: some (.int v) :: t) st h = lu L xs 705 (x0 :: x1 :: x2 :: some (.int v) :: t) (.int v :: st) h) ∧
  (∀ (ls : eL) (st : List Value) (h : eH), lu L xs 705 ls st h = lu L xs 706 ls (.int (nI 1) :: st) h) ∧
  (∀ (x y : Int32) (ls : eL) (st : List Value) (h : eH), lu L xs 706 ls (.int y :: .int x :: st) h = lu L xs 707 ls (.int (x + y) :: st) h) ∧
  (∀ (i : Int32) (v : UInt32) (ls : eL) (st : List Value) (h : eH), lu L xs 707 ls (.int i :: .float v :: st) h = inR i L (lu L xs 708 ls (.int (xs i.toNatClampNeg) :: st) h)) ∧
  (∀ (v : UInt32) (t : eL) (st : List Value) (h : eH), lu L xs 708 (some (.float v) :: t) st h = lu L xs 709 (some (.float v) :: t) (.float v :: st) h) ∧
  (∀ (x0 x1 x2 : Option Value) (v : Int32) (t : eL) (st : List Value) (h : eH), lu L xs 709 (x0 :: x1 :: x2 :: some (.int v) :: t) st h = lu L xs 710 (x0 :: x1 :: x2 :: some (.int v) :: t) (.int v :: st) h) ∧
  (∀ (ls : eL) (st : List Value) (h : eH), lu L xs 710 ls st h = lu L xs 711 ls (.int (nI 2) :: st) h) ∧
  (∀ (x y : Int32) (ls : eL) (st : List Value) (h : eH), lu L xs 711 ls (.int y :: .int x :: st) h = lu L xs 712 ls (.int (x + y) :: st) h) ∧
  (∀ (i : Int32) (v : UInt32) (ls : eL) (st : List Value) (h : eH), lu L xs 712 ls (.int i :: .float v :: st) h = inR i L (lu L xs 713 ls (.int (xs i.toNatClampNeg) :: st) h)) ∧
  (∀ (a0 : Nat) (a1 : Int32) (a2 : Int32) (ls : eL) (h : eH), lu L xs 713 ls [.int a2, .int a1, .ref a0] h = cl (den 186 [.ref a0, .int a1, .int a2] h) (fun v h => lu L xs 716 ls (v.toList ++ []) h)) ∧
  (∀ (x0 x1 : Option Value) (v : Nat) (t : eL) (st : List Value) (h : eH), lu L xs 716 (x0 :: x1 :: some (.ref v) :: t) st h = lu L xs 717 (x0 :: x1 :: some (.ref v) :: t) (.ref v :: st) h) ∧
  (∀ (v : UInt32) (t : eL) (st : List Value) (h : eH), lu L xs 717 (some (.float v) :: t) st h = lu L xs 718 (some (.float v) :: t) (.float v :: st) h) ∧
  (∀ (x0 x1 x2 : Option Value) (v : Int32) (t : eL) (st : List Value) (h : eH), lu L xs 718 (x0 :: x1 :: x2 :: some (.int v) :: t) st h = lu L xs 719 (x0 :: x1 :: x2 :: some (.int v) :: t) (.int v :: st) h) ∧
  (∀ (ls : eL) (st : List Value) (h : eH), lu L xs 719 ls st h = lu L xs 720 ls (.int (nI 1) :: st) h) ∧
  (∀ (x y : Int32) (ls : eL) (st : List Value) (h : eH), lu L xs 720 ls (.int y :: .int x :: st) h = lu L xs 721 ls (.int (x + y) :: st) h) ∧
  (∀ (i : Int32) (v : UInt32) (ls : eL) (st : List Value) (h : eH), lu L xs 721 ls (.int i :: .float v :: st) h = inR i L (lu L xs 722 ls (.int (xs i.toNatClampNeg) :: st) h)) ∧
  (∀ (v : UInt32) (t : eL) (st : List Value) (h : eH), lu L xs 722 (some (.float v) :: t) st h = lu L xs 723 (some (.float v) :: t) (.float v :: st) h) ∧
  (∀ (x0 x1 x2 : Option Value) (v : Int32) (t : eL) (st : List Value) (h : eH), lu L xs 723 (x0 :: x1 :: x2 :: some (.int v) :: t) st h = lu L xs 724 (x0 :: x1 :: x2 :: some (.int v) :: t) (.int v :: st) h) ∧
  (∀ (ls : eL) (st : List Value) (h : eH), lu L xs 724 ls st h = lu L xs 725 ls (.int (nI 2) :: st) h) ∧
  (∀ (x y : Int32) (ls : eL) (st : List Value) (h : eH), lu L xs 725 ls (.int y :: .int x :: st) h = lu L xs 726 ls (.int (x + y) :: st) h) ∧
  (∀ (i : Int32) (v : UInt32) (ls : eL) (st : List Value) (h : eH), lu L xs 726 ls (.int i :: .float v :: st) h = inR i L (lu L xs 727 ls (.int (xs i.toNatClampNeg) :: st) h)) ∧
  (∀ (a0 : Nat) (a1 : Int32) (a2 : Int32) (u0 : Int32) (ls : eL) (h : eH), lu L xs 727 ls [.int a2, .int a1, .ref a0, .int u0] h = cl (den 77 [.ref a0, .int a1, .int a2] h) (fun v h => lu L xs 730 ls (v.toList ++ [.int u0]) h)) ∧
  (∀ (x y : Int32) (ls : eL) (st : List Value) (h : eH), lu L xs 730 ls (.int y :: .int x :: st) h = if x = y then lu L xs 758 ls st h else lu L xs 733 ls st h) ∧
  (∀ (ls : eL) (st : List Value) (h : eH), lu L xs 733 ls st h = lu L xs 734 ls (.int (nI 0) :: st) h) ∧
  (∀ (x : Int32) (ls : eL) (h : eH), lu L xs 734 ls [.int x] h = bo (x == 0 || x == 1) (some (some (.int x), h))) := ⟨fun x0 x1 x2 v t st h => lu_go rfl rfl,
  fun ls st h => lu_go rfl rfl,
  fun x y ls st h => lu_go rfl rfl,
  fun i v ls st h => lu_iald rfl,
  fun x ls st h => lu_if rfl rfl,
  fun ls st h => lu_go rfl rfl,
  fun ls st h => lu_go rfl rfl,
  fun ls st h => lu_go rfl rfl,
  fun v t st h => lu_go rfl rfl,
  fun x0 x1 x2 v t st h => lu_go rfl rfl,
  fun ls st h => lu_go rfl rfl,
  fun x y ls st h => lu_go rfl rfl,
  fun i v ls st h => lu_iald rfl,
  fun a0 a1 a2 ls h => lu_inv rfl (by decide) rfl (Nat.le_of_ble_eq_true rfl),
  fun x0 x1 v t st h => lu_go rfl rfl,
  fun v t st h => lu_go rfl rfl,
  fun x0 x1 x2 v t st h => lu_go rfl rfl,
  fun ls st h => lu_go rfl rfl,
  fun x y ls st h => lu_go rfl rfl,
  fun i v ls st h => lu_iald rfl,
  fun x ls st h => lu_if rfl rfl,
  fun ls st h => lu_go rfl rfl,
  fun ls st h => lu_go rfl rfl,
  fun ls st h => lu_go rfl rfl,
  fun v t st h => lu_go rfl rfl,
  fun x0 x1 x2 v t st h => lu_go rfl rfl,
  fun ls st h => lu_go rfl rfl,
  fun x y ls st h => lu_go rfl rfl,
  fun i v ls st h => lu_iald rfl,
  fun a0 a1 a2 u0 ls h => lu_inv rfl (by decide) rfl (Nat.le_of_ble_eq_true rfl),
  fun x y ls st h => lu_if rfl rfl,
  fun ls st h => lu_go rfl rfl,
  fun x ls h => lu_bret rfl rfl,
  fun x0 v t st h => lu_go rfl rfl,
  fun v t st h => lu_go rfl rfl,
  fun x0 x1 x2 v t st h => lu_go rfl rfl,
  fun ls st h => lu_go rfl rfl,
  fun x y ls st h => lu_go rfl rfl,
  fun i v ls st h => lu_iald rfl,
  fun v t st h => lu_go rfl rfl,
  fun x0 x1 x2 v t st h => lu_go rfl rfl,
  fun ls st h => lu_go rfl rfl,
  fun x y ls st h => lu_go rfl rfl,
  fun i v ls st h => lu_iald rfl,
  fun a0 a1 a2 ls h => lu_inv rfl (by decide) rfl (Nat.le_of_ble_eq_true rfl),
  fun x0 x1 v t st h => lu_go rfl rfl,
  fun v t st h => lu_go rfl rfl,
  fun x0 x1 x2 v t st h => lu_go rfl rfl,
  fun ls st h => lu_go rfl rfl,
  fun x y ls st h => lu_go rfl rfl,
  fun i v ls st h => lu_iald rfl,
  fun v t st h => lu_go rfl rfl,
  fun x0 x1 x2 v t st h => lu_go rfl rfl,
  fun ls st h => lu_go rfl rfl,
  fun x y ls st h => lu_go rfl rfl,
  fun i v ls st h => lu_iald rfl,
  fun a0 a1 a2 u0 ls h => lu_inv rfl (by decide) rfl (Nat.le_of_ble_eq_true rfl),
  fun x y ls st h => lu_if rfl rfl,
  fun ls st h => lu_go rfl rfl,
  fun x ls h => lu_bret rfl rfl⟩
set_option maxRecDepth 100000 in
theorem S192_8 : (∀ (x0 : Option Value) (v : Nat) (t : eL) (st : List Value) (h : eH), lu L xs 735 (x0 :: some (.ref v) :: t) st h = lu L xs 736 (x0 :: some (.ref v) :: t) (.ref v :: st) h) ∧
  (∀ (v : UInt32) (t : eL) (st : List Value) (h : eH), lu L xs 736 (some (.float v) :: t) st h = lu L xs 737 (some (.float v) :: t) (.float v :: st) h) ∧
  (∀ (x0 x1 x2 : Option Value) (v : Int32) (t : eL) (st : List Value) (h : eH), lu L xs 737 (x0 :: x1 :: x2 :: some (.int v) :: t) st h = lu L xs 738 (x0 :: x1 :: x2 :: some (.int v) :: t) (.int v :: st) h) ∧
  (∀ (ls : eL) (st : List Value) (h : eH), lu L xs 738 ls st h = lu L xs 739 ls (.int (nI 1) :: st) h) ∧
  (∀ (x y : Int32) (ls : eL) (st : List Value) (h : eH), lu L xs 739 ls (.int y :: .int x :: st) h = lu L xs 740 ls (.int (x + y) :: st) h) ∧
  (∀ (i : Int32) (v : UInt32) (ls : eL) (st : List Value) (h : eH), lu L xs 740 ls (.int i :: .float v :: st) h = inR i L (lu L xs 741 ls (.int (xs i.toNatClampNeg) :: st) h)) ∧
  (∀ (a0 : Nat) (a1 : Int32) (ls : eL) (h : eH), lu L xs 741 ls [.int a1, .ref a0] h = cl (den 136 [.ref a0, .int a1] h) (fun v h => lu L xs 744 ls (v.toList ++ []) h)) ∧
  (∀ (x0 x1 : Option Value) (v : Nat) (t : eL) (st : List Value) (h : eH), lu L xs 744 (x0 :: x1 :: some (.ref v) :: t) st h = lu L xs 745 (x0 :: x1 :: some (.ref v) :: t) (.ref v :: st) h) ∧
  (∀ (v : UInt32) (t : eL) (st : List Value) (h : eH), lu L xs 745 (some (.float v) :: t) st h = lu L xs 746 (some (.float v) :: t) (.float v :: st) h) ∧
  (∀ (x0 x1 x2 : Option Value) (v : Int32) (t : eL) (st : List Value) (h : eH), lu L xs 746 (x0 :: x1 :: x2 :: some (.int v) :: t) st h = lu L xs 747 (x0 :: x1 :: x2 :: some (.int v) :: t) (.int v :: st) h) ∧
  (∀ (ls : eL) (st : List Value) (h : eH), lu L xs 747 ls st h = lu L xs 748 ls (.int (nI 1) :: st) h) ∧
  (∀ (x y : Int32) (ls : eL) (st : List Value) (h : eH), lu L xs 748 ls (.int y :: .int x :: st) h = lu L xs 749 ls (.int (x + y) :: st) h) ∧
  (∀ (i : Int32) (v : UInt32) (ls : eL) (st : List Value) (h : eH), lu L xs 749 ls (.int i :: .float v :: st) h = inR i L (lu L xs 750 ls (.int (xs i.toNatClampNeg) :: st) h)) ∧
  (∀ (a0 : Nat) (a1 : Int32) (u0 : Int32) (ls : eL) (h : eH), lu L xs 750 ls [.int a1, .ref a0, .int u0] h = cl (den 46 [.ref a0, .int a1] h) (fun v h => lu L xs 753 ls (v.toList ++ [.int u0]) h)) ∧
  (∀ (x y : Int32) (ls : eL) (st : List Value) (h : eH), lu L xs 753 ls (.int y :: .int x :: st) h = if x = y then lu L xs 758 ls st h else lu L xs 756 ls st h) ∧
  (∀ (ls : eL) (st : List Value) (h : eH), lu L xs 756 ls st h = lu L xs 757 ls (.int (nI 0) :: st) h) ∧
  (∀ (x : Int32) (ls : eL) (h : eH), lu L xs 757 ls [.int x] h = bo (x == 0 || x == 1) (some (some (.int x), h))) ∧
  (∀ (x0 x1 x2 : Option Value) (v : Int32) (t : eL) (st : List Value) (h : eH), lu L xs 758 (x0 :: x1 :: x2 :: some (.int v) :: t) st h = lu L xs 761 (x0 :: x1 :: eKl x2 :: some (.int (v + nI 5)) :: t) st h) ∧
  (∀ (ls : eL) (st : List Value) (h : eH), lu L xs 761 ls st h = lu L xs 18 ls st h) ∧
  (∀ (x : Int32) (ls : eL) (h : eH), lu L xs 765 ls [.int x] h = bo (x == 0 || x == 1) (some (some (.int x), h))) := ⟨fun x0 v t st h => lu_go rfl rfl,
  fun v t st h => lu_go rfl rfl,
  fun x0 x1 x2 v t st h => lu_go rfl rfl,
  fun ls st h => lu_go rfl rfl,
  fun x y ls st h => lu_go rfl rfl,
  fun i v ls st h => lu_iald rfl,
  fun a0 a1 ls h => lu_inv rfl (by decide) rfl (Nat.le_of_ble_eq_true rfl),
  fun x0 x1 v t st h => lu_go rfl rfl,
  fun v t st h => lu_go rfl rfl,
  fun x0 x1 x2 v t st h => lu_go rfl rfl,
  fun ls st h => lu_go rfl rfl,
  fun x y ls st h => lu_go rfl rfl,
  fun i v ls st h => lu_iald rfl,
  fun a0 a1 u0 ls h => lu_inv rfl (by decide) rfl (Nat.le_of_ble_eq_true rfl),
  fun x y ls st h => lu_if rfl rfl,
  fun ls st h => lu_go rfl rfl,
  fun x ls h => lu_bret rfl rfl,
  fun x0 x1 x2 v t st h => lu_go rfl rfl,
  fun ls st h => lu_go rfl rfl,
  fun x ls h => lu_bret rfl rfl⟩
end LWS
