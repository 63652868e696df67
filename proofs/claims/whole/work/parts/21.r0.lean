/-! 0 J6_signum_0f7a4 -/
set_option maxRecDepth 100000 in
theorem S0 : (∀ (v : Int32) (t : eL) (st : List Value) (h : eH), ru 0 0 (some (.int v) :: t) st h = ru 0 1 (some (.int v) :: t) (.int v :: st) h) ∧
  (∀ (ls : eL) (st : List Value) (h : eH), ru 0 1 ls st h = ru 0 3 ls (.int (nI 31) :: st) h) ∧
  (∀ (x y : Int32) (ls : eL) (st : List Value) (h : eH), ru 0 3 ls (.int y :: .int x :: st) h = ru 0 4 ls (.int (x >>> (y &&& 31)) :: st) h) ∧
  (∀ (v : Int32) (t : eL) (st : List Value) (h : eH), ru 0 4 (some (.int v) :: t) st h = ru 0 5 (some (.int v) :: t) (.int v :: st) h) ∧
  (∀ (x : Int32) (ls : eL) (st : List Value) (h : eH), ru 0 5 ls (.int x :: st) h = ru 0 6 ls (.int (-x) :: st) h) ∧
  (∀ (ls : eL) (st : List Value) (h : eH), ru 0 6 ls st h = ru 0 8 ls (.int (nI 31) :: st) h) ∧
  (∀ (x y : Int32) (ls : eL) (st : List Value) (h : eH), ru 0 8 ls (.int y :: .int x :: st) h = ru 0 9 ls (.int ((x.toUInt32 >>> (y.toUInt32 &&& Int32.toUInt32 31)).toInt32) :: st) h) ∧
  (∀ (x y : Int32) (ls : eL) (st : List Value) (h : eH), ru 0 9 ls (.int y :: .int x :: st) h = ru 0 10 ls (.int (x ||| y) :: st) h) ∧
  (∀ (x : Int32) (ls : eL) (h : eH), ru 0 10 ls [.int x] h = some (some (.int x), h)) := ⟨fun v t st h => ru_go rfl rfl,
  fun ls st h => ru_go rfl rfl,
  fun x y ls st h => ru_go rfl rfl,
  fun v t st h => ru_go rfl rfl,
  fun x ls st h => ru_go rfl rfl,
  fun ls st h => ru_go rfl rfl,
  fun x y ls st h => ru_go rfl rfl,
  fun x y ls st h => ru_go rfl rfl,
  fun x ls h => ru_ret rfl rfl⟩
theorem E0 (a0 : Int32) (h : eH) : den 0 [.int a0] h = ru 0 0 [some (.int a0)] [] h := den_st rfl (Nat.le_of_ble_eq_true rfl)
/-! 1 J7_fill_53178 -/
set_option maxRecDepth 100000 in
theorem H1_5 : (∀ (x0 x1 : Option Value) (v : Int32) (t : eL) (st : List Value) (h : eH), ru 1 5 (x0 :: x1 :: some (.int v) :: t) st h = ru 1 6 (x0 :: x1 :: some (.int v) :: t) (.int v :: st) h) := fun x0 x1 v t st h => ru_go rfl rfl
set_option maxRecDepth 100000 in
theorem S1 : (∀ (ls : eL) (st : List Value) (h : eH), ru 1 0 ls st h = ru 1 1 ls (.int (nI 0) :: st) h) ∧
  (∀ (x0 x1 x2 : Option Value) (v : Int32) (t : eL) (st : List Value) (h : eH), ru 1 1 (x0 :: x1 :: x2 :: t) (.int v :: st) h = ru 1 2 (x0 :: eKl x1 :: some (.int v) :: t) st h) ∧
  (∀ (v : Nat) (t : eL) (st : List Value) (h : eH), ru 1 2 (some (.ref v) :: t) st h = ru 1 3 (some (.ref v) :: t) (.ref v :: st) h) ∧
  (∀ (a : Nat) (ls : eL) (st : List Value) (h : eH), ru 1 3 ls (.ref a :: st) h = aN (h.1 a) (fun v => ru 1 4 ls (.int v :: st) h)) ∧
  (∀ (x0 x1 x2 x3 : Option Value) (v : Int32) (t : eL) (st : List Value) (h : eH), ru 1 4 (x0 :: x1 :: x2 :: x3 :: t) (.int v :: st) h = ru 1 5 (x0 :: x1 :: eKl x2 :: some (.int v) :: t) st h) ∧
  (∀ (x0 x1 x2 : Option Value) (v : Int32) (t : eL) (st : List Value) (h : eH), ru 1 6 (x0 :: x1 :: x2 :: some (.int v) :: t) st h = ru 1 7 (x0 :: x1 :: x2 :: some (.int v) :: t) (.int v :: st) h) ∧
  (∀ (x y : Int32) (ls : eL) (st : List Value) (h : eH), ru 1 7 ls (.int y :: .int x :: st) h = if y ≤ x then ru 1 20 ls st h else ru 1 10 ls st h) ∧
  (∀ (v : Nat) (t : eL) (st : List Value) (h : eH), ru 1 10 (some (.ref v) :: t) st h = ru 1 11 (some (.ref v) :: t) (.ref v :: st) h) ∧
  (∀ (x0 x1 : Option Value) (v : Int32) (t : eL) (st : List Value) (h : eH), ru 1 11 (x0 :: x1 :: some (.int v) :: t) st h = ru 1 12 (x0 :: x1 :: some (.int v) :: t) (.int v :: st) h) ∧
  (∀ (x0 : Option Value) (v : Int32) (t : eL) (st : List Value) (h : eH), ru 1 12 (x0 :: some (.int v) :: t) st h = ru 1 13 (x0 :: some (.int v) :: t) (.int v :: st) h) ∧
  (∀ (x : Int32) (i : Int32) (a : Nat) (ls : eL) (st : List Value) (h : eH), ru 1 13 ls (.int x :: .int i :: .ref a :: st) h = wI (h.1 a) i x (fun e => ru 1 14 ls st (eUp h a e))) ∧
  (∀ (x0 x1 : Option Value) (v : Int32) (t : eL) (st : List Value) (h : eH), ru 1 14 (x0 :: x1 :: some (.int v) :: t) st h = ru 1 17 (x0 :: eKl x1 :: some (.int (v + 1)) :: t) st h) ∧
  (∀ (ls : eL) (st : List Value) (h : eH), ru 1 17 ls st h = ru 1 5 ls st h) ∧
  (∀ (ls : eL) (h : eH), ru 1 20 ls [] h = some (none, h)) := ⟨fun ls st h => ru_go rfl rfl,
  fun x0 x1 x2 v t st h => ru_go rfl rfl,
  fun v t st h => ru_go rfl rfl,
  fun a ls st h => ru_alen rfl,
  fun x0 x1 x2 x3 v t st h => ru_go rfl rfl,
  fun x0 x1 x2 v t st h => ru_go rfl rfl,
  fun x y ls st h => ru_if rfl rfl,
  fun v t st h => ru_go rfl rfl,
  fun x0 x1 v t st h => ru_go rfl rfl,
  fun x0 v t st h => ru_go rfl rfl,
  fun x i a ls st h => ru_iast rfl,
  fun x0 x1 v t st h => ru_go rfl rfl,
  fun ls st h => ru_go rfl rfl,
  fun ls h => ru_ret rfl rfl⟩
theorem E1 (a0 : Nat) (a1 : Int32) (h : eH) : den 1 [.ref a0, .int a1] h = ru 1 0 [some (.ref a0), some (.int a1), none, none] [] h := den_st rfl (Nat.le_of_ble_eq_true rfl)
/-! 2 J7_fill_d0a16 -/
set_option maxRecDepth 100000 in
theorem H2_6 : (∀ (x0 x1 x2 : Option Value) (v : Int32) (t : eL) (st : List Value) (h : eH), ru 2 6 (x0 :: x1 :: x2 :: some (.int v) :: t) st h = ru 2 7 (x0 :: x1 :: x2 :: some (.int v) :: t) (.int v :: st) h) := fun x0 x1 x2 v t st h => ru_go rfl rfl
set_option maxRecDepth 100000 in
theorem S2 : (∀ (ls : eL) (st : List Value) (h : eH), ru 2 0 ls st h = ru 2 1 ls (.int (nI 0) :: st) h) ∧
  (∀ (x0 x1 x2 x3 : Option Value) (v : Int32) (t : eL) (st : List Value) (h : eH), ru 2 1 (x0 :: x1 :: x2 :: x3 :: t) (.int v :: st) h = ru 2 2 (x0 :: x1 :: eKl x2 :: some (.int v) :: t) st h) ∧
  (∀ (v : Nat) (t : eL) (st : List Value) (h : eH), ru 2 2 (some (.ref v) :: t) st h = ru 2 3 (some (.ref v) :: t) (.ref v :: st) h) ∧
  (∀ (a : Nat) (ls : eL) (st : List Value) (h : eH), ru 2 3 ls (.ref a :: st) h = aN (h.1 a) (fun v => ru 2 4 ls (.int v :: st) h)) ∧
  (∀ (x0 x1 x2 x3 x4 : Option Value) (v : Int32) (t : eL) (st : List Value) (h : eH), ru 2 4 (x0 :: x1 :: x2 :: x3 :: x4 :: t) (.int v :: st) h = ru 2 6 (x0 :: x1 :: x2 :: eKl x3 :: some (.int v) :: t) st h) ∧
  (∀ (x0 x1 x2 x3 : Option Value) (v : Int32) (t : eL) (st : List Value) (h : eH), ru 2 7 (x0 :: x1 :: x2 :: x3 :: some (.int v) :: t) st h = ru 2 9 (x0 :: x1 :: x2 :: x3 :: some (.int v) :: t) (.int v :: st) h) ∧
  (∀ (x y : Int32) (ls : eL) (st : List Value) (h : eH), ru 2 9 ls (.int y :: .int x :: st) h = if y ≤ x then ru 2 22 ls st h else ru 2 12 ls st h) ∧
  (∀ (v : Nat) (t : eL) (st : List Value) (h : eH), ru 2 12 (some (.ref v) :: t) st h = ru 2 13 (some (.ref v) :: t) (.ref v :: st) h) ∧
  (∀ (x0 x1 x2 : Option Value) (v : Int32) (t : eL) (st : List Value) (h : eH), ru 2 13 (x0 :: x1 :: x2 :: some (.int v) :: t) st h = ru 2 14 (x0 :: x1 :: x2 :: some (.int v) :: t) (.int v :: st) h) ∧
  (∀ (x0 : Option Value) (v : Int64) (t : eL) (st : List Value) (h : eH), ru 2 14 (x0 :: some (.long v) :: t) st h = ru 2 15 (x0 :: some (.long v) :: t) (.long v :: st) h) ∧
  (∀ (x : Int64) (i : Int32) (a : Nat) (ls : eL) (st : List Value) (h : eH), ru 2 15 ls (.long x :: .int i :: .ref a :: st) h = wL (h.1 a) i x (fun e => ru 2 16 ls st (eUp h a e))) ∧
  (∀ (x0 x1 x2 : Option Value) (v : Int32) (t : eL) (st : List Value) (h : eH), ru 2 16 (x0 :: x1 :: x2 :: some (.int v) :: t) st h = ru 2 19 (x0 :: x1 :: eKl x2 :: some (.int (v + 1)) :: t) st h) ∧
  (∀ (ls : eL) (st : List Value) (h : eH), ru 2 19 ls st h = ru 2 6 ls st h) ∧
  (∀ (ls : eL) (h : eH), ru 2 22 ls [] h = some (none, h)) := ⟨fun ls st h => ru_go rfl rfl,
  fun x0 x1 x2 x3 v t st h => ru_go rfl rfl,
  fun v t st h => ru_go rfl rfl,
  fun a ls st h => ru_alen rfl,
  fun x0 x1 x2 x3 x4 v t st h => ru_go rfl rfl,
  fun x0 x1 x2 x3 v t st h => ru_go rfl rfl,
  fun x y ls st h => ru_if rfl rfl,
  fun v t st h => ru_go rfl rfl,
  fun x0 x1 x2 v t st h => ru_go rfl rfl,
  fun x0 v t st h => ru_go rfl rfl,
  fun x i a ls st h => ru_last rfl,
  fun x0 x1 x2 v t st h => ru_go rfl rfl,
  fun ls st h => ru_go rfl rfl,
  fun ls h => ru_ret rfl rfl⟩
theorem E2 (a0 : Nat) (a1 : Int64) (h : eH) : den 2 [.ref a0, .long a1] h = ru 2 0 [some (.ref a0), some (.long a1), none, none, none] [] h := den_st rfl (Nat.le_of_ble_eq_true rfl)
/-! 3 J7_rangeCheck_23922 -/
set_option maxRecDepth 100000 in
theorem S3 : (∀ (x0 : Option Value) (v : Int32) (t : eL) (st : List Value) (h : eH), ru 3 0 (x0 :: some (.int v) :: t) st h = ru 3 1 (x0 :: some (.int v) :: t) (.int v :: st) h) ∧
  (∀ (x0 x1 : Option Value) (v : Int32) (t : eL) (st : List Value) (h : eH), ru 3 1 (x0 :: x1 :: some (.int v) :: t) st h = ru 3 2 (x0 :: x1 :: some (.int v) :: t) (.int v :: st) h) ∧
  (∀ (x y : Int32) (ls : eL) (st : List Value) (h : eH), ru 3 2 ls (.int y :: .int x :: st) h = if x ≤ y then ru 3 46 ls st h else ru 3 5 ls st h) ∧
  (∀ (x : Nat) (ls : eL) (st : List Value) (h : eH), ru 3 8 ls (.ref x :: st) h = ru 3 9 ls (.ref x :: .ref x :: st) h) ∧
  (∀ (x : Nat) (ls : eL) (st : List Value) (h : eH), ru 3 12 ls (.ref x :: st) h = ru 3 13 ls (.ref x :: .ref x :: st) h) ∧
  (∀ (x0 : Option Value) (v : Int32) (t : eL) (st : List Value) (h : eH), ru 3 46 (x0 :: some (.int v) :: t) st h = ru 3 47 (x0 :: some (.int v) :: t) (.int v :: st) h) ∧
  (∀ (x : Int32) (ls : eL) (st : List Value) (h : eH), ru 3 47 ls (.int x :: st) h = if 0 ≤ x then ru 3 59 ls st h else ru 3 50 ls st h) ∧
  (∀ (x : Nat) (ls : eL) (st : List Value) (h : eH), ru 3 53 ls (.ref x :: st) h = ru 3 54 ls (.ref x :: .ref x :: st) h) ∧
  (∀ (x0 : Option Value) (v : Int32) (t : eL) (st : List Value) (h : eH), ru 3 54 (x0 :: some (.int v) :: t) st h = ru 3 55 (x0 :: some (.int v) :: t) (.int v :: st) h) ∧
  (∀ (x0 x1 : Option Value) (v : Int32) (t : eL) (st : List Value) (h : eH), ru 3 59 (x0 :: x1 :: some (.int v) :: t) st h = ru 3 60 (x0 :: x1 :: some (.int v) :: t) (.int v :: st) h) ∧
  (∀ (v : Int32) (t : eL) (st : List Value) (h : eH), ru 3 60 (some (.int v) :: t) st h = ru 3 61 (some (.int v) :: t) (.int v :: st) h) ∧
  (∀ (x y : Int32) (ls : eL) (st : List Value) (h : eH), ru 3 61 ls (.int y :: .int x :: st) h = if x ≤ y then ru 3 73 ls st h else ru 3 64 ls st h) ∧
  (∀ (x : Nat) (ls : eL) (st : List Value) (h : eH), ru 3 67 ls (.ref x :: st) h = ru 3 68 ls (.ref x :: .ref x :: st) h) ∧
  (∀ (x0 x1 : Option Value) (v : Int32) (t : eL) (st : List Value) (h : eH), ru 3 68 (x0 :: x1 :: some (.int v) :: t) st h = ru 3 69 (x0 :: x1 :: some (.int v) :: t) (.int v :: st) h) ∧
  (∀ (ls : eL) (h : eH), ru 3 73 ls [] h = some (none, h)) := ⟨fun x0 v t st h => ru_go rfl rfl,
  fun x0 x1 v t st h => ru_go rfl rfl,
  fun x y ls st h => ru_if rfl rfl,
  fun x ls st h => ru_go rfl rfl,
  fun x ls st h => ru_go rfl rfl,
  fun x0 v t st h => ru_go rfl rfl,
  fun x ls st h => ru_if rfl rfl,
  fun x ls st h => ru_go rfl rfl,
  fun x0 v t st h => ru_go rfl rfl,
  fun x0 x1 v t st h => ru_go rfl rfl,
  fun v t st h => ru_go rfl rfl,
  fun x y ls st h => ru_if rfl rfl,
  fun x ls st h => ru_go rfl rfl,
  fun x0 x1 v t st h => ru_go rfl rfl,
  fun ls h => ru_ret rfl rfl⟩
theorem E3 (a0 : Int32) (a1 : Int32) (a2 : Int32) (h : eH) : den 3 [.int a0, .int a1, .int a2] h = ru 3 0 [some (.int a0), some (.int a1), some (.int a2)] [] h := den_st rfl (Nat.le_of_ble_eq_true rfl)
/-! 4 J7_fill_fda19 -/
set_option maxRecDepth 100000 in
theorem H4_10 : (∀ (x0 x1 x2 x3 : Option Value) (v : Int32) (t : eL) (st : List Value) (h : eH), ru 4 10 (x0 :: x1 :: x2 :: x3 :: some (.int v) :: t) st h = ru 4 12 (x0 :: x1 :: x2 :: x3 :: some (.int v) :: t) (.int v :: st) h) := fun x0 x1 x2 x3 v t st h => ru_go rfl rfl
set_option maxRecDepth 100000 in
theorem S4 : (∀ (v : Nat) (t : eL) (st : List Value) (h : eH), ru 4 0 (some (.ref v) :: t) st h = ru 4 1 (some (.ref v) :: t) (.ref v :: st) h) ∧
  (∀ (a : Nat) (ls : eL) (st : List Value) (h : eH), ru 4 1 ls (.ref a :: st) h = aN (h.1 a) (fun v => ru 4 2 ls (.int v :: st) h)) ∧
  (∀ (x0 : Option Value) (v : Int32) (t : eL) (st : List Value) (h : eH), ru 4 2 (x0 :: some (.int v) :: t) st h = ru 4 3 (x0 :: some (.int v) :: t) (.int v :: st) h) ∧
  (∀ (x0 x1 : Option Value) (v : Int32) (t : eL) (st : List Value) (h : eH), ru 4 3 (x0 :: x1 :: some (.int v) :: t) st h = ru 4 4 (x0 :: x1 :: some (.int v) :: t) (.int v :: st) h) ∧
  (∀ (a0 : Int32) (a1 : Int32) (a2 : Int32) (ls : eL) (h : eH), ru 4 4 ls [.int a2, .int a1, .int a0] h = cl (den 3 [.int a0, .int a1, .int a2] h) (fun v h => ru 4 7 ls (v.toList ++ []) h)) ∧
  (∀ (x0 : Option Value) (v : Int32) (t : eL) (st : List Value) (h : eH), ru 4 7 (x0 :: some (.int v) :: t) st h = ru 4 8 (x0 :: some (.int v) :: t) (.int v :: st) h) ∧
  (∀ (x0 x1 x2 x3 x4 : Option Value) (v : Int32) (t : eL) (st : List Value) (h : eH), ru 4 8 (x0 :: x1 :: x2 :: x3 :: x4 :: t) (.int v :: st) h = ru 4 10 (x0 :: x1 :: x2 :: eKl x3 :: some (.int v) :: t) st h) ∧
  (∀ (x0 x1 : Option Value) (v : Int32) (t : eL) (st : List Value) (h : eH), ru 4 12 (x0 :: x1 :: some (.int v) :: t) st h = ru 4 13 (x0 :: x1 :: some (.int v) :: t) (.int v :: st) h) ∧
  (∀ (x y : Int32) (ls : eL) (st : List Value) (h : eH), ru 4 13 ls (.int y :: .int x :: st) h = if y ≤ x then ru 4 27 ls st h else ru 4 16 ls st h) ∧
  (∀ (v : Nat) (t : eL) (st : List Value) (h : eH), ru 4 16 (some (.ref v) :: t) st h = ru 4 17 (some (.ref v) :: t) (.ref v :: st) h) ∧
  (∀ (x0 x1 x2 x3 : Option Value) (v : Int32) (t : eL) (st : List Value) (h : eH), ru 4 17 (x0 :: x1 :: x2 :: x3 :: some (.int v) :: t) st h = ru 4 19 (x0 :: x1 :: x2 :: x3 :: some (.int v) :: t) (.int v :: st) h) ∧
  (∀ (x0 x1 x2 : Option Value) (v : Int32) (t : eL) (st : List Value) (h : eH), ru 4 19 (x0 :: x1 :: x2 :: some (.int v) :: t) st h = ru 4 20 (x0 :: x1 :: x2 :: some (.int v) :: t) (.int v :: st) h) ∧
  (∀ (x : Int32) (i : Int32) (a : Nat) (ls : eL) (st : List Value) (h : eH), ru 4 20 ls (.int x :: .int i :: .ref a :: st) h = wI (h.1 a) i x (fun e => ru 4 21 ls st (eUp h a e))) ∧
  (∀ (x0 x1 x2 x3 : Option Value) (v : Int32) (t : eL) (st : List Value) (h : eH), ru 4 21 (x0 :: x1 :: x2 :: x3 :: some (.int v) :: t) st h = ru 4 24 (x0 :: x1 :: x2 :: eKl x3 :: some (.int (v + 1)) :: t) st h) ∧
  (∀ (ls : eL) (st : List Value) (h : eH), ru 4 24 ls st h = ru 4 10 ls st h) ∧
  (∀ (ls : eL) (h : eH), ru 4 27 ls [] h = some (none, h)) := ⟨fun v t st h => ru_go rfl rfl,
  fun a ls st h => ru_alen rfl,
  fun x0 v t st h => ru_go rfl rfl,
  fun x0 x1 v t st h => ru_go rfl rfl,
  fun a0 a1 a2 ls h => ru_inv rfl (by decide) rfl (Nat.le_of_ble_eq_true rfl),
  fun x0 v t st h => ru_go rfl rfl,
  fun x0 x1 x2 x3 x4 v t st h => ru_go rfl rfl,
  fun x0 x1 v t st h => ru_go rfl rfl,
  fun x y ls st h => ru_if rfl rfl,
  fun v t st h => ru_go rfl rfl,
  fun x0 x1 x2 x3 v t st h => ru_go rfl rfl,
  fun x0 x1 x2 v t st h => ru_go rfl rfl,
  fun x i a ls st h => ru_iast rfl,
  fun x0 x1 x2 x3 v t st h => ru_go rfl rfl,
  fun ls st h => ru_go rfl rfl,
  fun ls h => ru_ret rfl rfl⟩
theorem E4 (a0 : Nat) (a1 : Int32) (a2 : Int32) (a3 : Int32) (h : eH) : den 4 [.ref a0, .int a1, .int a2, .int a3] h = ru 4 0 [some (.ref a0), some (.int a1), some (.int a2), some (.int a3), none] [] h := den_st rfl (Nat.le_of_ble_eq_true rfl)
/-! 5 J9_abs_0f7a4 -/
set_option maxRecDepth 100000 in
theorem S5 : (∀ (v : Int32) (t : eL) (st : List Value) (h : eH), ru 5 0 (some (.int v) :: t) st h = ru 5 1 (some (.int v) :: t) (.int v :: st) h) ∧
  (∀ (x : Int32) (ls : eL) (st : List Value) (h : eH), ru 5 1 ls (.int x :: st) h = if 0 ≤ x then ru 5 9 ls st h else ru 5 4 ls st h) ∧
  (∀ (v : Int32) (t : eL) (st : List Value) (h : eH), ru 5 4 (some (.int v) :: t) st h = ru 5 5 (some (.int v) :: t) (.int v :: st) h) ∧
  (∀ (x : Int32) (ls : eL) (st : List Value) (h : eH), ru 5 5 ls (.int x :: st) h = ru 5 6 ls (.int (-x) :: st) h) ∧
  (∀ (ls : eL) (st : List Value) (h : eH), ru 5 6 ls st h = ru 5 10 ls st h) ∧
  (∀ (v : Int32) (t : eL) (st : List Value) (h : eH), ru 5 9 (some (.int v) :: t) st h = ru 5 10 (some (.int v) :: t) (.int v :: st) h) ∧
  (∀ (x : Int32) (ls : eL) (h : eH), ru 5 10 ls [.int x] h = some (some (.int x), h)) := ⟨fun v t st h => ru_go rfl rfl,
  fun x ls st h => ru_if rfl rfl,
  fun v t st h => ru_go rfl rfl,
  fun x ls st h => ru_go rfl rfl,
  fun ls st h => ru_go rfl rfl,
  fun v t st h => ru_go rfl rfl,
  fun x ls h => ru_ret rfl rfl⟩
theorem E5 (a0 : Int32) (h : eH) : den 5 [.int a0] h = ru 5 0 [some (.int a0)] [] h := den_st rfl (Nat.le_of_ble_eq_true rfl)
/-! 6 J9_floorDiv_f86c9 -/
set_option maxRecDepth 100000 in
theorem S6 : (∀ (v : Int64) (t : eL) (st : List Value) (h : eH), ru 6 0 (some (.long v) :: t) st h = ru 6 1 (some (.long v) :: t) (.long v :: st) h) ∧
  (∀ (x0 x1 : Option Value) (v : Int64) (t : eL) (st : List Value) (h : eH), ru 6 1 (x0 :: x1 :: some (.long v) :: t) st h = ru 6 2 (x0 :: x1 :: some (.long v) :: t) (.long v :: st) h) ∧
  (∀ (x y : Int64) (ls : eL) (st : List Value) (h : eH), ru 6 2 ls (.long y :: .long x :: st) h = if y = 0 then none else ru 6 3 ls (.long (x / y) :: st) h) ∧
  (∀ (x0 x1 x2 x3 x4 x5 : Option Value) (v : Int64) (t : eL) (st : List Value) (h : eH), ru 6 3 (x0 :: x1 :: x2 :: x3 :: x4 :: x5 :: t) (.long v :: st) h = ru 6 5 (x0 :: x1 :: x2 :: eKl x3 :: some (.long v) :: none :: t) st h) ∧
  (∀ (v : Int64) (t : eL) (st : List Value) (h : eH), ru 6 5 (some (.long v) :: t) st h = ru 6 6 (some (.long v) :: t) (.long v :: st) h) ∧
  (∀ (x0 x1 : Option Value) (v : Int64) (t : eL) (st : List Value) (h : eH), ru 6 6 (x0 :: x1 :: some (.long v) :: t) st h = ru 6 7 (x0 :: x1 :: some (.long v) :: t) (.long v :: st) h) ∧
  (∀ (x y : Int64) (ls : eL) (st : List Value) (h : eH), ru 6 7 ls (.long y :: .long x :: st) h = ru 6 8 ls (.long (x ^^^ y) :: st) h) ∧
  (∀ (ls : eL) (st : List Value) (h : eH), ru 6 8 ls st h = ru 6 9 ls (.long (lN 0) :: st) h) ∧
  (∀ (x y : Int64) (ls : eL) (st : List Value) (h : eH), ru 6 9 ls (.long y :: .long x :: st) h = ru 6 10 ls (.int (lg_cmp x y) :: st) h) ∧
  (∀ (x : Int32) (ls : eL) (st : List Value) (h : eH), ru 6 10 ls (.int x :: st) h = if 0 ≤ x then ru 6 27 ls st h else ru 6 13 ls st h) ∧
  (∀ (x0 x1 x2 x3 : Option Value) (v : Int64) (t : eL) (st : List Value) (h : eH), ru 6 13 (x0 :: x1 :: x2 :: x3 :: some (.long v) :: t) st h = ru 6 15 (x0 :: x1 :: x2 :: x3 :: some (.long v) :: t) (.long v :: st) h) ∧
  (∀ (x0 x1 : Option Value) (v : Int64) (t : eL) (st : List Value) (h : eH), ru 6 15 (x0 :: x1 :: some (.long v) :: t) st h = ru 6 16 (x0 :: x1 :: some (.long v) :: t) (.long v :: st) h) ∧
  (∀ (x y : Int64) (ls : eL) (st : List Value) (h : eH), ru 6 16 ls (.long y :: .long x :: st) h = ru 6 17 ls (.long (x * y) :: st) h) ∧
  (∀ (v : Int64) (t : eL) (st : List Value) (h : eH), ru 6 17 (some (.long v) :: t) st h = ru 6 18 (some (.long v) :: t) (.long v :: st) h) ∧
  (∀ (x y : Int64) (ls : eL) (st : List Value) (h : eH), ru 6 18 ls (.long y :: .long x :: st) h = ru 6 19 ls (.int (lg_cmp x y) :: st) h) ∧
  (∀ (x : Int32) (ls : eL) (st : List Value) (h : eH), ru 6 19 ls (.int x :: st) h = if x = 0 then ru 6 27 ls st h else ru 6 22 ls st h) ∧
  (∀ (x0 x1 x2 x3 : Option Value) (v : Int64) (t : eL) (st : List Value) (h : eH), ru 6 22 (x0 :: x1 :: x2 :: x3 :: some (.long v) :: t) st h = ru 6 24 (x0 :: x1 :: x2 :: x3 :: some (.long v) :: t) (.long v :: st) h) ∧
  (∀ (ls : eL) (st : List Value) (h : eH), ru 6 24 ls st h = ru 6 25 ls (.long (lN 1) :: st) h) ∧
  (∀ (x y : Int64) (ls : eL) (st : List Value) (h : eH), ru 6 25 ls (.long y :: .long x :: st) h = ru 6 26 ls (.long (x - y) :: st) h) ∧
  (∀ (x : Int64) (ls : eL) (h : eH), ru 6 26 ls [.long x] h = some (some (.long x), h)) ∧
  (∀ (x0 x1 x2 x3 : Option Value) (v : Int64) (t : eL) (st : List Value) (h : eH), ru 6 27 (x0 :: x1 :: x2 :: x3 :: some (.long v) :: t) st h = ru 6 29 (x0 :: x1 :: x2 :: x3 :: some (.long v) :: t) (.long v :: st) h) ∧
  (∀ (x : Int64) (ls : eL) (h : eH), ru 6 29 ls [.long x] h = some (some (.long x), h)) := ⟨fun v t st h => ru_go rfl rfl,
  fun x0 x1 v t st h => ru_go rfl rfl,
  fun x y ls st h => ru_guard rfl rfl,
  fun x0 x1 x2 x3 x4 x5 v t st h => ru_go rfl rfl,
  fun v t st h => ru_go rfl rfl,
  fun x0 x1 v t st h => ru_go rfl rfl,
  fun x y ls st h => ru_go rfl rfl,
  fun ls st h => ru_go rfl rfl,
  fun x y ls st h => ru_go rfl rfl,
  fun x ls st h => ru_if rfl rfl,
  fun x0 x1 x2 x3 v t st h => ru_go rfl rfl,
  fun x0 x1 v t st h => ru_go rfl rfl,
  fun x y ls st h => ru_go rfl rfl,
  fun v t st h => ru_go rfl rfl,
  fun x y ls st h => ru_go rfl rfl,
  fun x ls st h => ru_if rfl rfl,
  fun x0 x1 x2 x3 v t st h => ru_go rfl rfl,
  fun ls st h => ru_go rfl rfl,
  fun x y ls st h => ru_go rfl rfl,
  fun x ls h => ru_ret rfl rfl,
  fun x0 x1 x2 x3 v t st h => ru_go rfl rfl,
  fun x ls h => ru_ret rfl rfl⟩
theorem E6 (a0 : Int64) (a1 : Int64) (h : eH) : den 6 [.long a0, .long a1] h = ru 6 0 [some (.long a0), none, some (.long a1), none, none, none] [] h := den_st rfl (Nat.le_of_ble_eq_true rfl)
/-! 7 J9_floorMod_f86c9 -/
set_option maxRecDepth 100000 in
theorem S7 : (∀ (v : Int64) (t : eL) (st : List Value) (h : eH), ru 7 0 (some (.long v) :: t) st h = ru 7 1 (some (.long v) :: t) (.long v :: st) h) ∧
  (∀ (x0 x1 : Option Value) (v : Int64) (t : eL) (st : List Value) (h : eH), ru 7 1 (x0 :: x1 :: some (.long v) :: t) st h = ru 7 2 (x0 :: x1 :: some (.long v) :: t) (.long v :: st) h) ∧
  (∀ (x y : Int64) (ls : eL) (st : List Value) (h : eH), ru 7 2 ls (.long y :: .long x :: st) h = if y = 0 then none else ru 7 3 ls (.long (x - x / y * y) :: st) h) ∧
  (∀ (x0 x1 x2 x3 x4 x5 : Option Value) (v : Int64) (t : eL) (st : List Value) (h : eH), ru 7 3 (x0 :: x1 :: x2 :: x3 :: x4 :: x5 :: t) (.long v :: st) h = ru 7 5 (x0 :: x1 :: x2 :: eKl x3 :: some (.long v) :: none :: t) st h) ∧
  (∀ (v : Int64) (t : eL) (st : List Value) (h : eH), ru 7 5 (some (.long v) :: t) st h = ru 7 6 (some (.long v) :: t) (.long v :: st) h) ∧
  (∀ (x0 x1 : Option Value) (v : Int64) (t : eL) (st : List Value) (h : eH), ru 7 6 (x0 :: x1 :: some (.long v) :: t) st h = ru 7 7 (x0 :: x1 :: some (.long v) :: t) (.long v :: st) h) ∧
  (∀ (x y : Int64) (ls : eL) (st : List Value) (h : eH), ru 7 7 ls (.long y :: .long x :: st) h = ru 7 8 ls (.long (x ^^^ y) :: st) h) ∧
  (∀ (ls : eL) (st : List Value) (h : eH), ru 7 8 ls st h = ru 7 9 ls (.long (lN 0) :: st) h) ∧
  (∀ (x y : Int64) (ls : eL) (st : List Value) (h : eH), ru 7 9 ls (.long y :: .long x :: st) h = ru 7 10 ls (.int (lg_cmp x y) :: st) h) ∧
  (∀ (x : Int32) (ls : eL) (st : List Value) (h : eH), ru 7 10 ls (.int x :: st) h = if 0 ≤ x then ru 7 25 ls st h else ru 7 13 ls st h) ∧
  (∀ (x0 x1 x2 x3 : Option Value) (v : Int64) (t : eL) (st : List Value) (h : eH), ru 7 13 (x0 :: x1 :: x2 :: x3 :: some (.long v) :: t) st h = ru 7 15 (x0 :: x1 :: x2 :: x3 :: some (.long v) :: t) (.long v :: st) h) ∧
  (∀ (ls : eL) (st : List Value) (h : eH), ru 7 15 ls st h = ru 7 16 ls (.long (lN 0) :: st) h) ∧
  (∀ (x y : Int64) (ls : eL) (st : List Value) (h : eH), ru 7 16 ls (.long y :: .long x :: st) h = ru 7 17 ls (.int (lg_cmp x y) :: st) h) ∧
  (∀ (x : Int32) (ls : eL) (st : List Value) (h : eH), ru 7 17 ls (.int x :: st) h = if x = 0 then ru 7 25 ls st h else ru 7 20 ls st h) ∧
  (∀ (x0 x1 x2 x3 : Option Value) (v : Int64) (t : eL) (st : List Value) (h : eH), ru 7 20 (x0 :: x1 :: x2 :: x3 :: some (.long v) :: t) st h = ru 7 22 (x0 :: x1 :: x2 :: x3 :: some (.long v) :: t) (.long v :: st) h) ∧
  (∀ (x0 x1 : Option Value) (v : Int64) (t : eL) (st : List Value) (h : eH), ru 7 22 (x0 :: x1 :: some (.long v) :: t) st h = ru 7 23 (x0 :: x1 :: some (.long v) :: t) (.long v :: st) h) ∧
  (∀ (x y : Int64) (ls : eL) (st : List Value) (h : eH), ru 7 23 ls (.long y :: .long x :: st) h = ru 7 24 ls (.long (x + y) :: st) h) ∧
  (∀ (x : Int64) (ls : eL) (h : eH), ru 7 24 ls [.long x] h = some (some (.long x), h)) ∧
  (∀ (x0 x1 x2 x3 : Option Value) (v : Int64) (t : eL) (st : List Value) (h : eH), ru 7 25 (x0 :: x1 :: x2 :: x3 :: some (.long v) :: t) st h = ru 7 27 (x0 :: x1 :: x2 :: x3 :: some (.long v) :: t) (.long v :: st) h) ∧
  (∀ (x : Int64) (ls : eL) (h : eH), ru 7 27 ls [.long x] h = some (some (.long x), h)) := ⟨fun v t st h => ru_go rfl rfl,
  fun x0 x1 v t st h => ru_go rfl rfl,
  fun x y ls st h => ru_guard rfl rfl,
  fun x0 x1 x2 x3 x4 x5 v t st h => ru_go rfl rfl,
  fun v t st h => ru_go rfl rfl,
  fun x0 x1 v t st h => ru_go rfl rfl,
  fun x y ls st h => ru_go rfl rfl,
  fun ls st h => ru_go rfl rfl,
  fun x y ls st h => ru_go rfl rfl,
  fun x ls st h => ru_if rfl rfl,
  fun x0 x1 x2 x3 v t st h => ru_go rfl rfl,
  fun ls st h => ru_go rfl rfl,
  fun x y ls st h => ru_go rfl rfl,
  fun x ls st h => ru_if rfl rfl,
  fun x0 x1 x2 x3 v t st h => ru_go rfl rfl,
  fun x0 x1 v t st h => ru_go rfl rfl,
  fun x y ls st h => ru_go rfl rfl,
  fun x ls h => ru_ret rfl rfl,
  fun x0 x1 x2 x3 v t st h => ru_go rfl rfl,
  fun x ls h => ru_ret rfl rfl⟩
theorem E7 (a0 : Int64) (a1 : Int64) (h : eH) : den 7 [.long a0, .long a1] h = ru 7 0 [some (.long a0), none, some (.long a1), none, none, none] [] h := den_st rfl (Nat.le_of_ble_eq_true rfl)
/-! 8 J9_max_7cf53 -/
set_option maxRecDepth 100000 in
theorem S8 : (∀ (v : Int32) (t : eL) (st : List Value) (h : eH), ru 8 0 (some (.int v) :: t) st h = ru 8 1 (some (.int v) :: t) (.int v :: st) h) ∧
  (∀ (x0 : Option Value) (v : Int32) (t : eL) (st : List Value) (h : eH), ru 8 1 (x0 :: some (.int v) :: t) st h = ru 8 2 (x0 :: some (.int v) :: t) (.int v :: st) h) ∧
  (∀ (x y : Int32) (ls : eL) (st : List Value) (h : eH), ru 8 2 ls (.int y :: .int x :: st) h = if x < y then ru 8 9 ls st h else ru 8 5 ls st h) ∧
  (∀ (v : Int32) (t : eL) (st : List Value) (h : eH), ru 8 5 (some (.int v) :: t) st h = ru 8 6 (some (.int v) :: t) (.int v :: st) h) ∧
  (∀ (ls : eL) (st : List Value) (h : eH), ru 8 6 ls st h = ru 8 10 ls st h) ∧
  (∀ (x0 : Option Value) (v : Int32) (t : eL) (st : List Value) (h : eH), ru 8 9 (x0 :: some (.int v) :: t) st h = ru 8 10 (x0 :: some (.int v) :: t) (.int v :: st) h) ∧
  (∀ (x : Int32) (ls : eL) (h : eH), ru 8 10 ls [.int x] h = some (some (.int x), h)) := ⟨fun v t st h => ru_go rfl rfl,
  fun x0 v t st h => ru_go rfl rfl,
  fun x y ls st h => ru_if rfl rfl,
  fun v t st h => ru_go rfl rfl,
  fun ls st h => ru_go rfl rfl,
  fun x0 v t st h => ru_go rfl rfl,
  fun x ls h => ru_ret rfl rfl⟩
theorem E8 (a0 : Int32) (a1 : Int32) (h : eH) : den 8 [.int a0, .int a1] h = ru 8 0 [some (.int a0), some (.int a1)] [] h := den_st rfl (Nat.le_of_ble_eq_true rfl)
/-! 9 J9_min_7cf53 -/
set_option maxRecDepth 100000 in
theorem S9 : (∀ (v : Int32) (t : eL) (st : List Value) (h : eH), ru 9 0 (some (.int v) :: t) st h = ru 9 1 (some (.int v) :: t) (.int v :: st) h) ∧
  (∀ (x0 : Option Value) (v : Int32) (t : eL) (st : List Value) (h : eH), ru 9 1 (x0 :: some (.int v) :: t) st h = ru 9 2 (x0 :: some (.int v) :: t) (.int v :: st) h) ∧
  (∀ (x y : Int32) (ls : eL) (st : List Value) (h : eH), ru 9 2 ls (.int y :: .int x :: st) h = if y < x then ru 9 9 ls st h else ru 9 5 ls st h) ∧
  (∀ (v : Int32) (t : eL) (st : List Value) (h : eH), ru 9 5 (some (.int v) :: t) st h = ru 9 6 (some (.int v) :: t) (.int v :: st) h) ∧
  (∀ (ls : eL) (st : List Value) (h : eH), ru 9 6 ls st h = ru 9 10 ls st h) ∧
  (∀ (x0 : Option Value) (v : Int32) (t : eL) (st : List Value) (h : eH), ru 9 9 (x0 :: some (.int v) :: t) st h = ru 9 10 (x0 :: some (.int v) :: t) (.int v :: st) h) ∧
  (∀ (x : Int32) (ls : eL) (h : eH), ru 9 10 ls [.int x] h = some (some (.int x), h)) := ⟨fun v t st h => ru_go rfl rfl,
  fun x0 v t st h => ru_go rfl rfl,
  fun x y ls st h => ru_if rfl rfl,
  fun v t st h => ru_go rfl rfl,
  fun ls st h => ru_go rfl rfl,
  fun x0 v t st h => ru_go rfl rfl,
  fun x ls h => ru_ret rfl rfl⟩
theorem E9 (a0 : Int32) (a1 : Int32) (h : eH) : den 9 [.int a0, .int a1] h = ru 9 0 [some (.int a0), some (.int a1)] [] h := den_st rfl (Nat.le_of_ble_eq_true rfl)
/-! 10 J9_min_f86c9 -/
set_option maxRecDepth 100000 in
theorem S10 : (∀ (v : Int64) (t : eL) (st : List Value) (h : eH), ru 10 0 (some (.long v) :: t) st h = ru 10 1 (some (.long v) :: t) (.long v :: st) h) ∧
  (∀ (x0 x1 : Option Value) (v : Int64) (t : eL) (st : List Value) (h : eH), ru 10 1 (x0 :: x1 :: some (.long v) :: t) st h = ru 10 2 (x0 :: x1 :: some (.long v) :: t) (.long v :: st) h) ∧
  (∀ (x y : Int64) (ls : eL) (st : List Value) (h : eH), ru 10 2 ls (.long y :: .long x :: st) h = ru 10 3 ls (.int (lg_cmp x y) :: st) h) ∧
  (∀ (x : Int32) (ls : eL) (st : List Value) (h : eH), ru 10 3 ls (.int x :: st) h = if 0 < x then ru 10 10 ls st h else ru 10 6 ls st h) ∧
  (∀ (v : Int64) (t : eL) (st : List Value) (h : eH), ru 10 6 (some (.long v) :: t) st h = ru 10 7 (some (.long v) :: t) (.long v :: st) h) ∧
  (∀ (ls : eL) (st : List Value) (h : eH), ru 10 7 ls st h = ru 10 11 ls st h) ∧
  (∀ (x0 x1 : Option Value) (v : Int64) (t : eL) (st : List Value) (h : eH), ru 10 10 (x0 :: x1 :: some (.long v) :: t) st h = ru 10 11 (x0 :: x1 :: some (.long v) :: t) (.long v :: st) h) ∧
  (∀ (x : Int64) (ls : eL) (h : eH), ru 10 11 ls [.long x] h = some (some (.long x), h)) := ⟨fun v t st h => ru_go rfl rfl,
  fun x0 x1 v t st h => ru_go rfl rfl,
  fun x y ls st h => ru_go rfl rfl,
  fun x ls st h => ru_if rfl rfl,
  fun v t st h => ru_go rfl rfl,
  fun ls st h => ru_go rfl rfl,
  fun x0 x1 v t st h => ru_go rfl rfl,
  fun x ls h => ru_ret rfl rfl⟩
theorem E10 (a0 : Int64) (a1 : Int64) (h : eH) : den 10 [.long a0, .long a1] h = ru 10 0 [some (.long a0), none, some (.long a1), none] [] h := den_st rfl (Nat.le_of_ble_eq_true rfl)
/-! 11 X11_carry -/
set_option maxRecDepth 100000 in
theorem H11_2 : (∀ (x0 x1 : Option Value) (v : Int32) (t : eL) (st : List Value) (h : eH), ru 11 2 (x0 :: x1 :: some (.int v) :: t) st h = ru 11 3 (x0 :: x1 :: some (.int v) :: t) (.int v :: st) h) := fun x0 x1 v t st h => ru_go rfl rfl
set_option maxRecDepth 100000 in
theorem S11 : (∀ (ls : eL) (st : List Value) (h : eH), ru 11 0 ls st h = ru 11 1 ls (.int (nI 0) :: st) h) ∧
  (∀ (x0 x1 x2 : Option Value) (v : Int32) (t : eL) (st : List Value) (h : eH), ru 11 1 (x0 :: x1 :: x2 :: t) (.int v :: st) h = ru 11 2 (x0 :: eKl x1 :: some (.int v) :: t) st h) ∧
  (∀ (ls : eL) (st : List Value) (h : eH), ru 11 3 ls st h = ru 11 5 ls (.int (nI 23) :: st) h) ∧
  (∀ (x y : Int32) (ls : eL) (st : List Value) (h : eH), ru 11 5 ls (.int y :: .int x :: st) h = if y ≤ x then ru 11 67 ls st h else ru 11 8 ls st h) ∧
  (∀ (v : Nat) (t : eL) (st : List Value) (h : eH), ru 11 8 (some (.ref v) :: t) st h = ru 11 9 (some (.ref v) :: t) (.ref v :: st) h) ∧
  (∀ (a : Nat) (ls : eL) (st : List Value) (h : eH), ru 11 9 ls (.ref a :: st) h = gF (h.1 a) 11 0 (fun v => ru 11 12 ls (v :: st) h)) ∧
  (∀ (ls : eL) (st : List Value) (h : eH), ru 11 12 ls st h = ru 11 14 ls (.int (nI 24) :: st) h) ∧
  (∀ (x0 : Option Value) (v : Int32) (t : eL) (st : List Value) (h : eH), ru 11 14 (x0 :: some (.int v) :: t) st h = ru 11 15 (x0 :: some (.int v) :: t) (.int v :: st) h) ∧
  (∀ (x y : Int32) (ls : eL) (st : List Value) (h : eH), ru 11 15 ls (.int y :: .int x :: st) h = ru 11 16 ls (.int (x * y) :: st) h) ∧
  (∀ (x0 x1 : Option Value) (v : Int32) (t : eL) (st : List Value) (h : eH), ru 11 16 (x0 :: x1 :: some (.int v) :: t) st h = ru 11 17 (x0 :: x1 :: some (.int v) :: t) (.int v :: st) h) ∧
  (∀ (x y : Int32) (ls : eL) (st : List Value) (h : eH), ru 11 17 ls (.int y :: .int x :: st) h = ru 11 18 ls (.int (x + y) :: st) h) ∧
  (∀ (i : Int32) (a : Nat) (ls : eL) (st : List Value) (h : eH), ru 11 18 ls (.int i :: .ref a :: st) h = aL (h.1 a) i (fun v => ru 11 19 ls (.long v :: st) h)) ∧
  (∀ (x0 x1 x2 x3 x4 : Option Value) (v : Int64) (t : eL) (st : List Value) (h : eH), ru 11 19 (x0 :: x1 :: x2 :: x3 :: x4 :: t) (.long v :: st) h = ru 11 20 (x0 :: x1 :: eKl x2 :: some (.long v) :: none :: t) st h) ∧
  (∀ (v : Nat) (t : eL) (st : List Value) (h : eH), ru 11 20 (some (.ref v) :: t) st h = ru 11 21 (some (.ref v) :: t) (.ref v :: st) h) ∧
  (∀ (a : Nat) (ls : eL) (st : List Value) (h : eH), ru 11 21 ls (.ref a :: st) h = gF (h.1 a) 11 0 (fun v => ru 11 24 ls (v :: st) h)) ∧
  (∀ (ls : eL) (st : List Value) (h : eH), ru 11 24 ls st h = ru 11 26 ls (.int (nI 24) :: st) h) ∧
  (∀ (x0 : Option Value) (v : Int32) (t : eL) (st : List Value) (h : eH), ru 11 26 (x0 :: some (.int v) :: t) st h = ru 11 27 (x0 :: some (.int v) :: t) (.int v :: st) h) ∧
  (∀ (x y : Int32) (ls : eL) (st : List Value) (h : eH), ru 11 27 ls (.int y :: .int x :: st) h = ru 11 28 ls (.int (x * y) :: st) h) ∧
  (∀ (x0 x1 : Option Value) (v : Int32) (t : eL) (st : List Value) (h : eH), ru 11 28 (x0 :: x1 :: some (.int v) :: t) st h = ru 11 29 (x0 :: x1 :: some (.int v) :: t) (.int v :: st) h) ∧
  (∀ (x y : Int32) (ls : eL) (st : List Value) (h : eH), ru 11 29 ls (.int y :: .int x :: st) h = ru 11 30 ls (.int (x + y) :: st) h) ∧
  (∀ (x0 x1 x2 : Option Value) (v : Int64) (t : eL) (st : List Value) (h : eH), ru 11 30 (x0 :: x1 :: x2 :: some (.long v) :: t) st h = ru 11 31 (x0 :: x1 :: x2 :: some (.long v) :: t) (.long v :: st) h) ∧
  (∀ (ls : eL) (st : List Value) (h : eH), ru 11 31 ls st h = ru 11 34 ls (.long (lN 1000000000) :: st) h) ∧
  (∀ (a0 : Int64) (a1 : Int64) (u0 : Int32) (u1 : Nat) (ls : eL) (h : eH), ru 11 34 ls [.long a1, .long a0, .int u0, .ref u1] h = cl (den 7 [.long a0, .long a1] h) (fun v h => ru 11 37 ls (v.toList ++ [.int u0, .ref u1]) h)) ∧
  (∀ (x : Int64) (i : Int32) (a : Nat) (ls : eL) (st : List Value) (h : eH), ru 11 37 ls (.long x :: .int i :: .ref a :: st) h = wL (h.1 a) i x (fun e => ru 11 38 ls st (eUp h a e))) ∧
  (∀ (v : Nat) (t : eL) (st : List Value) (h : eH), ru 11 38 (some (.ref v) :: t) st h = ru 11 39 (some (.ref v) :: t) (.ref v :: st) h) ∧
  (∀ (a : Nat) (ls : eL) (st : List Value) (h : eH), ru 11 39 ls (.ref a :: st) h = gF (h.1 a) 11 0 (fun v => ru 11 42 ls (v :: st) h)) ∧
  (∀ (ls : eL) (st : List Value) (h : eH), ru 11 42 ls st h = ru 11 44 ls (.int (nI 24) :: st) h) ∧
  (∀ (x0 : Option Value) (v : Int32) (t : eL) (st : List Value) (h : eH), ru 11 44 (x0 :: some (.int v) :: t) st h = ru 11 45 (x0 :: some (.int v) :: t) (.int v :: st) h) ∧
  (∀ (x y : Int32) (ls : eL) (st : List Value) (h : eH), ru 11 45 ls (.int y :: .int x :: st) h = ru 11 46 ls (.int (x * y) :: st) h) ∧
  (∀ (x0 x1 : Option Value) (v : Int32) (t : eL) (st : List Value) (h : eH), ru 11 46 (x0 :: x1 :: some (.int v) :: t) st h = ru 11 47 (x0 :: x1 :: some (.int v) :: t) (.int v :: st) h) ∧
  (∀ (x y : Int32) (ls : eL) (st : List Value) (h : eH), ru 11 47 ls (.int y :: .int x :: st) h = ru 11 48 ls (.int (x + y) :: st) h) ∧
  (∀ (ls : eL) (st : List Value) (h : eH), ru 11 48 ls st h = ru 11 49 ls (.int (nI 1) :: st) h) ∧
  (∀ (x y : Int32) (ls : eL) (st : List Value) (h : eH), ru 11 49 ls (.int y :: .int x :: st) h = ru 11 50 ls (.int (x + y) :: st) h) ∧
  (∀ (x : Int32) (a : Nat) (ls : eL) (st : List Value) (h : eH), ru 11 50 ls (.int x :: .ref a :: st) h = ru 11 51 ls (.int x :: .ref a :: .int x :: .ref a :: st) h) ∧
  (∀ (i : Int32) (a : Nat) (ls : eL) (st : List Value) (h : eH), ru 11 51 ls (.int i :: .ref a :: st) h = aL (h.1 a) i (fun v => ru 11 52 ls (.long v :: st) h)) ∧
  (∀ (x0 x1 x2 : Option Value) (v : Int64) (t : eL) (st : List Value) (h : eH), ru 11 52 (x0 :: x1 :: x2 :: some (.long v) :: t) st h = ru 11 53 (x0 :: x1 :: x2 :: some (.long v) :: t) (.long v :: st) h) ∧
  (∀ (ls : eL) (st : List Value) (h : eH), ru 11 53 ls st h = ru 11 56 ls (.long (lN 1000000000) :: st) h) ∧
  (∀ (a0 : Int64) (a1 : Int64) (u0 : Int64) (u1 : Int32) (u2 : Nat) (ls : eL) (h : eH), ru 11 56 ls [.long a1, .long a0, .long u0, .int u1, .ref u2] h = cl (den 6 [.long a0, .long a1] h) (fun v h => ru 11 59 ls (v.toList ++ [.long u0, .int u1, .ref u2]) h)) ∧
  (∀ (x y : Int64) (ls : eL) (st : List Value) (h : eH), ru 11 59 ls (.long y :: .long x :: st) h = ru 11 60 ls (.long (x + y) :: st) h) ∧
  (∀ (x : Int64) (i : Int32) (a : Nat) (ls : eL) (st : List Value) (h : eH), ru 11 60 ls (.long x :: .int i :: .ref a :: st) h = wL (h.1 a) i x (fun e => ru 11 61 ls st (eUp h a e))) ∧
  (∀ (x0 x1 : Option Value) (v : Int32) (t : eL) (st : List Value) (h : eH), ru 11 61 (x0 :: x1 :: some (.int v) :: t) st h = ru 11 64 (x0 :: eKl x1 :: some (.int (v + 1)) :: t) st h) ∧
  (∀ (ls : eL) (st : List Value) (h : eH), ru 11 64 ls st h = ru 11 2 ls st h) ∧
  (∀ (ls : eL) (h : eH), ru 11 67 ls [] h = some (none, h)) := ⟨fun ls st h => ru_go rfl rfl,
  fun x0 x1 x2 v t st h => ru_go rfl rfl,
  fun ls st h => ru_go rfl rfl,
  fun x y ls st h => ru_if rfl rfl,
  fun v t st h => ru_go rfl rfl,
  fun a ls st h => ru_getf rfl,
  fun ls st h => ru_go rfl rfl,
  fun x0 v t st h => ru_go rfl rfl,
  fun x y ls st h => ru_go rfl rfl,
  fun x0 x1 v t st h => ru_go rfl rfl,
  fun x y ls st h => ru_go rfl rfl,
  fun i a ls st h => ru_lald rfl,
  fun x0 x1 x2 x3 x4 v t st h => ru_go rfl rfl,
  fun v t st h => ru_go rfl rfl,
  fun a ls st h => ru_getf rfl,
  fun ls st h => ru_go rfl rfl,
  fun x0 v t st h => ru_go rfl rfl,
  fun x y ls st h => ru_go rfl rfl,
  fun x0 x1 v t st h => ru_go rfl rfl,
  fun x y ls st h => ru_go rfl rfl,
  fun x0 x1 x2 v t st h => ru_go rfl rfl,
  fun ls st h => ru_go rfl rfl,
  fun a0 a1 u0 u1 ls h => ru_inv rfl (by decide) rfl (Nat.le_of_ble_eq_true rfl),
  fun x i a ls st h => ru_last rfl,
  fun v t st h => ru_go rfl rfl,
  fun a ls st h => ru_getf rfl,
  fun ls st h => ru_go rfl rfl,
  fun x0 v t st h => ru_go rfl rfl,
  fun x y ls st h => ru_go rfl rfl,
  fun x0 x1 v t st h => ru_go rfl rfl,
  fun x y ls st h => ru_go rfl rfl,
  fun ls st h => ru_go rfl rfl,
  fun x y ls st h => ru_go rfl rfl,
  fun x a ls st h => ru_go rfl rfl,
  fun i a ls st h => ru_lald rfl,
  fun x0 x1 x2 v t st h => ru_go rfl rfl,
  fun ls st h => ru_go rfl rfl,
  fun a0 a1 u0 u1 u2 ls h => ru_inv rfl (by decide) rfl (Nat.le_of_ble_eq_true rfl),
  fun x y ls st h => ru_go rfl rfl,
  fun x i a ls st h => ru_last rfl,
  fun x0 x1 v t st h => ru_go rfl rfl,
  fun ls st h => ru_go rfl rfl,
  fun ls h => ru_ret rfl rfl⟩
theorem E11 (a0 : Nat) (a1 : Int32) {h : eH} {fs : List Value} (ha : h.1 a0 = .inr (11, fs)) : den 11 [.ref a0, .int a1] h = ru 11 0 [some (.ref a0), some (.int a1), none, none, none] [] h := den_ob (Nat.le_of_ble_eq_true rfl) ha
/-! 12 X11_set -/
set_option maxRecDepth 100000 in
theorem H12_3 : (∀ (x0 x1 x2 x3 : Option Value) (v : Int32) (t : eL) (st : List Value) (h : eH), ru 12 3 (x0 :: x1 :: x2 :: x3 :: some (.int v) :: t) st h = ru 12 5 (x0 :: x1 :: x2 :: x3 :: some (.int v) :: t) (.int v :: st) h) := fun x0 x1 x2 x3 v t st h => ru_go rfl rfl
set_option maxRecDepth 100000 in
theorem H12_38 : (∀ (v : Nat) (t : eL) (st : List Value) (h : eH), ru 12 38 (some (.ref v) :: t) st h = ru 12 39 (some (.ref v) :: t) (.ref v :: st) h) := fun v t st h => ru_go rfl rfl
set_option maxRecDepth 100000 in
theorem S12 : (∀ (ls : eL) (st : List Value) (h : eH), ru 12 0 ls st h = ru 12 1 ls (.int (nI 0) :: st) h) ∧
  (∀ (x0 x1 x2 x3 x4 : Option Value) (v : Int32) (t : eL) (st : List Value) (h : eH), ru 12 1 (x0 :: x1 :: x2 :: x3 :: x4 :: t) (.int v :: st) h = ru 12 3 (x0 :: x1 :: x2 :: eKl x3 :: some (.int v) :: t) st h) ∧
  (∀ (ls : eL) (st : List Value) (h : eH), ru 12 5 ls st h = ru 12 7 ls (.int (nI 24) :: st) h) ∧
  (∀ (x y : Int32) (ls : eL) (st : List Value) (h : eH), ru 12 7 ls (.int y :: .int x :: st) h = if y ≤ x then ru 12 38 ls st h else ru 12 10 ls st h) ∧
  (∀ (v : Nat) (t : eL) (st : List Value) (h : eH), ru 12 10 (some (.ref v) :: t) st h = ru 12 11 (some (.ref v) :: t) (.ref v :: st) h) ∧
  (∀ (a : Nat) (ls : eL) (st : List Value) (h : eH), ru 12 11 ls (.ref a :: st) h = gF (h.1 a) 11 0 (fun v => ru 12 14 ls (v :: st) h)) ∧
  (∀ (ls : eL) (st : List Value) (h : eH), ru 12 14 ls st h = ru 12 16 ls (.int (nI 24) :: st) h) ∧
  (∀ (x0 : Option Value) (v : Int32) (t : eL) (st : List Value) (h : eH), ru 12 16 (x0 :: some (.int v) :: t) st h = ru 12 17 (x0 :: some (.int v) :: t) (.int v :: st) h) ∧
  (∀ (x y : Int32) (ls : eL) (st : List Value) (h : eH), ru 12 17 ls (.int y :: .int x :: st) h = ru 12 18 ls (.int (x * y) :: st) h) ∧
  (∀ (x0 x1 x2 x3 : Option Value) (v : Int32) (t : eL) (st : List Value) (h : eH), ru 12 18 (x0 :: x1 :: x2 :: x3 :: some (.int v) :: t) st h = ru 12 20 (x0 :: x1 :: x2 :: x3 :: some (.int v) :: t) (.int v :: st) h) ∧
  (∀ (x y : Int32) (ls : eL) (st : List Value) (h : eH), ru 12 20 ls (.int y :: .int x :: st) h = ru 12 21 ls (.int (x + y) :: st) h) ∧
  (∀ (x0 x1 x2 x3 : Option Value) (v : Int32) (t : eL) (st : List Value) (h : eH), ru 12 21 (x0 :: x1 :: x2 :: x3 :: some (.int v) :: t) st h = ru 12 23 (x0 :: x1 :: x2 :: x3 :: some (.int v) :: t) (.int v :: st) h) ∧
  (∀ (x : Int32) (ls : eL) (st : List Value) (h : eH), ru 12 23 ls (.int x :: st) h = if x = 0 then ru 12 26 ls st h else ru 12 30 ls st h) ∧
  (∀ (x0 x1 : Option Value) (v : Int64) (t : eL) (st : List Value) (h : eH), ru 12 26 (x0 :: x1 :: some (.long v) :: t) st h = ru 12 27 (x0 :: x1 :: some (.long v) :: t) (.long v :: st) h) ∧
  (∀ (ls : eL) (st : List Value) (h : eH), ru 12 27 ls st h = ru 12 31 ls st h) ∧
  (∀ (ls : eL) (st : List Value) (h : eH), ru 12 30 ls st h = ru 12 31 ls (.long (lN 0) :: st) h) ∧
  (∀ (x : Int64) (i : Int32) (a : Nat) (ls : eL) (st : List Value) (h : eH), ru 12 31 ls (.long x :: .int i :: .ref a :: st) h = wL (h.1 a) i x (fun e => ru 12 32 ls st (eUp h a e))) ∧
  (∀ (x0 x1 x2 x3 : Option Value) (v : Int32) (t : eL) (st : List Value) (h : eH), ru 12 32 (x0 :: x1 :: x2 :: x3 :: some (.int v) :: t) st h = ru 12 35 (x0 :: x1 :: x2 :: eKl x3 :: some (.int (v + 1)) :: t) st h) ∧
  (∀ (ls : eL) (st : List Value) (h : eH), ru 12 35 ls st h = ru 12 3 ls st h) ∧
  (∀ (x0 : Option Value) (v : Int32) (t : eL) (st : List Value) (h : eH), ru 12 39 (x0 :: some (.int v) :: t) st h = ru 12 40 (x0 :: some (.int v) :: t) (.int v :: st) h) ∧
  (∀ (a0 : Nat) (a1 : Int32) (ls : eL) (h : eH), ru 12 40 ls [.int a1, .ref a0] h = cl (den 11 [.ref a0, .int a1] h) (fun v h => ru 12 43 ls (v.toList ++ []) h)) ∧
  (∀ (ls : eL) (h : eH), ru 12 43 ls [] h = some (none, h)) := ⟨fun ls st h => ru_go rfl rfl,
  fun x0 x1 x2 x3 x4 v t st h => ru_go rfl rfl,
  fun ls st h => ru_go rfl rfl,
  fun x y ls st h => ru_if rfl rfl,
  fun v t st h => ru_go rfl rfl,
  fun a ls st h => ru_getf rfl,
  fun ls st h => ru_go rfl rfl,
  fun x0 v t st h => ru_go rfl rfl,
  fun x y ls st h => ru_go rfl rfl,
  fun x0 x1 x2 x3 v t st h => ru_go rfl rfl,
  fun x y ls st h => ru_go rfl rfl,
  fun x0 x1 x2 x3 v t st h => ru_go rfl rfl,
  fun x ls st h => ru_if rfl rfl,
  fun x0 x1 v t st h => ru_go rfl rfl,
  fun ls st h => ru_go rfl rfl,
  fun ls st h => ru_go rfl rfl,
  fun x i a ls st h => ru_last rfl,
  fun x0 x1 x2 x3 v t st h => ru_go rfl rfl,
  fun ls st h => ru_go rfl rfl,
  fun x0 v t st h => ru_go rfl rfl,
  fun a0 a1 ls h => ru_inv rfl (by decide) rfl (Nat.le_of_ble_eq_true rfl),
  fun ls h => ru_ret rfl rfl⟩
theorem E12 (a0 : Nat) (a1 : Int32) (a2 : Int64) {h : eH} {fs : List Value} (ha : h.1 a0 = .inr (11, fs)) : den 12 [.ref a0, .int a1, .long a2] h = ru 12 0 [some (.ref a0), some (.int a1), some (.long a2), none, none] [] h := den_ob (Nat.le_of_ble_eq_true rfl) ha
/-! 13 X11_freeOf -/
set_option maxRecDepth 100000 in
theorem H13_4 : (∀ (x0 x1 x2 : Option Value) (v : Int32) (t : eL) (st : List Value) (h : eH), ru 13 4 (x0 :: x1 :: x2 :: some (.int v) :: t) st h = ru 13 5 (x0 :: x1 :: x2 :: some (.int v) :: t) (.int v :: st) h) := fun x0 x1 x2 v t st h => ru_go rfl rfl
set_option maxRecDepth 100000 in
theorem H13_32 : (∀ (v : Nat) (t : eL) (st : List Value) (h : eH), ru 13 32 (some (.ref v) :: t) st h = ru 13 33 (some (.ref v) :: t) (.ref v :: st) h) := fun v t st h => ru_go rfl rfl
set_option maxRecDepth 100000 in
theorem S13 : (∀ (ls : eL) (st : List Value) (h : eH), ru 13 0 ls st h = ru 13 1 ls (.int (nI 0) :: st) h) ∧
  (∀ (x0 x1 x2 : Option Value) (v : Int32) (t : eL) (st : List Value) (h : eH), ru 13 1 (x0 :: x1 :: x2 :: t) (.int v :: st) h = ru 13 2 (x0 :: eKl x1 :: some (.int v) :: t) st h) ∧
  (∀ (ls : eL) (st : List Value) (h : eH), ru 13 2 ls st h = ru 13 3 ls (.int (nI 0) :: st) h) ∧
  (∀ (x0 x1 x2 x3 : Option Value) (v : Int32) (t : eL) (st : List Value) (h : eH), ru 13 3 (x0 :: x1 :: x2 :: x3 :: t) (.int v :: st) h = ru 13 4 (x0 :: x1 :: eKl x2 :: some (.int v) :: t) st h) ∧
  (∀ (x0 : Option Value) (v : Int32) (t : eL) (st : List Value) (h : eH), ru 13 5 (x0 :: some (.int v) :: t) st h = ru 13 6 (x0 :: some (.int v) :: t) (.int v :: st) h) ∧
  (∀ (x y : Int32) (ls : eL) (st : List Value) (h : eH), ru 13 6 ls (.int y :: .int x :: st) h = if y ≤ x then ru 13 32 ls st h else ru 13 9 ls st h) ∧
  (∀ (x0 x1 : Option Value) (v : Int32) (t : eL) (st : List Value) (h : eH), ru 13 9 (x0 :: x1 :: some (.int v) :: t) st h = ru 13 10 (x0 :: x1 :: some (.int v) :: t) (.int v :: st) h) ∧
  (∀ (v : Nat) (t : eL) (st : List Value) (h : eH), ru 13 10 (some (.ref v) :: t) st h = ru 13 11 (some (.ref v) :: t) (.ref v :: st) h) ∧
  (∀ (a : Nat) (ls : eL) (st : List Value) (h : eH), ru 13 11 ls (.ref a :: st) h = gF (h.1 a) 11 7 (fun v => ru 13 14 ls (v :: st) h)) ∧
  (∀ (x0 x1 x2 : Option Value) (v : Int32) (t : eL) (st : List Value) (h : eH), ru 13 14 (x0 :: x1 :: x2 :: some (.int v) :: t) st h = ru 13 15 (x0 :: x1 :: x2 :: some (.int v) :: t) (.int v :: st) h) ∧
  (∀ (i : Int32) (a : Nat) (ls : eL) (st : List Value) (h : eH), ru 13 15 ls (.int i :: .ref a :: st) h = aI (h.1 a) 2 i (fun v => ru 13 16 ls (.int v :: st) h)) ∧
  (∀ (x : Int32) (ls : eL) (st : List Value) (h : eH), ru 13 16 ls (.int x :: st) h = if x = 0 then ru 13 23 ls st h else ru 13 19 ls st h) ∧
  (∀ (ls : eL) (st : List Value) (h : eH), ru 13 19 ls st h = ru 13 20 ls (.int (nI 0) :: st) h) ∧
  (∀ (ls : eL) (st : List Value) (h : eH), ru 13 20 ls st h = ru 13 24 ls st h) ∧
  (∀ (ls : eL) (st : List Value) (h : eH), ru 13 23 ls st h = ru 13 24 ls (.int (nI 1) :: st) h) ∧
  (∀ (x y : Int32) (ls : eL) (st : List Value) (h : eH), ru 13 24 ls (.int y :: .int x :: st) h = ru 13 25 ls (.int (x + y) :: st) h) ∧
  (∀ (x0 x1 x2 : Option Value) (v : Int32) (t : eL) (st : List Value) (h : eH), ru 13 25 (x0 :: x1 :: x2 :: t) (.int v :: st) h = ru 13 26 (x0 :: eKl x1 :: some (.int v) :: t) st h) ∧
  (∀ (x0 x1 x2 : Option Value) (v : Int32) (t : eL) (st : List Value) (h : eH), ru 13 26 (x0 :: x1 :: x2 :: some (.int v) :: t) st h = ru 13 29 (x0 :: x1 :: eKl x2 :: some (.int (v + 1)) :: t) st h) ∧
  (∀ (ls : eL) (st : List Value) (h : eH), ru 13 29 ls st h = ru 13 4 ls st h) ∧
  (∀ (a : Nat) (ls : eL) (st : List Value) (h : eH), ru 13 33 ls (.ref a :: st) h = gF (h.1 a) 11 7 (fun v => ru 13 36 ls (v :: st) h)) ∧
  (∀ (x0 : Option Value) (v : Int32) (t : eL) (st : List Value) (h : eH), ru 13 36 (x0 :: some (.int v) :: t) st h = ru 13 37 (x0 :: some (.int v) :: t) (.int v :: st) h) ∧
  (∀ (i : Int32) (a : Nat) (ls : eL) (st : List Value) (h : eH), ru 13 37 ls (.int i :: .ref a :: st) h = aI (h.1 a) 2 i (fun v => ru 13 38 ls (.int v :: st) h)) ∧
  (∀ (x : Int32) (ls : eL) (st : List Value) (h : eH), ru 13 38 ls (.int x :: st) h = if x = 0 then ru 13 45 ls st h else ru 13 41 ls st h) ∧
  (∀ (ls : eL) (st : List Value) (h : eH), ru 13 41 ls st h = ru 13 42 ls (.int ((-1)) :: st) h) ∧
  (∀ (ls : eL) (st : List Value) (h : eH), ru 13 42 ls st h = ru 13 46 ls st h) ∧
  (∀ (x0 x1 : Option Value) (v : Int32) (t : eL) (st : List Value) (h : eH), ru 13 45 (x0 :: x1 :: some (.int v) :: t) st h = ru 13 46 (x0 :: x1 :: some (.int v) :: t) (.int v :: st) h) ∧
  (∀ (x : Int32) (ls : eL) (h : eH), ru 13 46 ls [.int x] h = some (some (.int x), h)) := ⟨fun ls st h => ru_go rfl rfl,
  fun x0 x1 x2 v t st h => ru_go rfl rfl,
  fun ls st h => ru_go rfl rfl,
  fun x0 x1 x2 x3 v t st h => ru_go rfl rfl,
  fun x0 v t st h => ru_go rfl rfl,
  fun x y ls st h => ru_if rfl rfl,
  fun x0 x1 v t st h => ru_go rfl rfl,
  fun v t st h => ru_go rfl rfl,
  fun a ls st h => ru_getf rfl,
  fun x0 x1 x2 v t st h => ru_go rfl rfl,
  fun i a ls st h => ru_zald rfl,
  fun x ls st h => ru_if rfl rfl,
  fun ls st h => ru_go rfl rfl,
  fun ls st h => ru_go rfl rfl,
  fun ls st h => ru_go rfl rfl,
  fun x y ls st h => ru_go rfl rfl,
  fun x0 x1 x2 v t st h => ru_go rfl rfl,
  fun x0 x1 x2 v t st h => ru_go rfl rfl,
  fun ls st h => ru_go rfl rfl,
  fun a ls st h => ru_getf rfl,
  fun x0 v t st h => ru_go rfl rfl,
  fun i a ls st h => ru_zald rfl,
  fun x ls st h => ru_if rfl rfl,
  fun ls st h => ru_go rfl rfl,
  fun ls st h => ru_go rfl rfl,
  fun x0 x1 v t st h => ru_go rfl rfl,
  fun x ls h => ru_ret rfl rfl⟩
theorem E13 (a0 : Nat) (a1 : Int32) {h : eH} {fs : List Value} (ha : h.1 a0 = .inr (11, fs)) : den 13 [.ref a0, .int a1] h = ru 13 0 [some (.ref a0), some (.int a1), none, none] [] h := den_ob (Nat.le_of_ble_eq_true rfl) ha
/-! 14 X11_kept -/
set_option maxRecDepth 100000 in
theorem S14 : (∀ (ls : eL) (st : List Value) (h : eH), ru 14 0 ls st h = ru 14 3 ls (.int (nI 292) :: st) h) ∧
  (∀ (ls : eL) (st : List Value) (h : eH), ru 14 3 ls st h = ru 14 5 ls (.int (nI 16) :: st) h) ∧
  (∀ (x0 : Option Value) (v : Int32) (t : eL) (st : List Value) (h : eH), ru 14 5 (x0 :: some (.int v) :: t) st h = ru 14 6 (x0 :: some (.int v) :: t) (.int v :: st) h) ∧
  (∀ (x y : Int32) (ls : eL) (st : List Value) (h : eH), ru 14 6 ls (.int y :: .int x :: st) h = ru 14 7 ls (.int (x * y) :: st) h) ∧
  (∀ (x y : Int32) (ls : eL) (st : List Value) (h : eH), ru 14 7 ls (.int y :: .int x :: st) h = ru 14 8 ls (.int (x + y) :: st) h) ∧
  (∀ (x0 x1 : Option Value) (v : Int32) (t : eL) (st : List Value) (h : eH), ru 14 8 (x0 :: x1 :: some (.int v) :: t) st h = ru 14 9 (x0 :: x1 :: some (.int v) :: t) (.int v :: st) h) ∧
  (∀ (x y : Int32) (ls : eL) (st : List Value) (h : eH), ru 14 9 ls (.int y :: .int x :: st) h = ru 14 10 ls (.int (x + y) :: st) h) ∧
  (∀ (x : Int32) (ls : eL) (h : eH), ru 14 10 ls [.int x] h = some (some (.int x), h)) := ⟨fun ls st h => ru_go rfl rfl,
  fun ls st h => ru_go rfl rfl,
  fun x0 v t st h => ru_go rfl rfl,
  fun x y ls st h => ru_go rfl rfl,
  fun x y ls st h => ru_go rfl rfl,
  fun x0 x1 v t st h => ru_go rfl rfl,
  fun x y ls st h => ru_go rfl rfl,
  fun x ls h => ru_ret rfl rfl⟩
theorem E14 (a0 : Nat) (a1 : Int32) (a2 : Int32) {h : eH} {fs : List Value} (ha : h.1 a0 = .inr (11, fs)) : den 14 [.ref a0, .int a1, .int a2] h = ru 14 0 [some (.ref a0), some (.int a1), some (.int a2)] [] h := den_ob (Nat.le_of_ble_eq_true rfl) ha
/-! 15 X11_more -/
set_option maxRecDepth 100000 in
theorem H15_3 : (∀ (x0 x1 x2 x3 x4 : Option Value) (v : Int32) (t : eL) (st : List Value) (h : eH), ru 15 3 (x0 :: x1 :: x2 :: x3 :: x4 :: some (.int v) :: t) st h = ru 15 5 (x0 :: x1 :: x2 :: x3 :: x4 :: some (.int v) :: t) (.int v :: st) h) := fun x0 x1 x2 x3 x4 v t st h => ru_go rfl rfl
set_option maxRecDepth 100000 in
theorem H15_45 : (∀ (v : Nat) (t : eL) (st : List Value) (h : eH), ru 15 45 (some (.ref v) :: t) st h = ru 15 46 (some (.ref v) :: t) (.ref v :: st) h) := fun v t st h => ru_go rfl rfl
set_option maxRecDepth 100000 in
theorem S15 : (∀ (ls : eL) (st : List Value) (h : eH), ru 15 0 ls st h = ru 15 1 ls (.int (nI 0) :: st) h) ∧
  (∀ (x0 x1 x2 x3 x4 x5 : Option Value) (v : Int32) (t : eL) (st : List Value) (h : eH), ru 15 1 (x0 :: x1 :: x2 :: x3 :: x4 :: x5 :: t) (.int v :: st) h = ru 15 3 (x0 :: x1 :: x2 :: x3 :: eKl x4 :: some (.int v) :: t) st h) ∧
  (∀ (ls : eL) (st : List Value) (h : eH), ru 15 5 ls st h = ru 15 7 ls (.int (nI 24) :: st) h) ∧
  (∀ (x y : Int32) (ls : eL) (st : List Value) (h : eH), ru 15 7 ls (.int y :: .int x :: st) h = if y ≤ x then ru 15 45 ls st h else ru 15 10 ls st h) ∧
  (∀ (v : Nat) (t : eL) (st : List Value) (h : eH), ru 15 10 (some (.ref v) :: t) st h = ru 15 11 (some (.ref v) :: t) (.ref v :: st) h) ∧
  (∀ (a : Nat) (ls : eL) (st : List Value) (h : eH), ru 15 11 ls (.ref a :: st) h = gF (h.1 a) 11 0 (fun v => ru 15 14 ls (v :: st) h)) ∧
  (∀ (ls : eL) (st : List Value) (h : eH), ru 15 14 ls st h = ru 15 16 ls (.int (nI 24) :: st) h) ∧
  (∀ (x0 : Option Value) (v : Int32) (t : eL) (st : List Value) (h : eH), ru 15 16 (x0 :: some (.int v) :: t) st h = ru 15 17 (x0 :: some (.int v) :: t) (.int v :: st) h) ∧
  (∀ (x y : Int32) (ls : eL) (st : List Value) (h : eH), ru 15 17 ls (.int y :: .int x :: st) h = ru 15 18 ls (.int (x * y) :: st) h) ∧
  (∀ (x0 x1 x2 x3 x4 : Option Value) (v : Int32) (t : eL) (st : List Value) (h : eH), ru 15 18 (x0 :: x1 :: x2 :: x3 :: x4 :: some (.int v) :: t) st h = ru 15 20 (x0 :: x1 :: x2 :: x3 :: x4 :: some (.int v) :: t) (.int v :: st) h) ∧
  (∀ (x y : Int32) (ls : eL) (st : List Value) (h : eH), ru 15 20 ls (.int y :: .int x :: st) h = ru 15 21 ls (.int (x + y) :: st) h) ∧
  (∀ (x : Int32) (a : Nat) (ls : eL) (st : List Value) (h : eH), ru 15 21 ls (.int x :: .ref a :: st) h = ru 15 22 ls (.int x :: .ref a :: .int x :: .ref a :: st) h) ∧
  (∀ (i : Int32) (a : Nat) (ls : eL) (st : List Value) (h : eH), ru 15 22 ls (.int i :: .ref a :: st) h = aL (h.1 a) i (fun v => ru 15 23 ls (.long v :: st) h)) ∧
  (∀ (v : Nat) (t : eL) (st : List Value) (h : eH), ru 15 23 (some (.ref v) :: t) st h = ru 15 24 (some (.ref v) :: t) (.ref v :: st) h) ∧
  (∀ (a : Nat) (ls : eL) (st : List Value) (h : eH), ru 15 24 ls (.ref a :: st) h = gF (h.1 a) 11 0 (fun v => ru 15 27 ls (v :: st) h)) ∧
  (∀ (ls : eL) (st : List Value) (h : eH), ru 15 27 ls st h = ru 15 29 ls (.int (nI 24) :: st) h) ∧
  (∀ (x0 x1 : Option Value) (v : Int32) (t : eL) (st : List Value) (h : eH), ru 15 29 (x0 :: x1 :: some (.int v) :: t) st h = ru 15 30 (x0 :: x1 :: some (.int v) :: t) (.int v :: st) h) ∧
  (∀ (x y : Int32) (ls : eL) (st : List Value) (h : eH), ru 15 30 ls (.int y :: .int x :: st) h = ru 15 31 ls (.int (x * y) :: st) h) ∧
  (∀ (x0 x1 x2 x3 x4 : Option Value) (v : Int32) (t : eL) (st : List Value) (h : eH), ru 15 31 (x0 :: x1 :: x2 :: x3 :: x4 :: some (.int v) :: t) st h = ru 15 33 (x0 :: x1 :: x2 :: x3 :: x4 :: some (.int v) :: t) (.int v :: st) h) ∧
  (∀ (x y : Int32) (ls : eL) (st : List Value) (h : eH), ru 15 33 ls (.int y :: .int x :: st) h = ru 15 34 ls (.int (x + y) :: st) h) ∧
  (∀ (i : Int32) (a : Nat) (ls : eL) (st : List Value) (h : eH), ru 15 34 ls (.int i :: .ref a :: st) h = aL (h.1 a) i (fun v => ru 15 35 ls (.long v :: st) h)) ∧
  (∀ (x0 x1 x2 : Option Value) (v : Int64) (t : eL) (st : List Value) (h : eH), ru 15 35 (x0 :: x1 :: x2 :: some (.long v) :: t) st h = ru 15 36 (x0 :: x1 :: x2 :: some (.long v) :: t) (.long v :: st) h) ∧
  (∀ (x y : Int64) (ls : eL) (st : List Value) (h : eH), ru 15 36 ls (.long y :: .long x :: st) h = ru 15 37 ls (.long (x * y) :: st) h) ∧
  (∀ (x y : Int64) (ls : eL) (st : List Value) (h : eH), ru 15 37 ls (.long y :: .long x :: st) h = ru 15 38 ls (.long (x + y) :: st) h) ∧
  (∀ (x : Int64) (i : Int32) (a : Nat) (ls : eL) (st : List Value) (h : eH), ru 15 38 ls (.long x :: .int i :: .ref a :: st) h = wL (h.1 a) i x (fun e => ru 15 39 ls st (eUp h a e))) ∧
  (∀ (x0 x1 x2 x3 x4 : Option Value) (v : Int32) (t : eL) (st : List Value) (h : eH), ru 15 39 (x0 :: x1 :: x2 :: x3 :: x4 :: some (.int v) :: t) st h = ru 15 42 (x0 :: x1 :: x2 :: x3 :: eKl x4 :: some (.int (v + 1)) :: t) st h) ∧
  (∀ (ls : eL) (st : List Value) (h : eH), ru 15 42 ls st h = ru 15 3 ls st h) ∧
  (∀ (x0 : Option Value) (v : Int32) (t : eL) (st : List Value) (h : eH), ru 15 46 (x0 :: some (.int v) :: t) st h = ru 15 47 (x0 :: some (.int v) :: t) (.int v :: st) h) ∧
  (∀ (a0 : Nat) (a1 : Int32) (ls : eL) (h : eH), ru 15 47 ls [.int a1, .ref a0] h = cl (den 11 [.ref a0, .int a1] h) (fun v h => ru 15 50 ls (v.toList ++ []) h)) ∧
  (∀ (ls : eL) (h : eH), ru 15 50 ls [] h = some (none, h)) := ⟨fun ls st h => ru_go rfl rfl,
  fun x0 x1 x2 x3 x4 x5 v t st h => ru_go rfl rfl,
  fun ls st h => ru_go rfl rfl,
  fun x y ls st h => ru_if rfl rfl,
  fun v t st h => ru_go rfl rfl,
  fun a ls st h => ru_getf rfl,
  fun ls st h => ru_go rfl rfl,
  fun x0 v t st h => ru_go rfl rfl,
  fun x y ls st h => ru_go rfl rfl,
  fun x0 x1 x2 x3 x4 v t st h => ru_go rfl rfl,
  fun x y ls st h => ru_go rfl rfl,
  fun x a ls st h => ru_go rfl rfl,
  fun i a ls st h => ru_lald rfl,
  fun v t st h => ru_go rfl rfl,
  fun a ls st h => ru_getf rfl,
  fun ls st h => ru_go rfl rfl,
  fun x0 x1 v t st h => ru_go rfl rfl,
  fun x y ls st h => ru_go rfl rfl,
  fun x0 x1 x2 x3 x4 v t st h => ru_go rfl rfl,
  fun x y ls st h => ru_go rfl rfl,
  fun i a ls st h => ru_lald rfl,
  fun x0 x1 x2 v t st h => ru_go rfl rfl,
  fun x y ls st h => ru_go rfl rfl,
  fun x y ls st h => ru_go rfl rfl,
  fun x i a ls st h => ru_last rfl,
  fun x0 x1 x2 x3 x4 v t st h => ru_go rfl rfl,
  fun ls st h => ru_go rfl rfl,
  fun x0 v t st h => ru_go rfl rfl,
  fun a0 a1 ls h => ru_inv rfl (by decide) rfl (Nat.le_of_ble_eq_true rfl),
  fun ls h => ru_ret rfl rfl⟩
theorem E15 (a0 : Nat) (a1 : Int32) (a2 : Int32) (a3 : Int64) {h : eH} {fs : List Value} (ha : h.1 a0 = .inr (11, fs)) : den 15 [.ref a0, .int a1, .int a2, .long a3] h = ru 15 0 [some (.ref a0), some (.int a1), some (.int a2), some (.long a3), none, none] [] h := den_ob (Nat.le_of_ble_eq_true rfl) ha
/-! 16 X11_apart -/
set_option maxRecDepth 100000 in
theorem S16 : (∀ (v : Nat) (t : eL) (st : List Value) (h : eH), ru 16 0 (some (.ref v) :: t) st h = ru 16 1 (some (.ref v) :: t) (.ref v :: st) h) ∧
  (∀ (x0 x1 x2 x3 : Option Value) (v : Int32) (t : eL) (st : List Value) (h : eH), ru 16 1 (x0 :: x1 :: x2 :: x3 :: some (.int v) :: t) st h = ru 16 3 (x0 :: x1 :: x2 :: x3 :: some (.int v) :: t) (.int v :: st) h) ∧
  (∀ (ls : eL) (st : List Value) (h : eH), ru 16 3 ls st h = ru 16 4 ls (.long (lN 0) :: st) h) ∧
  (∀ (a0 : Nat) (a1 : Int32) (a2 : Int64) (ls : eL) (h : eH), ru 16 4 ls [.long a2, .int a1, .ref a0] h = cl (den 12 [.ref a0, .int a1, .long a2] h) (fun v h => ru 16 7 ls (v.toList ++ []) h)) ∧
  (∀ (v : Nat) (t : eL) (st : List Value) (h : eH), ru 16 7 (some (.ref v) :: t) st h = ru 16 8 (some (.ref v) :: t) (.ref v :: st) h) ∧
  (∀ (a : Nat) (ls : eL) (st : List Value) (h : eH), ru 16 8 ls (.ref a :: st) h = gF (h.1 a) 11 7 (fun v => ru 16 11 ls (v :: st) h)) ∧
  (∀ (v : Nat) (t : eL) (st : List Value) (h : eH), ru 16 11 (some (.ref v) :: t) st h = ru 16 12 (some (.ref v) :: t) (.ref v :: st) h) ∧
  (∀ (a : Nat) (ls : eL) (st : List Value) (h : eH), ru 16 12 ls (.ref a :: st) h = gF (h.1 a) 11 11 (fun v => ru 16 15 ls (v :: st) h)) ∧
  (∀ (x0 x1 : Option Value) (v : Int32) (t : eL) (st : List Value) (h : eH), ru 16 15 (x0 :: x1 :: some (.int v) :: t) st h = ru 16 16 (x0 :: x1 :: some (.int v) :: t) (.int v :: st) h) ∧
  (∀ (i : Int32) (a : Nat) (ls : eL) (st : List Value) (h : eH), ru 16 16 ls (.int i :: .ref a :: st) h = aI (h.1 a) 0 i (fun v => ru 16 17 ls (.int v :: st) h)) ∧
  (∀ (i : Int32) (a : Nat) (ls : eL) (st : List Value) (h : eH), ru 16 17 ls (.int i :: .ref a :: st) h = aI (h.1 a) 2 i (fun v => ru 16 18 ls (.int v :: st) h)) ∧
  (∀ (x : Int32) (ls : eL) (st : List Value) (h : eH), ru 16 18 ls (.int x :: st) h = if x = 0 then ru 16 21 ls st h else ru 16 47 ls st h) ∧
  (∀ (v : Nat) (t : eL) (st : List Value) (h : eH), ru 16 21 (some (.ref v) :: t) st h = ru 16 22 (some (.ref v) :: t) (.ref v :: st) h) ∧
  (∀ (x0 x1 x2 x3 : Option Value) (v : Int32) (t : eL) (st : List Value) (h : eH), ru 16 22 (x0 :: x1 :: x2 :: x3 :: some (.int v) :: t) st h = ru 16 24 (x0 :: x1 :: x2 :: x3 :: some (.int v) :: t) (.int v :: st) h) ∧
  (∀ (v : Nat) (t : eL) (st : List Value) (h : eH), ru 16 24 (some (.ref v) :: t) st h = ru 16 25 (some (.ref v) :: t) (.ref v :: st) h) ∧
  (∀ (x0 : Option Value) (v : Int32) (t : eL) (st : List Value) (h : eH), ru 16 25 (x0 :: some (.int v) :: t) st h = ru 16 26 (x0 :: some (.int v) :: t) (.int v :: st) h) ∧
  (∀ (ls : eL) (st : List Value) (h : eH), ru 16 26 ls st h = ru 16 27 ls (.int (nI 2) :: st) h) ∧
  (∀ (v : Nat) (t : eL) (st : List Value) (h : eH), ru 16 27 (some (.ref v) :: t) st h = ru 16 28 (some (.ref v) :: t) (.ref v :: st) h) ∧
  (∀ (v : Nat) (t : eL) (st : List Value) (h : eH), ru 16 28 (some (.ref v) :: t) st h = ru 16 29 (some (.ref v) :: t) (.ref v :: st) h) ∧
  (∀ (a : Nat) (ls : eL) (st : List Value) (h : eH), ru 16 29 ls (.ref a :: st) h = gF (h.1 a) 11 11 (fun v => ru 16 32 ls (v :: st) h)) ∧
  (∀ (x0 x1 : Option Value) (v : Int32) (t : eL) (st : List Value) (h : eH), ru 16 32 (x0 :: x1 :: some (.int v) :: t) st h = ru 16 33 (x0 :: x1 :: some (.int v) :: t) (.int v :: st) h) ∧
  (∀ (i : Int32) (a : Nat) (ls : eL) (st : List Value) (h : eH), ru 16 33 ls (.int i :: .ref a :: st) h = aI (h.1 a) 0 i (fun v => ru 16 34 ls (.int v :: st) h)) ∧
  (∀ (a0 : Nat) (a1 : Int32) (u0 : Int32) (u1 : Int32) (u2 : Nat) (u3 : Int32) (u4 : Nat) (ls : eL) (h : eH), ru 16 34 ls [.int a1, .ref a0, .int u0, .int u1, .ref u2, .int u3, .ref u4] h = cl (den 13 [.ref a0, .int a1] h) (fun v h => ru 16 37 ls (v.toList ++ [.int u0, .int u1, .ref u2, .int u3, .ref u4]) h)) ∧
  (∀ (x y : Int32) (ls : eL) (st : List Value) (h : eH), ru 16 37 ls (.int y :: .int x :: st) h = ru 16 38 ls (.int (x * y) :: st) h) ∧
  (∀ (x0 x1 x2 : Option Value) (v : Int32) (t : eL) (st : List Value) (h : eH), ru 16 38 (x0 :: x1 :: x2 :: some (.int v) :: t) st h = ru 16 39 (x0 :: x1 :: x2 :: some (.int v) :: t) (.int v :: st) h) ∧
  (∀ (x y : Int32) (ls : eL) (st : List Value) (h : eH), ru 16 39 ls (.int y :: .int x :: st) h = ru 16 40 ls (.int (x + y) :: st) h) ∧
  (∀ (a0 : Nat) (a1 : Int32) (a2 : Int32) (u0 : Int32) (u1 : Nat) (ls : eL) (h : eH), ru 16 40 ls [.int a2, .int a1, .ref a0, .int u0, .ref u1] h = cl (den 14 [.ref a0, .int a1, .int a2] h) (fun v h => ru 16 43 ls (v.toList ++ [.int u0, .ref u1]) h)) ∧
  (∀ (ls : eL) (st : List Value) (h : eH), ru 16 43 ls st h = ru 16 44 ls (.long (lN 1) :: st) h) ∧
  (∀ (a0 : Nat) (a1 : Int32) (a2 : Int32) (a3 : Int64) (ls : eL) (h : eH), ru 16 44 ls [.long a3, .int a2, .int a1, .ref a0] h = cl (den 15 [.ref a0, .int a1, .int a2, .long a3] h) (fun v h => ru 16 47 ls (v.toList ++ []) h)) ∧
  (∀ (v : Nat) (t : eL) (st : List Value) (h : eH), ru 16 47 (some (.ref v) :: t) st h = ru 16 48 (some (.ref v) :: t) (.ref v :: st) h) ∧
  (∀ (a : Nat) (ls : eL) (st : List Value) (h : eH), ru 16 48 ls (.ref a :: st) h = gF (h.1 a) 11 7 (fun v => ru 16 51 ls (v :: st) h)) ∧
  (∀ (v : Nat) (t : eL) (st : List Value) (h : eH), ru 16 51 (some (.ref v) :: t) st h = ru 16 52 (some (.ref v) :: t) (.ref v :: st) h) ∧
  (∀ (a : Nat) (ls : eL) (st : List Value) (h : eH), ru 16 52 ls (.ref a :: st) h = gF (h.1 a) 11 12 (fun v => ru 16 55 ls (v :: st) h)) ∧
  (∀ (x0 x1 : Option Value) (v : Int32) (t : eL) (st : List Value) (h : eH), ru 16 55 (x0 :: x1 :: some (.int v) :: t) st h = ru 16 56 (x0 :: x1 :: some (.int v) :: t) (.int v :: st) h) ∧
  (∀ (i : Int32) (a : Nat) (ls : eL) (st : List Value) (h : eH), ru 16 56 ls (.int i :: .ref a :: st) h = aI (h.1 a) 0 i (fun v => ru 16 57 ls (.int v :: st) h)) ∧
  (∀ (i : Int32) (a : Nat) (ls : eL) (st : List Value) (h : eH), ru 16 57 ls (.int i :: .ref a :: st) h = aI (h.1 a) 2 i (fun v => ru 16 58 ls (.int v :: st) h)) ∧
  (∀ (x : Int32) (ls : eL) (st : List Value) (h : eH), ru 16 58 ls (.int x :: st) h = if x = 0 then ru 16 61 ls st h else ru 16 89 ls st h) ∧
  (∀ (v : Nat) (t : eL) (st : List Value) (h : eH), ru 16 61 (some (.ref v) :: t) st h = ru 16 62 (some (.ref v) :: t) (.ref v :: st) h) ∧
  (∀ (x0 x1 x2 x3 : Option Value) (v : Int32) (t : eL) (st : List Value) (h : eH), ru 16 62 (x0 :: x1 :: x2 :: x3 :: some (.int v) :: t) st h = ru 16 64 (x0 :: x1 :: x2 :: x3 :: some (.int v) :: t) (.int v :: st) h) ∧
  (∀ (v : Nat) (t : eL) (st : List Value) (h : eH), ru 16 64 (some (.ref v) :: t) st h = ru 16 65 (some (.ref v) :: t) (.ref v :: st) h) ∧
  (∀ (x0 : Option Value) (v : Int32) (t : eL) (st : List Value) (h : eH), ru 16 65 (x0 :: some (.int v) :: t) st h = ru 16 66 (x0 :: some (.int v) :: t) (.int v :: st) h) ∧
  (∀ (ls : eL) (st : List Value) (h : eH), ru 16 66 ls st h = ru 16 67 ls (.int (nI 2) :: st) h) ∧
  (∀ (v : Nat) (t : eL) (st : List Value) (h : eH), ru 16 67 (some (.ref v) :: t) st h = ru 16 68 (some (.ref v) :: t) (.ref v :: st) h) ∧
  (∀ (v : Nat) (t : eL) (st : List Value) (h : eH), ru 16 68 (some (.ref v) :: t) st h = ru 16 69 (some (.ref v) :: t) (.ref v :: st) h) ∧
  (∀ (a : Nat) (ls : eL) (st : List Value) (h : eH), ru 16 69 ls (.ref a :: st) h = gF (h.1 a) 11 12 (fun v => ru 16 72 ls (v :: st) h)) ∧
  (∀ (x0 x1 : Option Value) (v : Int32) (t : eL) (st : List Value) (h : eH), ru 16 72 (x0 :: x1 :: some (.int v) :: t) st h = ru 16 73 (x0 :: x1 :: some (.int v) :: t) (.int v :: st) h) ∧
  (∀ (i : Int32) (a : Nat) (ls : eL) (st : List Value) (h : eH), ru 16 73 ls (.int i :: .ref a :: st) h = aI (h.1 a) 0 i (fun v => ru 16 74 ls (.int v :: st) h)) ∧
  (∀ (a0 : Nat) (a1 : Int32) (u0 : Int32) (u1 : Int32) (u2 : Nat) (u3 : Int32) (u4 : Nat) (ls : eL) (h : eH), ru 16 74 ls [.int a1, .ref a0, .int u0, .int u1, .ref u2, .int u3, .ref u4] h = cl (den 13 [.ref a0, .int a1] h) (fun v h => ru 16 77 ls (v.toList ++ [.int u0, .int u1, .ref u2, .int u3, .ref u4]) h)) ∧
  (∀ (x y : Int32) (ls : eL) (st : List Value) (h : eH), ru 16 77 ls (.int y :: .int x :: st) h = ru 16 78 ls (.int (x * y) :: st) h) ∧
  (∀ (x0 x1 x2 : Option Value) (v : Int32) (t : eL) (st : List Value) (h : eH), ru 16 78 (x0 :: x1 :: x2 :: some (.int v) :: t) st h = ru 16 79 (x0 :: x1 :: x2 :: some (.int v) :: t) (.int v :: st) h) ∧
  (∀ (x y : Int32) (ls : eL) (st : List Value) (h : eH), ru 16 79 ls (.int y :: .int x :: st) h = ru 16 80 ls (.int (x + y) :: st) h) ∧
  (∀ (a0 : Nat) (a1 : Int32) (a2 : Int32) (u0 : Int32) (u1 : Nat) (ls : eL) (h : eH), ru 16 80 ls [.int a2, .int a1, .ref a0, .int u0, .ref u1] h = cl (den 14 [.ref a0, .int a1, .int a2] h) (fun v h => ru 16 83 ls (v.toList ++ [.int u0, .ref u1]) h)) ∧
  (∀ (ls : eL) (st : List Value) (h : eH), ru 16 83 ls st h = ru 16 86 ls (.long (-lN 1) :: st) h) ∧
  (∀ (a0 : Nat) (a1 : Int32) (a2 : Int32) (a3 : Int64) (ls : eL) (h : eH), ru 16 86 ls [.long a3, .int a2, .int a1, .ref a0] h = cl (den 15 [.ref a0, .int a1, .int a2, .long a3] h) (fun v h => ru 16 89 ls (v.toList ++ []) h)) ∧
  (∀ (ls : eL) (h : eH), ru 16 89 ls [] h = some (none, h)) := ⟨fun v t st h => ru_go rfl rfl,
  fun x0 x1 x2 x3 v t st h => ru_go rfl rfl,
  fun ls st h => ru_go rfl rfl,
  fun a0 a1 a2 ls h => ru_inv rfl (by decide) rfl (Nat.le_of_ble_eq_true rfl),
  fun v t st h => ru_go rfl rfl,
  fun a ls st h => ru_getf rfl,
  fun v t st h => ru_go rfl rfl,
  fun a ls st h => ru_getf rfl,
  fun x0 x1 v t st h => ru_go rfl rfl,
  fun i a ls st h => ru_iald rfl,
  fun i a ls st h => ru_zald rfl,
  fun x ls st h => ru_if rfl rfl,
  fun v t st h => ru_go rfl rfl,
  fun x0 x1 x2 x3 v t st h => ru_go rfl rfl,
  fun v t st h => ru_go rfl rfl,
  fun x0 v t st h => ru_go rfl rfl,
  fun ls st h => ru_go rfl rfl,
  fun v t st h => ru_go rfl rfl,
  fun v t st h => ru_go rfl rfl,
  fun a ls st h => ru_getf rfl,
  fun x0 x1 v t st h => ru_go rfl rfl,
  fun i a ls st h => ru_iald rfl,
  fun a0 a1 u0 u1 u2 u3 u4 ls h => ru_inv rfl (by decide) rfl (Nat.le_of_ble_eq_true rfl),
  fun x y ls st h => ru_go rfl rfl,
  fun x0 x1 x2 v t st h => ru_go rfl rfl,
  fun x y ls st h => ru_go rfl rfl,
  fun a0 a1 a2 u0 u1 ls h => ru_inv rfl (by decide) rfl (Nat.le_of_ble_eq_true rfl),
  fun ls st h => ru_go rfl rfl,
  fun a0 a1 a2 a3 ls h => ru_inv rfl (by decide) rfl (Nat.le_of_ble_eq_true rfl),
  fun v t st h => ru_go rfl rfl,
  fun a ls st h => ru_getf rfl,
  fun v t st h => ru_go rfl rfl,
  fun a ls st h => ru_getf rfl,
  fun x0 x1 v t st h => ru_go rfl rfl,
  fun i a ls st h => ru_iald rfl,
  fun i a ls st h => ru_zald rfl,
  fun x ls st h => ru_if rfl rfl,
  fun v t st h => ru_go rfl rfl,
  fun x0 x1 x2 x3 v t st h => ru_go rfl rfl,
  fun v t st h => ru_go rfl rfl,
  fun x0 v t st h => ru_go rfl rfl,
  fun ls st h => ru_go rfl rfl,
  fun v t st h => ru_go rfl rfl,
  fun v t st h => ru_go rfl rfl,
  fun a ls st h => ru_getf rfl,
  fun x0 x1 v t st h => ru_go rfl rfl,
  fun i a ls st h => ru_iald rfl,
  fun a0 a1 u0 u1 u2 u3 u4 ls h => ru_inv rfl (by decide) rfl (Nat.le_of_ble_eq_true rfl),
  fun x y ls st h => ru_go rfl rfl,
  fun x0 x1 x2 v t st h => ru_go rfl rfl,
  fun x y ls st h => ru_go rfl rfl,
  fun a0 a1 a2 u0 u1 ls h => ru_inv rfl (by decide) rfl (Nat.le_of_ble_eq_true rfl),
  fun ls st h => ru_go rfl rfl,
  fun a0 a1 a2 a3 ls h => ru_inv rfl (by decide) rfl (Nat.le_of_ble_eq_true rfl),
  fun ls h => ru_ret rfl rfl⟩
theorem E16 (a0 : Nat) (a1 : Int32) (a2 : Int32) (a3 : Int32) (a4 : Int32) {h : eH} {fs : List Value} (ha : h.1 a0 = .inr (11, fs)) : den 16 [.ref a0, .int a1, .int a2, .int a3, .int a4] h = ru 16 0 [some (.ref a0), some (.int a1), some (.int a2), some (.int a3), some (.int a4)] [] h := den_ob (Nat.le_of_ble_eq_true rfl) ha
/-! 17 X11_isBelow -/
set_option maxRecDepth 100000 in
theorem S17 : (∀ (v : Nat) (t : eL) (st : List Value) (h : eH), ru 17 0 (some (.ref v) :: t) st h = ru 17 1 (some (.ref v) :: t) (.ref v :: st) h) ∧
  (∀ (a : Nat) (ls : eL) (st : List Value) (h : eH), ru 17 1 ls (.ref a :: st) h = gF (h.1 a) 11 0 (fun v => ru 17 4 ls (v :: st) h)) ∧
  (∀ (ls : eL) (st : List Value) (h : eH), ru 17 4 ls st h = ru 17 6 ls (.int (nI 24) :: st) h) ∧
  (∀ (x0 : Option Value) (v : Int32) (t : eL) (st : List Value) (h : eH), ru 17 6 (x0 :: some (.int v) :: t) st h = ru 17 7 (x0 :: some (.int v) :: t) (.int v :: st) h) ∧
  (∀ (x y : Int32) (ls : eL) (st : List Value) (h : eH), ru 17 7 ls (.int y :: .int x :: st) h = ru 17 8 ls (.int (x * y) :: st) h) ∧
  (∀ (ls : eL) (st : List Value) (h : eH), ru 17 8 ls st h = ru 17 10 ls (.int (nI 24) :: st) h) ∧
  (∀ (x y : Int32) (ls : eL) (st : List Value) (h : eH), ru 17 10 ls (.int y :: .int x :: st) h = ru 17 11 ls (.int (x + y) :: st) h) ∧
  (∀ (ls : eL) (st : List Value) (h : eH), ru 17 11 ls st h = ru 17 12 ls (.int (nI 1) :: st) h) ∧
  (∀ (x y : Int32) (ls : eL) (st : List Value) (h : eH), ru 17 12 ls (.int y :: .int x :: st) h = ru 17 13 ls (.int (x - y) :: st) h) ∧
  (∀ (i : Int32) (a : Nat) (ls : eL) (st : List Value) (h : eH), ru 17 13 ls (.int i :: .ref a :: st) h = aL (h.1 a) i (fun v => ru 17 14 ls (.long v :: st) h)) ∧
  (∀ (ls : eL) (st : List Value) (h : eH), ru 17 14 ls st h = ru 17 15 ls (.long (lN 0) :: st) h) ∧
  (∀ (x y : Int64) (ls : eL) (st : List Value) (h : eH), ru 17 15 ls (.long y :: .long x :: st) h = ru 17 16 ls (.int (lg_cmp x y) :: st) h) ∧
  (∀ (x : Int32) (ls : eL) (st : List Value) (h : eH), ru 17 16 ls (.int x :: st) h = if 0 ≤ x then ru 17 23 ls st h else ru 17 19 ls st h) ∧
  (∀ (ls : eL) (st : List Value) (h : eH), ru 17 19 ls st h = ru 17 20 ls (.int (nI 1) :: st) h) ∧
  (∀ (ls : eL) (st : List Value) (h : eH), ru 17 20 ls st h = ru 17 24 ls st h) ∧
  (∀ (ls : eL) (st : List Value) (h : eH), ru 17 23 ls st h = ru 17 24 ls (.int (nI 0) :: st) h) ∧
  (∀ (x : Int32) (ls : eL) (h : eH), ru 17 24 ls [.int x] h = bo (x == 0 || x == 1) (some (some (.int x), h))) := ⟨fun v t st h => ru_go rfl rfl,
  fun a ls st h => ru_getf rfl,
  fun ls st h => ru_go rfl rfl,
  fun x0 v t st h => ru_go rfl rfl,
  fun x y ls st h => ru_go rfl rfl,
  fun ls st h => ru_go rfl rfl,
  fun x y ls st h => ru_go rfl rfl,
  fun ls st h => ru_go rfl rfl,
  fun x y ls st h => ru_go rfl rfl,
  fun i a ls st h => ru_lald rfl,
  fun ls st h => ru_go rfl rfl,
  fun x y ls st h => ru_go rfl rfl,
  fun x ls st h => ru_if rfl rfl,
  fun ls st h => ru_go rfl rfl,
  fun ls st h => ru_go rfl rfl,
  fun ls st h => ru_go rfl rfl,
  fun x ls h => ru_bret rfl rfl⟩
theorem E17 (a0 : Nat) (a1 : Int32) {h : eH} {fs : List Value} (ha : h.1 a0 = .inr (11, fs)) : den 17 [.ref a0, .int a1] h = ru 17 0 [some (.ref a0), some (.int a1)] [] h := den_ob (Nat.le_of_ble_eq_true rfl) ha
/-! 18 X11_turn -/
set_option maxRecDepth 100000 in
theorem H18_2 : (∀ (x0 x1 : Option Value) (v : Int32) (t : eL) (st : List Value) (h : eH), ru 18 2 (x0 :: x1 :: some (.int v) :: t) st h = ru 18 3 (x0 :: x1 :: some (.int v) :: t) (.int v :: st) h) := fun x0 x1 v t st h => ru_go rfl rfl
set_option maxRecDepth 100000 in
theorem H18_37 : (∀ (v : Nat) (t : eL) (st : List Value) (h : eH), ru 18 37 (some (.ref v) :: t) st h = ru 18 38 (some (.ref v) :: t) (.ref v :: st) h) := fun v t st h => ru_go rfl rfl
set_option maxRecDepth 100000 in
theorem S18 : (∀ (ls : eL) (st : List Value) (h : eH), ru 18 0 ls st h = ru 18 1 ls (.int (nI 0) :: st) h) ∧
  (∀ (x0 x1 x2 : Option Value) (v : Int32) (t : eL) (st : List Value) (h : eH), ru 18 1 (x0 :: x1 :: x2 :: t) (.int v :: st) h = ru 18 2 (x0 :: eKl x1 :: some (.int v) :: t) st h) ∧
  (∀ (ls : eL) (st : List Value) (h : eH), ru 18 3 ls st h = ru 18 5 ls (.int (nI 24) :: st) h) ∧
  (∀ (x y : Int32) (ls : eL) (st : List Value) (h : eH), ru 18 5 ls (.int y :: .int x :: st) h = if y ≤ x then ru 18 37 ls st h else ru 18 8 ls st h) ∧
  (∀ (v : Nat) (t : eL) (st : List Value) (h : eH), ru 18 8 (some (.ref v) :: t) st h = ru 18 9 (some (.ref v) :: t) (.ref v :: st) h) ∧
  (∀ (a : Nat) (ls : eL) (st : List Value) (h : eH), ru 18 9 ls (.ref a :: st) h = gF (h.1 a) 11 0 (fun v => ru 18 12 ls (v :: st) h)) ∧
  (∀ (ls : eL) (st : List Value) (h : eH), ru 18 12 ls st h = ru 18 14 ls (.int (nI 24) :: st) h) ∧
  (∀ (x0 : Option Value) (v : Int32) (t : eL) (st : List Value) (h : eH), ru 18 14 (x0 :: some (.int v) :: t) st h = ru 18 15 (x0 :: some (.int v) :: t) (.int v :: st) h) ∧
  (∀ (x y : Int32) (ls : eL) (st : List Value) (h : eH), ru 18 15 ls (.int y :: .int x :: st) h = ru 18 16 ls (.int (x * y) :: st) h) ∧
  (∀ (x0 x1 : Option Value) (v : Int32) (t : eL) (st : List Value) (h : eH), ru 18 16 (x0 :: x1 :: some (.int v) :: t) st h = ru 18 17 (x0 :: x1 :: some (.int v) :: t) (.int v :: st) h) ∧
  (∀ (x y : Int32) (ls : eL) (st : List Value) (h : eH), ru 18 17 ls (.int y :: .int x :: st) h = ru 18 18 ls (.int (x + y) :: st) h) ∧
  (∀ (v : Nat) (t : eL) (st : List Value) (h : eH), ru 18 18 (some (.ref v) :: t) st h = ru 18 19 (some (.ref v) :: t) (.ref v :: st) h) ∧
  (∀ (a : Nat) (ls : eL) (st : List Value) (h : eH), ru 18 19 ls (.ref a :: st) h = gF (h.1 a) 11 0 (fun v => ru 18 22 ls (v :: st) h)) ∧
  (∀ (ls : eL) (st : List Value) (h : eH), ru 18 22 ls st h = ru 18 24 ls (.int (nI 24) :: st) h) ∧
  (∀ (x0 : Option Value) (v : Int32) (t : eL) (st : List Value) (h : eH), ru 18 24 (x0 :: some (.int v) :: t) st h = ru 18 25 (x0 :: some (.int v) :: t) (.int v :: st) h) ∧
  (∀ (x y : Int32) (ls : eL) (st : List Value) (h : eH), ru 18 25 ls (.int y :: .int x :: st) h = ru 18 26 ls (.int (x * y) :: st) h) ∧
  (∀ (x0 x1 : Option Value) (v : Int32) (t : eL) (st : List Value) (h : eH), ru 18 26 (x0 :: x1 :: some (.int v) :: t) st h = ru 18 27 (x0 :: x1 :: some (.int v) :: t) (.int v :: st) h) ∧
  (∀ (x y : Int32) (ls : eL) (st : List Value) (h : eH), ru 18 27 ls (.int y :: .int x :: st) h = ru 18 28 ls (.int (x + y) :: st) h) ∧
  (∀ (i : Int32) (a : Nat) (ls : eL) (st : List Value) (h : eH), ru 18 28 ls (.int i :: .ref a :: st) h = aL (h.1 a) i (fun v => ru 18 29 ls (.long v :: st) h)) ∧
  (∀ (x : Int64) (ls : eL) (st : List Value) (h : eH), ru 18 29 ls (.long x :: st) h = ru 18 30 ls (.long (-x) :: st) h) ∧
  (∀ (x : Int64) (i : Int32) (a : Nat) (ls : eL) (st : List Value) (h : eH), ru 18 30 ls (.long x :: .int i :: .ref a :: st) h = wL (h.1 a) i x (fun e => ru 18 31 ls st (eUp h a e))) ∧
  (∀ (x0 x1 : Option Value) (v : Int32) (t : eL) (st : List Value) (h : eH), ru 18 31 (x0 :: x1 :: some (.int v) :: t) st h = ru 18 34 (x0 :: eKl x1 :: some (.int (v + 1)) :: t) st h) ∧
  (∀ (ls : eL) (st : List Value) (h : eH), ru 18 34 ls st h = ru 18 2 ls st h) ∧
  (∀ (x0 : Option Value) (v : Int32) (t : eL) (st : List Value) (h : eH), ru 18 38 (x0 :: some (.int v) :: t) st h = ru 18 39 (x0 :: some (.int v) :: t) (.int v :: st) h) ∧
  (∀ (a0 : Nat) (a1 : Int32) (ls : eL) (h : eH), ru 18 39 ls [.int a1, .ref a0] h = cl (den 11 [.ref a0, .int a1] h) (fun v h => ru 18 42 ls (v.toList ++ []) h)) ∧
  (∀ (ls : eL) (h : eH), ru 18 42 ls [] h = some (none, h)) := ⟨fun ls st h => ru_go rfl rfl,
  fun x0 x1 x2 v t st h => ru_go rfl rfl,
  fun ls st h => ru_go rfl rfl,
  fun x y ls st h => ru_if rfl rfl,
  fun v t st h => ru_go rfl rfl,
  fun a ls st h => ru_getf rfl,
  fun ls st h => ru_go rfl rfl,
  fun x0 v t st h => ru_go rfl rfl,
  fun x y ls st h => ru_go rfl rfl,
  fun x0 x1 v t st h => ru_go rfl rfl,
  fun x y ls st h => ru_go rfl rfl,
  fun v t st h => ru_go rfl rfl,
  fun a ls st h => ru_getf rfl,
  fun ls st h => ru_go rfl rfl,
  fun x0 v t st h => ru_go rfl rfl,
  fun x y ls st h => ru_go rfl rfl,
  fun x0 x1 v t st h => ru_go rfl rfl,
  fun x y ls st h => ru_go rfl rfl,
  fun i a ls st h => ru_lald rfl,
  fun x ls st h => ru_go rfl rfl,
  fun x i a ls st h => ru_last rfl,
  fun x0 x1 v t st h => ru_go rfl rfl,
  fun ls st h => ru_go rfl rfl,
  fun x0 v t st h => ru_go rfl rfl,
  fun a0 a1 ls h => ru_inv rfl (by decide) rfl (Nat.le_of_ble_eq_true rfl),
  fun ls h => ru_ret rfl rfl⟩
theorem E18 (a0 : Nat) (a1 : Int32) {h : eH} {fs : List Value} (ha : h.1 a0 = .inr (11, fs)) : den 18 [.ref a0, .int a1] h = ru 18 0 [some (.ref a0), some (.int a1), none] [] h := den_ob (Nat.le_of_ble_eq_true rfl) ha
/-! 19 X11_bare -/
set_option maxRecDepth 100000 in
theorem H19_18 : (∀ (x0 x1 x2 x3 : Option Value) (v : Int32) (t : eL) (st : List Value) (h : eH), ru 19 18 (x0 :: x1 :: x2 :: x3 :: some (.int v) :: t) st h = ru 19 20 (x0 :: x1 :: x2 :: x3 :: some (.int v) :: t) (.int v :: st) h) := fun x0 x1 x2 x3 v t st h => ru_go rfl rfl
set_option maxRecDepth 100000 in
theorem H19_47 : (∀ (x0 x1 x2 : Option Value) (v : Int32) (t : eL) (st : List Value) (h : eH), ru 19 47 (x0 :: x1 :: x2 :: some (.int v) :: t) st h = ru 19 48 (x0 :: x1 :: x2 :: some (.int v) :: t) (.int v :: st) h) := fun x0 x1 x2 v t st h => ru_go rfl rfl
set_option maxRecDepth 100000 in
theorem S19 : (∀ (v : Nat) (t : eL) (st : List Value) (h : eH), ru 19 0 (some (.ref v) :: t) st h = ru 19 1 (some (.ref v) :: t) (.ref v :: st) h) ∧
  (∀ (x0 : Option Value) (v : Int32) (t : eL) (st : List Value) (h : eH), ru 19 1 (x0 :: some (.int v) :: t) st h = ru 19 2 (x0 :: some (.int v) :: t) (.int v :: st) h) ∧
  (∀ (a0 : Nat) (a1 : Int32) (ls : eL) (h : eH), ru 19 2 ls [.int a1, .ref a0] h = cl (den 17 [.ref a0, .int a1] h) (fun v h => ru 19 5 ls (v.toList ++ []) h)) ∧
  (∀ (x0 x1 x2 x3 : Option Value) (v : Int32) (t : eL) (st : List Value) (h : eH), ru 19 5 (x0 :: x1 :: x2 :: x3 :: t) (.int v :: st) h = ru 19 6 (x0 :: x1 :: eKl x2 :: some (.int v) :: t) st h) ∧
  (∀ (x0 x1 x2 : Option Value) (v : Int32) (t : eL) (st : List Value) (h : eH), ru 19 6 (x0 :: x1 :: x2 :: some (.int v) :: t) st h = ru 19 7 (x0 :: x1 :: x2 :: some (.int v) :: t) (.int v :: st) h) ∧
  (∀ (x : Int32) (ls : eL) (st : List Value) (h : eH), ru 19 7 ls (.int x :: st) h = if x = 0 then ru 19 15 ls st h else ru 19 10 ls st h) ∧
  (∀ (v : Nat) (t : eL) (st : List Value) (h : eH), ru 19 10 (some (.ref v) :: t) st h = ru 19 11 (some (.ref v) :: t) (.ref v :: st) h) ∧
  (∀ (x0 : Option Value) (v : Int32) (t : eL) (st : List Value) (h : eH), ru 19 11 (x0 :: some (.int v) :: t) st h = ru 19 12 (x0 :: some (.int v) :: t) (.int v :: st) h) ∧
  (∀ (a0 : Nat) (a1 : Int32) (ls : eL) (h : eH), ru 19 12 ls [.int a1, .ref a0] h = cl (den 18 [.ref a0, .int a1] h) (fun v h => ru 19 15 ls (v.toList ++ []) h)) ∧
  (∀ (ls : eL) (st : List Value) (h : eH), ru 19 15 ls st h = ru 19 16 ls (.int (nI 0) :: st) h) ∧
  (∀ (x0 x1 x2 x3 x4 : Option Value) (v : Int32) (t : eL) (st : List Value) (h : eH), ru 19 16 (x0 :: x1 :: x2 :: x3 :: x4 :: t) (.int v :: st) h = ru 19 18 (x0 :: x1 :: x2 :: eKl x3 :: some (.int v) :: t) st h) ∧
  (∀ (ls : eL) (st : List Value) (h : eH), ru 19 20 ls st h = ru 19 22 ls (.int (nI 24) :: st) h) ∧
  (∀ (x y : Int32) (ls : eL) (st : List Value) (h : eH), ru 19 22 ls (.int y :: .int x :: st) h = if y ≤ x then ru 19 47 ls st h else ru 19 25 ls st h) ∧
  (∀ (x0 x1 : Option Value) (v : Nat) (t : eL) (st : List Value) (h : eH), ru 19 25 (x0 :: x1 :: some (.ref v) :: t) st h = ru 19 26 (x0 :: x1 :: some (.ref v) :: t) (.ref v :: st) h) ∧
  (∀ (x0 x1 x2 x3 : Option Value) (v : Int32) (t : eL) (st : List Value) (h : eH), ru 19 26 (x0 :: x1 :: x2 :: x3 :: some (.int v) :: t) st h = ru 19 28 (x0 :: x1 :: x2 :: x3 :: some (.int v) :: t) (.int v :: st) h) ∧
  (∀ (v : Nat) (t : eL) (st : List Value) (h : eH), ru 19 28 (some (.ref v) :: t) st h = ru 19 29 (some (.ref v) :: t) (.ref v :: st) h) ∧
  (∀ (a : Nat) (ls : eL) (st : List Value) (h : eH), ru 19 29 ls (.ref a :: st) h = gF (h.1 a) 11 0 (fun v => ru 19 32 ls (v :: st) h)) ∧
  (∀ (ls : eL) (st : List Value) (h : eH), ru 19 32 ls st h = ru 19 34 ls (.int (nI 24) :: st) h) ∧
  (∀ (x0 : Option Value) (v : Int32) (t : eL) (st : List Value) (h : eH), ru 19 34 (x0 :: some (.int v) :: t) st h = ru 19 35 (x0 :: some (.int v) :: t) (.int v :: st) h) ∧
  (∀ (x y : Int32) (ls : eL) (st : List Value) (h : eH), ru 19 35 ls (.int y :: .int x :: st) h = ru 19 36 ls (.int (x * y) :: st) h) ∧
  (∀ (x0 x1 x2 x3 : Option Value) (v : Int32) (t : eL) (st : List Value) (h : eH), ru 19 36 (x0 :: x1 :: x2 :: x3 :: some (.int v) :: t) st h = ru 19 38 (x0 :: x1 :: x2 :: x3 :: some (.int v) :: t) (.int v :: st) h) ∧
  (∀ (x y : Int32) (ls : eL) (st : List Value) (h : eH), ru 19 38 ls (.int y :: .int x :: st) h = ru 19 39 ls (.int (x + y) :: st) h) ∧
  (∀ (i : Int32) (a : Nat) (ls : eL) (st : List Value) (h : eH), ru 19 39 ls (.int i :: .ref a :: st) h = aL (h.1 a) i (fun v => ru 19 40 ls (.long v :: st) h)) ∧
  (∀ (x : Int64) (i : Int32) (a : Nat) (ls : eL) (st : List Value) (h : eH), ru 19 40 ls (.long x :: .int i :: .ref a :: st) h = wL (h.1 a) i x (fun e => ru 19 41 ls st (eUp h a e))) ∧
  (∀ (x0 x1 x2 x3 : Option Value) (v : Int32) (t : eL) (st : List Value) (h : eH), ru 19 41 (x0 :: x1 :: x2 :: x3 :: some (.int v) :: t) st h = ru 19 44 (x0 :: x1 :: x2 :: eKl x3 :: some (.int (v + 1)) :: t) st h) ∧
  (∀ (ls : eL) (st : List Value) (h : eH), ru 19 44 ls st h = ru 19 18 ls st h) ∧
  (∀ (x : Int32) (ls : eL) (st : List Value) (h : eH), ru 19 48 ls (.int x :: st) h = if x = 0 then ru 19 56 ls st h else ru 19 51 ls st h) ∧
  (∀ (v : Nat) (t : eL) (st : List Value) (h : eH), ru 19 51 (some (.ref v) :: t) st h = ru 19 52 (some (.ref v) :: t) (.ref v :: st) h) ∧
  (∀ (x0 : Option Value) (v : Int32) (t : eL) (st : List Value) (h : eH), ru 19 52 (x0 :: some (.int v) :: t) st h = ru 19 53 (x0 :: some (.int v) :: t) (.int v :: st) h) ∧
  (∀ (a0 : Nat) (a1 : Int32) (ls : eL) (h : eH), ru 19 53 ls [.int a1, .ref a0] h = cl (den 18 [.ref a0, .int a1] h) (fun v h => ru 19 56 ls (v.toList ++ []) h)) ∧
  (∀ (ls : eL) (h : eH), ru 19 56 ls [] h = some (none, h)) := ⟨fun v t st h => ru_go rfl rfl,
  fun x0 v t st h => ru_go rfl rfl,
  fun a0 a1 ls h => ru_inv rfl (by decide) rfl (Nat.le_of_ble_eq_true rfl),
  fun x0 x1 x2 x3 v t st h => ru_go rfl rfl,
  fun x0 x1 x2 v t st h => ru_go rfl rfl,
  fun x ls st h => ru_if rfl rfl,
  fun v t st h => ru_go rfl rfl,
  fun x0 v t st h => ru_go rfl rfl,
  fun a0 a1 ls h => ru_inv rfl (by decide) rfl (Nat.le_of_ble_eq_true rfl),
  fun ls st h => ru_go rfl rfl,
  fun x0 x1 x2 x3 x4 v t st h => ru_go rfl rfl,
  fun ls st h => ru_go rfl rfl,
  fun x y ls st h => ru_if rfl rfl,
  fun x0 x1 v t st h => ru_go rfl rfl,
  fun x0 x1 x2 x3 v t st h => ru_go rfl rfl,
  fun v t st h => ru_go rfl rfl,
  fun a ls st h => ru_getf rfl,
  fun ls st h => ru_go rfl rfl,
  fun x0 v t st h => ru_go rfl rfl,
  fun x y ls st h => ru_go rfl rfl,
  fun x0 x1 x2 x3 v t st h => ru_go rfl rfl,
  fun x y ls st h => ru_go rfl rfl,
  fun i a ls st h => ru_lald rfl,
  fun x i a ls st h => ru_last rfl,
  fun x0 x1 x2 x3 v t st h => ru_go rfl rfl,
  fun ls st h => ru_go rfl rfl,
  fun x ls st h => ru_if rfl rfl,
  fun v t st h => ru_go rfl rfl,
  fun x0 v t st h => ru_go rfl rfl,
  fun a0 a1 ls h => ru_inv rfl (by decide) rfl (Nat.le_of_ble_eq_true rfl),
  fun ls h => ru_ret rfl rfl⟩
theorem E19 (a0 : Nat) (a1 : Int32) (a2 : Nat) {h : eH} {fs : List Value} (ha : h.1 a0 = .inr (11, fs)) : den 19 [.ref a0, .int a1, .ref a2] h = ru 19 0 [some (.ref a0), some (.int a1), some (.ref a2), none, none] [] h := den_ob (Nat.le_of_ble_eq_true rfl) ha
/-! 20 X11_copy -/
set_option maxRecDepth 100000 in
theorem H20_2 : (∀ (x0 x1 x2 : Option Value) (v : Int32) (t : eL) (st : List Value) (h : eH), ru 20 2 (x0 :: x1 :: x2 :: some (.int v) :: t) st h = ru 20 3 (x0 :: x1 :: x2 :: some (.int v) :: t) (.int v :: st) h) := fun x0 x1 x2 v t st h => ru_go rfl rfl
set_option maxRecDepth 100000 in
theorem S20 : (∀ (ls : eL) (st : List Value) (h : eH), ru 20 0 ls st h = ru 20 1 ls (.int (nI 0) :: st) h) ∧
  (∀ (x0 x1 x2 x3 : Option Value) (v : Int32) (t : eL) (st : List Value) (h : eH), ru 20 1 (x0 :: x1 :: x2 :: x3 :: t) (.int v :: st) h = ru 20 2 (x0 :: x1 :: eKl x2 :: some (.int v) :: t) st h) ∧
  (∀ (ls : eL) (st : List Value) (h : eH), ru 20 3 ls st h = ru 20 5 ls (.int (nI 24) :: st) h) ∧
  (∀ (x y : Int32) (ls : eL) (st : List Value) (h : eH), ru 20 5 ls (.int y :: .int x :: st) h = if y ≤ x then ru 20 36 ls st h else ru 20 8 ls st h) ∧
  (∀ (v : Nat) (t : eL) (st : List Value) (h : eH), ru 20 8 (some (.ref v) :: t) st h = ru 20 9 (some (.ref v) :: t) (.ref v :: st) h) ∧
  (∀ (a : Nat) (ls : eL) (st : List Value) (h : eH), ru 20 9 ls (.ref a :: st) h = gF (h.1 a) 11 0 (fun v => ru 20 12 ls (v :: st) h)) ∧
  (∀ (ls : eL) (st : List Value) (h : eH), ru 20 12 ls st h = ru 20 14 ls (.int (nI 24) :: st) h) ∧
  (∀ (x0 : Option Value) (v : Int32) (t : eL) (st : List Value) (h : eH), ru 20 14 (x0 :: some (.int v) :: t) st h = ru 20 15 (x0 :: some (.int v) :: t) (.int v :: st) h) ∧
  (∀ (x y : Int32) (ls : eL) (st : List Value) (h : eH), ru 20 15 ls (.int y :: .int x :: st) h = ru 20 16 ls (.int (x * y) :: st) h) ∧
  (∀ (x0 x1 x2 : Option Value) (v : Int32) (t : eL) (st : List Value) (h : eH), ru 20 16 (x0 :: x1 :: x2 :: some (.int v) :: t) st h = ru 20 17 (x0 :: x1 :: x2 :: some (.int v) :: t) (.int v :: st) h) ∧
  (∀ (x y : Int32) (ls : eL) (st : List Value) (h : eH), ru 20 17 ls (.int y :: .int x :: st) h = ru 20 18 ls (.int (x + y) :: st) h) ∧
  (∀ (v : Nat) (t : eL) (st : List Value) (h : eH), ru 20 18 (some (.ref v) :: t) st h = ru 20 19 (some (.ref v) :: t) (.ref v :: st) h) ∧
  (∀ (a : Nat) (ls : eL) (st : List Value) (h : eH), ru 20 19 ls (.ref a :: st) h = gF (h.1 a) 11 0 (fun v => ru 20 22 ls (v :: st) h)) ∧
  (∀ (ls : eL) (st : List Value) (h : eH), ru 20 22 ls st h = ru 20 24 ls (.int (nI 24) :: st) h) ∧
  (∀ (x0 x1 : Option Value) (v : Int32) (t : eL) (st : List Value) (h : eH), ru 20 24 (x0 :: x1 :: some (.int v) :: t) st h = ru 20 25 (x0 :: x1 :: some (.int v) :: t) (.int v :: st) h) ∧
  (∀ (x y : Int32) (ls : eL) (st : List Value) (h : eH), ru 20 25 ls (.int y :: .int x :: st) h = ru 20 26 ls (.int (x * y) :: st) h) ∧
  (∀ (x0 x1 x2 : Option Value) (v : Int32) (t : eL) (st : List Value) (h : eH), ru 20 26 (x0 :: x1 :: x2 :: some (.int v) :: t) st h = ru 20 27 (x0 :: x1 :: x2 :: some (.int v) :: t) (.int v :: st) h) ∧
  (∀ (x y : Int32) (ls : eL) (st : List Value) (h : eH), ru 20 27 ls (.int y :: .int x :: st) h = ru 20 28 ls (.int (x + y) :: st) h) ∧
  (∀ (i : Int32) (a : Nat) (ls : eL) (st : List Value) (h : eH), ru 20 28 ls (.int i :: .ref a :: st) h = aL (h.1 a) i (fun v => ru 20 29 ls (.long v :: st) h)) ∧
  (∀ (x : Int64) (i : Int32) (a : Nat) (ls : eL) (st : List Value) (h : eH), ru 20 29 ls (.long x :: .int i :: .ref a :: st) h = wL (h.1 a) i x (fun e => ru 20 30 ls st (eUp h a e))) ∧
  (∀ (x0 x1 x2 : Option Value) (v : Int32) (t : eL) (st : List Value) (h : eH), ru 20 30 (x0 :: x1 :: x2 :: some (.int v) :: t) st h = ru 20 33 (x0 :: x1 :: eKl x2 :: some (.int (v + 1)) :: t) st h) ∧
  (∀ (ls : eL) (st : List Value) (h : eH), ru 20 33 ls st h = ru 20 2 ls st h) ∧
  (∀ (ls : eL) (h : eH), ru 20 36 ls [] h = some (none, h)) := ⟨fun ls st h => ru_go rfl rfl,
  fun x0 x1 x2 x3 v t st h => ru_go rfl rfl,
  fun ls st h => ru_go rfl rfl,
  fun x y ls st h => ru_if rfl rfl,
  fun v t st h => ru_go rfl rfl,
  fun a ls st h => ru_getf rfl,
  fun ls st h => ru_go rfl rfl,
  fun x0 v t st h => ru_go rfl rfl,
  fun x y ls st h => ru_go rfl rfl,
  fun x0 x1 x2 v t st h => ru_go rfl rfl,
  fun x y ls st h => ru_go rfl rfl,
  fun v t st h => ru_go rfl rfl,
  fun a ls st h => ru_getf rfl,
  fun ls st h => ru_go rfl rfl,
  fun x0 x1 v t st h => ru_go rfl rfl,
  fun x y ls st h => ru_go rfl rfl,
  fun x0 x1 x2 v t st h => ru_go rfl rfl,
  fun x y ls st h => ru_go rfl rfl,
  fun i a ls st h => ru_lald rfl,
  fun x i a ls st h => ru_last rfl,
  fun x0 x1 x2 v t st h => ru_go rfl rfl,
  fun ls st h => ru_go rfl rfl,
  fun ls h => ru_ret rfl rfl⟩
theorem E20 (a0 : Nat) (a1 : Int32) (a2 : Int32) {h : eH} {fs : List Value} (ha : h.1 a0 = .inr (11, fs)) : den 20 [.ref a0, .int a1, .int a2] h = ru 20 0 [some (.ref a0), some (.int a1), some (.int a2), none] [] h := den_ob (Nat.le_of_ble_eq_true rfl) ha
/-! 21 X11_cell -/
set_option maxRecDepth 100000 in
theorem S21 : (∀ (ls : eL) (st : List Value) (h : eH), ru 21 0 ls st h = ru 21 2 ls (.int (nI 20) :: st) h) ∧
  (∀ (ls : eL) (st : List Value) (h : eH), ru 21 2 ls st h = ru 21 4 ls (.int (nI 17) :: st) h) ∧
  (∀ (x0 : Option Value) (v : Int32) (t : eL) (st : List Value) (h : eH), ru 21 4 (x0 :: some (.int v) :: t) st h = ru 21 5 (x0 :: some (.int v) :: t) (.int v :: st) h) ∧
  (∀ (x y : Int32) (ls : eL) (st : List Value) (h : eH), ru 21 5 ls (.int y :: .int x :: st) h = ru 21 6 ls (.int (x * y) :: st) h) ∧
  (∀ (x y : Int32) (ls : eL) (st : List Value) (h : eH), ru 21 6 ls (.int y :: .int x :: st) h = ru 21 7 ls (.int (x + y) :: st) h) ∧
  (∀ (x0 x1 : Option Value) (v : Int32) (t : eL) (st : List Value) (h : eH), ru 21 7 (x0 :: x1 :: some (.int v) :: t) st h = ru 21 8 (x0 :: x1 :: some (.int v) :: t) (.int v :: st) h) ∧
  (∀ (x y : Int32) (ls : eL) (st : List Value) (h : eH), ru 21 8 ls (.int y :: .int x :: st) h = ru 21 9 ls (.int (x + y) :: st) h) ∧
  (∀ (x : Int32) (ls : eL) (h : eH), ru 21 9 ls [.int x] h = some (some (.int x), h)) := ⟨fun ls st h => ru_go rfl rfl,
  fun ls st h => ru_go rfl rfl,
  fun x0 v t st h => ru_go rfl rfl,
  fun x y ls st h => ru_go rfl rfl,
  fun x y ls st h => ru_go rfl rfl,
  fun x0 x1 v t st h => ru_go rfl rfl,
  fun x y ls st h => ru_go rfl rfl,
  fun x ls h => ru_ret rfl rfl⟩
theorem E21 (a0 : Nat) (a1 : Int32) (a2 : Int32) {h : eH} {fs : List Value} (ha : h.1 a0 = .inr (11, fs)) : den 21 [.ref a0, .int a1, .int a2] h = ru 21 0 [some (.ref a0), some (.int a1), some (.int a2)] [] h := den_ob (Nat.le_of_ble_eq_true rfl) ha
/-! 22 X11_basic -/
set_option maxRecDepth 100000 in
theorem S22 : (∀ (x0 x1 : Option Value) (v : Int32) (t : eL) (st : List Value) (h : eH), ru 22 0 (x0 :: x1 :: some (.int v) :: t) st h = ru 22 1 (x0 :: x1 :: some (.int v) :: t) (.int v :: st) h) ∧
  (∀ (x0 : Option Value) (v : Int32) (t : eL) (st : List Value) (h : eH), ru 22 1 (x0 :: some (.int v) :: t) st h = ru 22 2 (x0 :: some (.int v) :: t) (.int v :: st) h) ∧
  (∀ (x y : Int32) (ls : eL) (st : List Value) (h : eH), ru 22 2 ls (.int y :: .int x :: st) h = if x = y then ru 22 5 ls st h else ru 22 15 ls st h) ∧
  (∀ (v : Nat) (t : eL) (st : List Value) (h : eH), ru 22 5 (some (.ref v) :: t) st h = ru 22 6 (some (.ref v) :: t) (.ref v :: st) h) ∧
  (∀ (ls : eL) (st : List Value) (h : eH), ru 22 6 ls st h = ru 22 7 ls (.int (nI 5) :: st) h) ∧
  (∀ (ls : eL) (st : List Value) (h : eH), ru 22 7 ls st h = ru 22 9 ls (.int (nI 8) :: st) h) ∧
  (∀ (a0 : Nat) (a1 : Int32) (a2 : Int32) (ls : eL) (h : eH), ru 22 9 ls [.int a2, .int a1, .ref a0] h = cl (den 20 [.ref a0, .int a1, .int a2] h) (fun v h => ru 22 12 ls (v.toList ++ []) h)) ∧
  (∀ (ls : eL) (st : List Value) (h : eH), ru 22 12 ls st h = ru 22 55 ls st h) ∧
  (∀ (v : Nat) (t : eL) (st : List Value) (h : eH), ru 22 15 (some (.ref v) :: t) st h = ru 22 16 (some (.ref v) :: t) (.ref v :: st) h) ∧
  (∀ (a : Nat) (ls : eL) (st : List Value) (h : eH), ru 22 16 ls (.ref a :: st) h = gF (h.1 a) 11 22 (fun v => ru 22 19 ls (v :: st) h)) ∧
  (∀ (x0 x1 : Option Value) (v : Int32) (t : eL) (st : List Value) (h : eH), ru 22 19 (x0 :: x1 :: some (.int v) :: t) st h = ru 22 20 (x0 :: x1 :: some (.int v) :: t) (.int v :: st) h) ∧
  (∀ (i : Int32) (a : Nat) (ls : eL) (st : List Value) (h : eH), ru 22 20 ls (.int i :: .ref a :: st) h = aI (h.1 a) 0 i (fun v => ru 22 21 ls (.int v :: st) h)) ∧
  (∀ (ls : eL) (st : List Value) (h : eH), ru 22 21 ls st h = ru 22 22 ls (.int ((-1)) :: st) h) ∧
  (∀ (x y : Int32) (ls : eL) (st : List Value) (h : eH), ru 22 22 ls (.int y :: .int x :: st) h = if x = y then ru 22 25 ls st h else ru 22 34 ls st h) ∧
  (∀ (v : Nat) (t : eL) (st : List Value) (h : eH), ru 22 25 (some (.ref v) :: t) st h = ru 22 26 (some (.ref v) :: t) (.ref v :: st) h) ∧
  (∀ (ls : eL) (st : List Value) (h : eH), ru 22 26 ls st h = ru 22 27 ls (.int (nI 5) :: st) h) ∧
  (∀ (ls : eL) (st : List Value) (h : eH), ru 22 27 ls st h = ru 22 28 ls (.long (lN 0) :: st) h) ∧
  (∀ (a0 : Nat) (a1 : Int32) (a2 : Int64) (ls : eL) (h : eH), ru 22 28 ls [.long a2, .int a1, .ref a0] h = cl (den 12 [.ref a0, .int a1, .long a2] h) (fun v h => ru 22 31 ls (v.toList ++ []) h)) ∧
  (∀ (ls : eL) (st : List Value) (h : eH), ru 22 31 ls st h = ru 22 55 ls st h) ∧
  (∀ (v : Nat) (t : eL) (st : List Value) (h : eH), ru 22 34 (some (.ref v) :: t) st h = ru 22 35 (some (.ref v) :: t) (.ref v :: st) h) ∧
  (∀ (ls : eL) (st : List Value) (h : eH), ru 22 35 ls st h = ru 22 36 ls (.int (nI 5) :: st) h) ∧
  (∀ (v : Nat) (t : eL) (st : List Value) (h : eH), ru 22 36 (some (.ref v) :: t) st h = ru 22 37 (some (.ref v) :: t) (.ref v :: st) h) ∧
  (∀ (v : Nat) (t : eL) (st : List Value) (h : eH), ru 22 37 (some (.ref v) :: t) st h = ru 22 38 (some (.ref v) :: t) (.ref v :: st) h) ∧
  (∀ (a : Nat) (ls : eL) (st : List Value) (h : eH), ru 22 38 ls (.ref a :: st) h = gF (h.1 a) 11 22 (fun v => ru 22 41 ls (v :: st) h)) ∧
  (∀ (x0 x1 : Option Value) (v : Int32) (t : eL) (st : List Value) (h : eH), ru 22 41 (x0 :: x1 :: some (.int v) :: t) st h = ru 22 42 (x0 :: x1 :: some (.int v) :: t) (.int v :: st) h) ∧
  (∀ (i : Int32) (a : Nat) (ls : eL) (st : List Value) (h : eH), ru 22 42 ls (.int i :: .ref a :: st) h = aI (h.1 a) 0 i (fun v => ru 22 43 ls (.int v :: st) h)) ∧
  (∀ (x0 : Option Value) (v : Int32) (t : eL) (st : List Value) (h : eH), ru 22 43 (x0 :: some (.int v) :: t) st h = ru 22 44 (x0 :: some (.int v) :: t) (.int v :: st) h) ∧
  (∀ (a0 : Nat) (a1 : Int32) (a2 : Int32) (u0 : Int32) (u1 : Nat) (ls : eL) (h : eH), ru 22 44 ls [.int a2, .int a1, .ref a0, .int u0, .ref u1] h = cl (den 21 [.ref a0, .int a1, .int a2] h) (fun v h => ru 22 47 ls (v.toList ++ [.int u0, .ref u1]) h)) ∧
  (∀ (a0 : Nat) (a1 : Int32) (a2 : Int32) (ls : eL) (h : eH), ru 22 47 ls [.int a2, .int a1, .ref a0] h = cl (den 20 [.ref a0, .int a1, .int a2] h) (fun v h => ru 22 50 ls (v.toList ++ []) h)) ∧
  (∀ (v : Nat) (t : eL) (st : List Value) (h : eH), ru 22 50 (some (.ref v) :: t) st h = ru 22 51 (some (.ref v) :: t) (.ref v :: st) h) ∧
  (∀ (ls : eL) (st : List Value) (h : eH), ru 22 51 ls st h = ru 22 52 ls (.int (nI 5) :: st) h) ∧
  (∀ (a0 : Nat) (a1 : Int32) (ls : eL) (h : eH), ru 22 52 ls [.int a1, .ref a0] h = cl (den 18 [.ref a0, .int a1] h) (fun v h => ru 22 55 ls (v.toList ++ []) h)) ∧
  (∀ (ls : eL) (h : eH), ru 22 55 ls [] h = some (none, h)) := ⟨fun x0 x1 v t st h => ru_go rfl rfl,
  fun x0 v t st h => ru_go rfl rfl,
  fun x y ls st h => ru_if rfl rfl,
  fun v t st h => ru_go rfl rfl,
  fun ls st h => ru_go rfl rfl,
  fun ls st h => ru_go rfl rfl,
  fun a0 a1 a2 ls h => ru_inv rfl (by decide) rfl (Nat.le_of_ble_eq_true rfl),
  fun ls st h => ru_go rfl rfl,
  fun v t st h => ru_go rfl rfl,
  fun a ls st h => ru_getf rfl,
  fun x0 x1 v t st h => ru_go rfl rfl,
  fun i a ls st h => ru_iald rfl,
  fun ls st h => ru_go rfl rfl,
  fun x y ls st h => ru_if rfl rfl,
  fun v t st h => ru_go rfl rfl,
  fun ls st h => ru_go rfl rfl,
  fun ls st h => ru_go rfl rfl,
  fun a0 a1 a2 ls h => ru_inv rfl (by decide) rfl (Nat.le_of_ble_eq_true rfl),
  fun ls st h => ru_go rfl rfl,
  fun v t st h => ru_go rfl rfl,
  fun ls st h => ru_go rfl rfl,
  fun v t st h => ru_go rfl rfl,
  fun v t st h => ru_go rfl rfl,
  fun a ls st h => ru_getf rfl,
  fun x0 x1 v t st h => ru_go rfl rfl,
  fun i a ls st h => ru_iald rfl,
  fun x0 v t st h => ru_go rfl rfl,
  fun a0 a1 a2 u0 u1 ls h => ru_inv rfl (by decide) rfl (Nat.le_of_ble_eq_true rfl),
  fun a0 a1 a2 ls h => ru_inv rfl (by decide) rfl (Nat.le_of_ble_eq_true rfl),
  fun v t st h => ru_go rfl rfl,
  fun ls st h => ru_go rfl rfl,
  fun a0 a1 ls h => ru_inv rfl (by decide) rfl (Nat.le_of_ble_eq_true rfl),
  fun ls h => ru_ret rfl rfl⟩
theorem E22 (a0 : Nat) (a1 : Int32) (a2 : Int32) {h : eH} {fs : List Value} (ha : h.1 a0 = .inr (11, fs)) : den 22 [.ref a0, .int a1, .int a2] h = ru 22 0 [some (.ref a0), some (.int a1), some (.int a2)] [] h := den_ob (Nat.le_of_ble_eq_true rfl) ha
/-! 23 X11_free -/
set_option maxRecDepth 100000 in
theorem H23_4 : (∀ (x0 x1 : Option Value) (v : Int32) (t : eL) (st : List Value) (h : eH), ru 23 4 (x0 :: x1 :: some (.int v) :: t) st h = ru 23 5 (x0 :: x1 :: some (.int v) :: t) (.int v :: st) h) := fun x0 x1 v t st h => ru_go rfl rfl
set_option maxRecDepth 100000 in
theorem H23_35 : (∀ (x0 : Option Value) (v : Int32) (t : eL) (st : List Value) (h : eH), ru 23 35 (x0 :: some (.int v) :: t) st h = ru 23 36 (x0 :: some (.int v) :: t) (.int v :: st) h) := fun x0 v t st h => ru_go rfl rfl
set_option maxRecDepth 100000 in
theorem S23 : (∀ (ls : eL) (st : List Value) (h : eH), ru 23 0 ls st h = ru 23 1 ls (.int (nI 0) :: st) h) ∧
  (∀ (x0 x1 : Option Value) (v : Int32) (t : eL) (st : List Value) (h : eH), ru 23 1 (x0 :: x1 :: t) (.int v :: st) h = ru 23 2 (eKl x0 :: some (.int v) :: t) st h) ∧
  (∀ (ls : eL) (st : List Value) (h : eH), ru 23 2 ls st h = ru 23 3 ls (.int (nI 0) :: st) h) ∧
  (∀ (x0 x1 x2 : Option Value) (v : Int32) (t : eL) (st : List Value) (h : eH), ru 23 3 (x0 :: x1 :: x2 :: t) (.int v :: st) h = ru 23 4 (x0 :: eKl x1 :: some (.int v) :: t) st h) ∧
  (∀ (v : Nat) (t : eL) (st : List Value) (h : eH), ru 23 5 (some (.ref v) :: t) st h = ru 23 6 (some (.ref v) :: t) (.ref v :: st) h) ∧
  (∀ (a : Nat) (ls : eL) (st : List Value) (h : eH), ru 23 6 ls (.ref a :: st) h = gF (h.1 a) 11 4 (fun v => ru 23 9 ls (v :: st) h)) ∧
  (∀ (x y : Int32) (ls : eL) (st : List Value) (h : eH), ru 23 9 ls (.int y :: .int x :: st) h = if y ≤ x then ru 23 35 ls st h else ru 23 12 ls st h) ∧
  (∀ (x0 : Option Value) (v : Int32) (t : eL) (st : List Value) (h : eH), ru 23 12 (x0 :: some (.int v) :: t) st h = ru 23 13 (x0 :: some (.int v) :: t) (.int v :: st) h) ∧
  (∀ (v : Nat) (t : eL) (st : List Value) (h : eH), ru 23 13 (some (.ref v) :: t) st h = ru 23 14 (some (.ref v) :: t) (.ref v :: st) h) ∧
  (∀ (a : Nat) (ls : eL) (st : List Value) (h : eH), ru 23 14 ls (.ref a :: st) h = gF (h.1 a) 11 7 (fun v => ru 23 17 ls (v :: st) h)) ∧
  (∀ (x0 x1 : Option Value) (v : Int32) (t : eL) (st : List Value) (h : eH), ru 23 17 (x0 :: x1 :: some (.int v) :: t) st h = ru 23 18 (x0 :: x1 :: some (.int v) :: t) (.int v :: st) h) ∧
  (∀ (i : Int32) (a : Nat) (ls : eL) (st : List Value) (h : eH), ru 23 18 ls (.int i :: .ref a :: st) h = aI (h.1 a) 2 i (fun v => ru 23 19 ls (.int v :: st) h)) ∧
  (∀ (x : Int32) (ls : eL) (st : List Value) (h : eH), ru 23 19 ls (.int x :: st) h = if x = 0 then ru 23 26 ls st h else ru 23 22 ls st h) ∧
  (∀ (ls : eL) (st : List Value) (h : eH), ru 23 22 ls st h = ru 23 23 ls (.int (nI 0) :: st) h) ∧
  (∀ (ls : eL) (st : List Value) (h : eH), ru 23 23 ls st h = ru 23 27 ls st h) ∧
  (∀ (ls : eL) (st : List Value) (h : eH), ru 23 26 ls st h = ru 23 27 ls (.int (nI 1) :: st) h) ∧
  (∀ (x y : Int32) (ls : eL) (st : List Value) (h : eH), ru 23 27 ls (.int y :: .int x :: st) h = ru 23 28 ls (.int (x + y) :: st) h) ∧
  (∀ (x0 x1 : Option Value) (v : Int32) (t : eL) (st : List Value) (h : eH), ru 23 28 (x0 :: x1 :: t) (.int v :: st) h = ru 23 29 (eKl x0 :: some (.int v) :: t) st h) ∧
  (∀ (x0 x1 : Option Value) (v : Int32) (t : eL) (st : List Value) (h : eH), ru 23 29 (x0 :: x1 :: some (.int v) :: t) st h = ru 23 32 (x0 :: eKl x1 :: some (.int (v + 1)) :: t) st h) ∧
  (∀ (ls : eL) (st : List Value) (h : eH), ru 23 32 ls st h = ru 23 4 ls st h) ∧
  (∀ (x : Int32) (ls : eL) (h : eH), ru 23 36 ls [.int x] h = some (some (.int x), h)) := ⟨fun ls st h => ru_go rfl rfl,
  fun x0 x1 v t st h => ru_go rfl rfl,
  fun ls st h => ru_go rfl rfl,
  fun x0 x1 x2 v t st h => ru_go rfl rfl,
  fun v t st h => ru_go rfl rfl,
  fun a ls st h => ru_getf rfl,
  fun x y ls st h => ru_if rfl rfl,
  fun x0 v t st h => ru_go rfl rfl,
  fun v t st h => ru_go rfl rfl,
  fun a ls st h => ru_getf rfl,
  fun x0 x1 v t st h => ru_go rfl rfl,
  fun i a ls st h => ru_zald rfl,
  fun x ls st h => ru_if rfl rfl,
  fun ls st h => ru_go rfl rfl,
  fun ls st h => ru_go rfl rfl,
  fun ls st h => ru_go rfl rfl,
  fun x y ls st h => ru_go rfl rfl,
  fun x0 x1 v t st h => ru_go rfl rfl,
  fun x0 x1 v t st h => ru_go rfl rfl,
  fun ls st h => ru_go rfl rfl,
  fun x ls h => ru_ret rfl rfl⟩
theorem E23 (a0 : Nat) {h : eH} {fs : List Value} (ha : h.1 a0 = .inr (11, fs)) : den 23 [.ref a0] h = ru 23 0 [some (.ref a0), none, none] [] h := den_ob (Nat.le_of_ble_eq_true rfl) ha
/-! 24 X11_far -/
set_option maxRecDepth 100000 in
theorem S24 : (∀ (v : Nat) (t : eL) (st : List Value) (h : eH), ru 24 0 (some (.ref v) :: t) st h = ru 24 1 (some (.ref v) :: t) (.ref v :: st) h) ∧
  (∀ (a : Nat) (ls : eL) (st : List Value) (h : eH), ru 24 1 ls (.ref a :: st) h = gF (h.1 a) 11 11 (fun v => ru 24 4 ls (v :: st) h)) ∧
  (∀ (x0 : Option Value) (v : Int32) (t : eL) (st : List Value) (h : eH), ru 24 4 (x0 :: some (.int v) :: t) st h = ru 24 5 (x0 :: some (.int v) :: t) (.int v :: st) h) ∧
  (∀ (i : Int32) (a : Nat) (ls : eL) (st : List Value) (h : eH), ru 24 5 ls (.int i :: .ref a :: st) h = aI (h.1 a) 0 i (fun v => ru 24 6 ls (.int v :: st) h)) ∧
  (∀ (x0 x1 x2 x3 x4 : Option Value) (v : Int32) (t : eL) (st : List Value) (h : eH), ru 24 6 (x0 :: x1 :: x2 :: x3 :: x4 :: t) (.int v :: st) h = ru 24 8 (x0 :: x1 :: x2 :: eKl x3 :: some (.int v) :: t) st h) ∧
  (∀ (v : Nat) (t : eL) (st : List Value) (h : eH), ru 24 8 (some (.ref v) :: t) st h = ru 24 9 (some (.ref v) :: t) (.ref v :: st) h) ∧
  (∀ (a : Nat) (ls : eL) (st : List Value) (h : eH), ru 24 9 ls (.ref a :: st) h = gF (h.1 a) 11 12 (fun v => ru 24 12 ls (v :: st) h)) ∧
  (∀ (x0 : Option Value) (v : Int32) (t : eL) (st : List Value) (h : eH), ru 24 12 (x0 :: some (.int v) :: t) st h = ru 24 13 (x0 :: some (.int v) :: t) (.int v :: st) h) ∧
  (∀ (i : Int32) (a : Nat) (ls : eL) (st : List Value) (h : eH), ru 24 13 ls (.int i :: .ref a :: st) h = aI (h.1 a) 0 i (fun v => ru 24 14 ls (.int v :: st) h)) ∧
  (∀ (x0 x1 x2 x3 x4 x5 : Option Value) (v : Int32) (t : eL) (st : List Value) (h : eH), ru 24 14 (x0 :: x1 :: x2 :: x3 :: x4 :: x5 :: t) (.int v :: st) h = ru 24 16 (x0 :: x1 :: x2 :: x3 :: eKl x4 :: some (.int v) :: t) st h) ∧
  (∀ (x0 x1 x2 : Option Value) (v : Int32) (t : eL) (st : List Value) (h : eH), ru 24 16 (x0 :: x1 :: x2 :: some (.int v) :: t) st h = ru 24 17 (x0 :: x1 :: x2 :: some (.int v) :: t) (.int v :: st) h) ∧
  (∀ (x : Int32) (ls : eL) (st : List Value) (h : eH), ru 24 17 ls (.int x :: st) h = if x = 0 then ru 24 20 ls st h else ru 24 38 ls st h) ∧
  (∀ (v : Nat) (t : eL) (st : List Value) (h : eH), ru 24 20 (some (.ref v) :: t) st h = ru 24 21 (some (.ref v) :: t) (.ref v :: st) h) ∧
  (∀ (a : Nat) (ls : eL) (st : List Value) (h : eH), ru 24 21 ls (.ref a :: st) h = gF (h.1 a) 11 5 (fun v => ru 24 24 ls (v :: st) h)) ∧
  (∀ (x0 x1 x2 x3 x4 : Option Value) (v : Int32) (t : eL) (st : List Value) (h : eH), ru 24 24 (x0 :: x1 :: x2 :: x3 :: x4 :: some (.int v) :: t) st h = ru 24 26 (x0 :: x1 :: x2 :: x3 :: x4 :: some (.int v) :: t) (.int v :: st) h) ∧
  (∀ (i : Int32) (a : Nat) (ls : eL) (st : List Value) (h : eH), ru 24 26 ls (.int i :: .ref a :: st) h = aI (h.1 a) 0 i (fun v => ru 24 27 ls (.int v :: st) h)) ∧
  (∀ (v : Nat) (t : eL) (st : List Value) (h : eH), ru 24 27 (some (.ref v) :: t) st h = ru 24 28 (some (.ref v) :: t) (.ref v :: st) h) ∧
  (∀ (a : Nat) (ls : eL) (st : List Value) (h : eH), ru 24 28 ls (.ref a :: st) h = gF (h.1 a) 11 5 (fun v => ru 24 31 ls (v :: st) h)) ∧
  (∀ (x0 x1 x2 x3 : Option Value) (v : Int32) (t : eL) (st : List Value) (h : eH), ru 24 31 (x0 :: x1 :: x2 :: x3 :: some (.int v) :: t) st h = ru 24 33 (x0 :: x1 :: x2 :: x3 :: some (.int v) :: t) (.int v :: st) h) ∧
  (∀ (i : Int32) (a : Nat) (ls : eL) (st : List Value) (h : eH), ru 24 33 ls (.int i :: .ref a :: st) h = aI (h.1 a) 0 i (fun v => ru 24 34 ls (.int v :: st) h)) ∧
  (∀ (x y : Int32) (ls : eL) (st : List Value) (h : eH), ru 24 34 ls (.int y :: .int x :: st) h = ru 24 35 ls (.int (x - y) :: st) h) ∧
  (∀ (ls : eL) (st : List Value) (h : eH), ru 24 35 ls st h = ru 24 53 ls st h) ∧
  (∀ (v : Nat) (t : eL) (st : List Value) (h : eH), ru 24 38 (some (.ref v) :: t) st h = ru 24 39 (some (.ref v) :: t) (.ref v :: st) h) ∧
  (∀ (a : Nat) (ls : eL) (st : List Value) (h : eH), ru 24 39 ls (.ref a :: st) h = gF (h.1 a) 11 6 (fun v => ru 24 42 ls (v :: st) h)) ∧
  (∀ (x0 x1 x2 x3 x4 : Option Value) (v : Int32) (t : eL) (st : List Value) (h : eH), ru 24 42 (x0 :: x1 :: x2 :: x3 :: x4 :: some (.int v) :: t) st h = ru 24 44 (x0 :: x1 :: x2 :: x3 :: x4 :: some (.int v) :: t) (.int v :: st) h) ∧
  (∀ (i : Int32) (a : Nat) (ls : eL) (st : List Value) (h : eH), ru 24 44 ls (.int i :: .ref a :: st) h = aI (h.1 a) 0 i (fun v => ru 24 45 ls (.int v :: st) h)) ∧
  (∀ (v : Nat) (t : eL) (st : List Value) (h : eH), ru 24 45 (some (.ref v) :: t) st h = ru 24 46 (some (.ref v) :: t) (.ref v :: st) h) ∧
  (∀ (a : Nat) (ls : eL) (st : List Value) (h : eH), ru 24 46 ls (.ref a :: st) h = gF (h.1 a) 11 6 (fun v => ru 24 49 ls (v :: st) h)) ∧
  (∀ (x0 x1 x2 x3 : Option Value) (v : Int32) (t : eL) (st : List Value) (h : eH), ru 24 49 (x0 :: x1 :: x2 :: x3 :: some (.int v) :: t) st h = ru 24 51 (x0 :: x1 :: x2 :: x3 :: some (.int v) :: t) (.int v :: st) h) ∧
  (∀ (i : Int32) (a : Nat) (ls : eL) (st : List Value) (h : eH), ru 24 51 ls (.int i :: .ref a :: st) h = aI (h.1 a) 0 i (fun v => ru 24 52 ls (.int v :: st) h)) ∧
  (∀ (x y : Int32) (ls : eL) (st : List Value) (h : eH), ru 24 52 ls (.int y :: .int x :: st) h = ru 24 53 ls (.int (x - y) :: st) h) ∧
  (∀ (x0 x1 x2 x3 x4 x5 x6 : Option Value) (v : Int32) (t : eL) (st : List Value) (h : eH), ru 24 53 (x0 :: x1 :: x2 :: x3 :: x4 :: x5 :: x6 :: t) (.int v :: st) h = ru 24 55 (x0 :: x1 :: x2 :: x3 :: x4 :: eKl x5 :: some (.int v) :: t) st h) ∧
  (∀ (x0 x1 : Option Value) (v : Int32) (t : eL) (st : List Value) (h : eH), ru 24 55 (x0 :: x1 :: some (.int v) :: t) st h = ru 24 56 (x0 :: x1 :: some (.int v) :: t) (.int v :: st) h) ∧
  (∀ (x0 x1 x2 x3 : Option Value) (v : Int32) (t : eL) (st : List Value) (h : eH), ru 24 56 (x0 :: x1 :: x2 :: x3 :: some (.int v) :: t) st h = ru 24 58 (x0 :: x1 :: x2 :: x3 :: some (.int v) :: t) (.int v :: st) h) ∧
  (∀ (x y : Int32) (ls : eL) (st : List Value) (h : eH), ru 24 58 ls (.int y :: .int x :: st) h = if x = y then ru 24 61 ls st h else ru 24 66 ls st h) ∧
  (∀ (x0 x1 x2 x3 x4 x5 : Option Value) (v : Int32) (t : eL) (st : List Value) (h : eH), ru 24 61 (x0 :: x1 :: x2 :: x3 :: x4 :: x5 :: some (.int v) :: t) st h = ru 24 63 (x0 :: x1 :: x2 :: x3 :: x4 :: x5 :: some (.int v) :: t) (.int v :: st) h) ∧
  (∀ (ls : eL) (st : List Value) (h : eH), ru 24 63 ls st h = ru 24 79 ls st h) ∧
  (∀ (x0 x1 : Option Value) (v : Int32) (t : eL) (st : List Value) (h : eH), ru 24 66 (x0 :: x1 :: some (.int v) :: t) st h = ru 24 67 (x0 :: x1 :: some (.int v) :: t) (.int v :: st) h) ∧
  (∀ (x0 x1 x2 x3 x4 : Option Value) (v : Int32) (t : eL) (st : List Value) (h : eH), ru 24 67 (x0 :: x1 :: x2 :: x3 :: x4 :: some (.int v) :: t) st h = ru 24 69 (x0 :: x1 :: x2 :: x3 :: x4 :: some (.int v) :: t) (.int v :: st) h) ∧
  (∀ (x y : Int32) (ls : eL) (st : List Value) (h : eH), ru 24 69 ls (.int y :: .int x :: st) h = if x = y then ru 24 72 ls st h else ru 24 78 ls st h) ∧
  (∀ (x0 x1 x2 x3 x4 x5 : Option Value) (v : Int32) (t : eL) (st : List Value) (h : eH), ru 24 72 (x0 :: x1 :: x2 :: x3 :: x4 :: x5 :: some (.int v) :: t) st h = ru 24 74 (x0 :: x1 :: x2 :: x3 :: x4 :: x5 :: some (.int v) :: t) (.int v :: st) h) ∧
  (∀ (x : Int32) (ls : eL) (st : List Value) (h : eH), ru 24 74 ls (.int x :: st) h = ru 24 75 ls (.int (-x) :: st) h) ∧
  (∀ (ls : eL) (st : List Value) (h : eH), ru 24 75 ls st h = ru 24 79 ls st h) ∧
  (∀ (ls : eL) (st : List Value) (h : eH), ru 24 78 ls st h = ru 24 79 ls (.int (nI 0) :: st) h) ∧
  (∀ (x : Int32) (ls : eL) (h : eH), ru 24 79 ls [.int x] h = some (some (.int x), h)) := ⟨fun v t st h => ru_go rfl rfl,
  fun a ls st h => ru_getf rfl,
  fun x0 v t st h => ru_go rfl rfl,
  fun i a ls st h => ru_iald rfl,
  fun x0 x1 x2 x3 x4 v t st h => ru_go rfl rfl,
  fun v t st h => ru_go rfl rfl,
  fun a ls st h => ru_getf rfl,
  fun x0 v t st h => ru_go rfl rfl,
  fun i a ls st h => ru_iald rfl,
  fun x0 x1 x2 x3 x4 x5 v t st h => ru_go rfl rfl,
  fun x0 x1 x2 v t st h => ru_go rfl rfl,
  fun x ls st h => ru_if rfl rfl,
  fun v t st h => ru_go rfl rfl,
  fun a ls st h => ru_getf rfl,
  fun x0 x1 x2 x3 x4 v t st h => ru_go rfl rfl,
  fun i a ls st h => ru_iald rfl,
  fun v t st h => ru_go rfl rfl,
  fun a ls st h => ru_getf rfl,
  fun x0 x1 x2 x3 v t st h => ru_go rfl rfl,
  fun i a ls st h => ru_iald rfl,
  fun x y ls st h => ru_go rfl rfl,
  fun ls st h => ru_go rfl rfl,
  fun v t st h => ru_go rfl rfl,
  fun a ls st h => ru_getf rfl,
  fun x0 x1 x2 x3 x4 v t st h => ru_go rfl rfl,
  fun i a ls st h => ru_iald rfl,
  fun v t st h => ru_go rfl rfl,
  fun a ls st h => ru_getf rfl,
  fun x0 x1 x2 x3 v t st h => ru_go rfl rfl,
  fun i a ls st h => ru_iald rfl,
  fun x y ls st h => ru_go rfl rfl,
  fun x0 x1 x2 x3 x4 x5 x6 v t st h => ru_go rfl rfl,
  fun x0 x1 v t st h => ru_go rfl rfl,
  fun x0 x1 x2 x3 v t st h => ru_go rfl rfl,
  fun x y ls st h => ru_if rfl rfl,
  fun x0 x1 x2 x3 x4 x5 v t st h => ru_go rfl rfl,
  fun ls st h => ru_go rfl rfl,
  fun x0 x1 v t st h => ru_go rfl rfl,
  fun x0 x1 x2 x3 x4 v t st h => ru_go rfl rfl,
  fun x y ls st h => ru_if rfl rfl,
  fun x0 x1 x2 x3 x4 x5 v t st h => ru_go rfl rfl,
  fun x ls st h => ru_go rfl rfl,
  fun ls st h => ru_go rfl rfl,
  fun ls st h => ru_go rfl rfl,
  fun x ls h => ru_ret rfl rfl⟩
theorem E24 (a0 : Nat) (a1 : Int32) (a2 : Int32) (a3 : Int32) {h : eH} {fs : List Value} (ha : h.1 a0 = .inr (11, fs)) : den 24 [.ref a0, .int a1, .int a2, .int a3] h = ru 24 0 [some (.ref a0), some (.int a1), some (.int a2), some (.int a3), none, none, none] [] h := den_ob (Nat.le_of_ble_eq_true rfl) ha
/-! 25 X11_isZero -/
set_option maxRecDepth 100000 in
theorem H25_2 : (∀ (x0 x1 : Option Value) (v : Int32) (t : eL) (st : List Value) (h : eH), ru 25 2 (x0 :: x1 :: some (.int v) :: t) st h = ru 25 3 (x0 :: x1 :: some (.int v) :: t) (.int v :: st) h) := fun x0 x1 v t st h => ru_go rfl rfl
set_option maxRecDepth 100000 in
theorem H25_32 : (∀ (ls : eL) (st : List Value) (h : eH), ru 25 32 ls st h = ru 25 33 ls (.int (nI 1) :: st) h) := fun ls st h => ru_go rfl rfl
set_option maxRecDepth 100000 in
theorem S25 : (∀ (ls : eL) (st : List Value) (h : eH), ru 25 0 ls st h = ru 25 1 ls (.int (nI 0) :: st) h) ∧
  (∀ (x0 x1 x2 : Option Value) (v : Int32) (t : eL) (st : List Value) (h : eH), ru 25 1 (x0 :: x1 :: x2 :: t) (.int v :: st) h = ru 25 2 (x0 :: eKl x1 :: some (.int v) :: t) st h) ∧
  (∀ (ls : eL) (st : List Value) (h : eH), ru 25 3 ls st h = ru 25 5 ls (.int (nI 24) :: st) h) ∧
  (∀ (x y : Int32) (ls : eL) (st : List Value) (h : eH), ru 25 5 ls (.int y :: .int x :: st) h = if y ≤ x then ru 25 32 ls st h else ru 25 8 ls st h) ∧
  (∀ (v : Nat) (t : eL) (st : List Value) (h : eH), ru 25 8 (some (.ref v) :: t) st h = ru 25 9 (some (.ref v) :: t) (.ref v :: st) h) ∧
  (∀ (a : Nat) (ls : eL) (st : List Value) (h : eH), ru 25 9 ls (.ref a :: st) h = gF (h.1 a) 11 0 (fun v => ru 25 12 ls (v :: st) h)) ∧
  (∀ (ls : eL) (st : List Value) (h : eH), ru 25 12 ls st h = ru 25 14 ls (.int (nI 24) :: st) h) ∧
  (∀ (x0 : Option Value) (v : Int32) (t : eL) (st : List Value) (h : eH), ru 25 14 (x0 :: some (.int v) :: t) st h = ru 25 15 (x0 :: some (.int v) :: t) (.int v :: st) h) ∧
  (∀ (x y : Int32) (ls : eL) (st : List Value) (h : eH), ru 25 15 ls (.int y :: .int x :: st) h = ru 25 16 ls (.int (x * y) :: st) h) ∧
  (∀ (x0 x1 : Option Value) (v : Int32) (t : eL) (st : List Value) (h : eH), ru 25 16 (x0 :: x1 :: some (.int v) :: t) st h = ru 25 17 (x0 :: x1 :: some (.int v) :: t) (.int v :: st) h) ∧
  (∀ (x y : Int32) (ls : eL) (st : List Value) (h : eH), ru 25 17 ls (.int y :: .int x :: st) h = ru 25 18 ls (.int (x + y) :: st) h) ∧
  (∀ (i : Int32) (a : Nat) (ls : eL) (st : List Value) (h : eH), ru 25 18 ls (.int i :: .ref a :: st) h = aL (h.1 a) i (fun v => ru 25 19 ls (.long v :: st) h)) ∧
  (∀ (ls : eL) (st : List Value) (h : eH), ru 25 19 ls st h = ru 25 20 ls (.long (lN 0) :: st) h) ∧
  (∀ (x y : Int64) (ls : eL) (st : List Value) (h : eH), ru 25 20 ls (.long y :: .long x :: st) h = ru 25 21 ls (.int (lg_cmp x y) :: st) h) ∧
  (∀ (x : Int32) (ls : eL) (st : List Value) (h : eH), ru 25 21 ls (.int x :: st) h = if x = 0 then ru 25 26 ls st h else ru 25 24 ls st h) ∧
  (∀ (ls : eL) (st : List Value) (h : eH), ru 25 24 ls st h = ru 25 25 ls (.int (nI 0) :: st) h) ∧
  (∀ (x : Int32) (ls : eL) (h : eH), ru 25 25 ls [.int x] h = bo (x == 0 || x == 1) (some (some (.int x), h))) ∧
  (∀ (x0 x1 : Option Value) (v : Int32) (t : eL) (st : List Value) (h : eH), ru 25 26 (x0 :: x1 :: some (.int v) :: t) st h = ru 25 29 (x0 :: eKl x1 :: some (.int (v + 1)) :: t) st h) ∧
  (∀ (ls : eL) (st : List Value) (h : eH), ru 25 29 ls st h = ru 25 2 ls st h) ∧
  (∀ (x : Int32) (ls : eL) (h : eH), ru 25 33 ls [.int x] h = bo (x == 0 || x == 1) (some (some (.int x), h))) := ⟨fun ls st h => ru_go rfl rfl,
  fun x0 x1 x2 v t st h => ru_go rfl rfl,
  fun ls st h => ru_go rfl rfl,
  fun x y ls st h => ru_if rfl rfl,
  fun v t st h => ru_go rfl rfl,
  fun a ls st h => ru_getf rfl,
  fun ls st h => ru_go rfl rfl,
  fun x0 v t st h => ru_go rfl rfl,
  fun x y ls st h => ru_go rfl rfl,
  fun x0 x1 v t st h => ru_go rfl rfl,
  fun x y ls st h => ru_go rfl rfl,
  fun i a ls st h => ru_lald rfl,
  fun ls st h => ru_go rfl rfl,
  fun x y ls st h => ru_go rfl rfl,
  fun x ls st h => ru_if rfl rfl,
  fun ls st h => ru_go rfl rfl,
  fun x ls h => ru_bret rfl rfl,
  fun x0 x1 v t st h => ru_go rfl rfl,
  fun ls st h => ru_go rfl rfl,
  fun x ls h => ru_bret rfl rfl⟩
theorem E25 (a0 : Nat) (a1 : Int32) {h : eH} {fs : List Value} (ha : h.1 a0 = .inr (11, fs)) : den 25 [.ref a0, .int a1] h = ru 25 0 [some (.ref a0), some (.int a1), none] [] h := den_ob (Nat.le_of_ble_eq_true rfl) ha
/-! 26 X11_length -/
set_option maxRecDepth 100000 in
theorem H26_3 : (∀ (x0 : Option Value) (v : Int32) (t : eL) (st : List Value) (h : eH), ru 26 3 (x0 :: some (.int v) :: t) st h = ru 26 4 (x0 :: some (.int v) :: t) (.int v :: st) h) := fun x0 v t st h => ru_go rfl rfl
set_option maxRecDepth 100000 in
theorem H26_23 : (∀ (x0 : Option Value) (v : Int32) (t : eL) (st : List Value) (h : eH), ru 26 23 (x0 :: some (.int v) :: t) st h = ru 26 24 (x0 :: some (.int v) :: t) (.int v :: st) h) := fun x0 v t st h => ru_go rfl rfl
set_option maxRecDepth 100000 in
theorem S26 : (∀ (ls : eL) (st : List Value) (h : eH), ru 26 0 ls st h = ru 26 2 ls (.int (nI 24) :: st) h) ∧
  (∀ (x0 x1 : Option Value) (v : Int32) (t : eL) (st : List Value) (h : eH), ru 26 2 (x0 :: x1 :: t) (.int v :: st) h = ru 26 3 (eKl x0 :: some (.int v) :: t) st h) ∧
  (∀ (x : Int32) (ls : eL) (st : List Value) (h : eH), ru 26 4 ls (.int x :: st) h = if x ≤ 0 then ru 26 23 ls st h else ru 26 7 ls st h) ∧
  (∀ (v : Nat) (t : eL) (st : List Value) (h : eH), ru 26 7 (some (.ref v) :: t) st h = ru 26 8 (some (.ref v) :: t) (.ref v :: st) h) ∧
  (∀ (x0 : Option Value) (v : Int32) (t : eL) (st : List Value) (h : eH), ru 26 8 (x0 :: some (.int v) :: t) st h = ru 26 9 (x0 :: some (.int v) :: t) (.int v :: st) h) ∧
  (∀ (ls : eL) (st : List Value) (h : eH), ru 26 9 ls st h = ru 26 10 ls (.int (nI 1) :: st) h) ∧
  (∀ (x y : Int32) (ls : eL) (st : List Value) (h : eH), ru 26 10 ls (.int y :: .int x :: st) h = ru 26 11 ls (.int (x - y) :: st) h) ∧
  (∀ (i : Int32) (a : Nat) (ls : eL) (st : List Value) (h : eH), ru 26 11 ls (.int i :: .ref a :: st) h = aL (h.1 a) i (fun v => ru 26 12 ls (.long v :: st) h)) ∧
  (∀ (ls : eL) (st : List Value) (h : eH), ru 26 12 ls st h = ru 26 13 ls (.long (lN 0) :: st) h) ∧
  (∀ (x y : Int64) (ls : eL) (st : List Value) (h : eH), ru 26 13 ls (.long y :: .long x :: st) h = ru 26 14 ls (.int (lg_cmp x y) :: st) h) ∧
  (∀ (x : Int32) (ls : eL) (st : List Value) (h : eH), ru 26 14 ls (.int x :: st) h = if x = 0 then ru 26 17 ls st h else ru 26 23 ls st h) ∧
  (∀ (x0 : Option Value) (v : Int32) (t : eL) (st : List Value) (h : eH), ru 26 17 (x0 :: some (.int v) :: t) st h = ru 26 20 (eKl x0 :: some (.int (v + (-1))) :: t) st h) ∧
  (∀ (ls : eL) (st : List Value) (h : eH), ru 26 20 ls st h = ru 26 3 ls st h) ∧
  (∀ (x : Int32) (ls : eL) (h : eH), ru 26 24 ls [.int x] h = some (some (.int x), h)) := ⟨fun ls st h => ru_go rfl rfl,
  fun x0 x1 v t st h => ru_go rfl rfl,
  fun x ls st h => ru_if rfl rfl,
  fun v t st h => ru_go rfl rfl,
  fun x0 v t st h => ru_go rfl rfl,
  fun ls st h => ru_go rfl rfl,
  fun x y ls st h => ru_go rfl rfl,
  fun i a ls st h => ru_lald rfl,
  fun ls st h => ru_go rfl rfl,
  fun x y ls st h => ru_go rfl rfl,
  fun x ls st h => ru_if rfl rfl,
  fun x0 v t st h => ru_go rfl rfl,
  fun ls st h => ru_go rfl rfl,
  fun x ls h => ru_ret rfl rfl⟩
theorem E26 (a0 : Nat) (h : eH) : den 26 [.ref a0] h = ru 26 0 [some (.ref a0), none] [] h := den_st rfl (Nat.le_of_ble_eq_true rfl)
/-! 27 X11_times -/
set_option maxRecDepth 100000 in
theorem H27_41 : (∀ (x0 x1 x2 x3 x4 : Option Value) (v : Int32) (t : eL) (st : List Value) (h : eH), ru 27 41 (x0 :: x1 :: x2 :: x3 :: x4 :: some (.int v) :: t) st h = ru 27 43 (x0 :: x1 :: x2 :: x3 :: x4 :: some (.int v) :: t) (.int v :: st) h) := fun x0 x1 x2 x3 x4 v t st h => ru_go rfl rfl
set_option maxRecDepth 100000 in
theorem H27_62 : (∀ (v : Nat) (t : eL) (st : List Value) (h : eH), ru 27 62 (some (.ref v) :: t) st h = ru 27 63 (some (.ref v) :: t) (.ref v :: st) h) := fun v t st h => ru_go rfl rfl
set_option maxRecDepth 100000 in
theorem H27_83 : (∀ (x0 x1 x2 x3 x4 x5 x6 : Option Value) (v : Int32) (t : eL) (st : List Value) (h : eH), ru 27 83 (x0 :: x1 :: x2 :: x3 :: x4 :: x5 :: x6 :: some (.int v) :: t) st h = ru 27 85 (x0 :: x1 :: x2 :: x3 :: x4 :: x5 :: x6 :: some (.int v) :: t) (.int v :: st) h) := fun x0 x1 x2 x3 x4 x5 x6 v t st h => ru_go rfl rfl
set_option maxRecDepth 100000 in
theorem H27_96 : (∀ (x0 x1 x2 x3 x4 x5 x6 : Option Value) (v : Int32) (t : eL) (st : List Value) (h : eH), ru 27 96 (x0 :: x1 :: x2 :: x3 :: x4 :: x5 :: x6 :: some (.int v) :: t) st h = ru 27 98 (x0 :: x1 :: x2 :: x3 :: x4 :: x5 :: x6 :: some (.int v) :: t) (.int v :: st) h) := fun x0 x1 x2 x3 x4 x5 x6 v t st h => ru_go rfl rfl
set_option maxRecDepth 100000 in
theorem H27_181 : (∀ (x0 x1 x2 x3 x4 x5 x6 : Option Value) (v : Int32) (t : eL) (st : List Value) (h : eH), ru 27 181 (x0 :: x1 :: x2 :: x3 :: x4 :: x5 :: x6 :: some (.int v) :: t) st h = ru 27 184 (x0 :: x1 :: x2 :: x3 :: x4 :: x5 :: eKl x6 :: some (.int (v + 1)) :: t) st h) := fun x0 x1 x2 x3 x4 x5 x6 v t st h => ru_go rfl rfl
set_option maxRecDepth 100000 in
theorem H27_187 : (∀ (ls : eL) (st : List Value) (h : eH), ru 27 187 ls st h = ru 27 188 ls (.int (nI 0) :: st) h) := fun ls st h => ru_go rfl rfl
set_option maxRecDepth 100000 in
theorem H27_190 : (∀ (x0 x1 x2 x3 x4 x5 x6 : Option Value) (v : Int32) (t : eL) (st : List Value) (h : eH), ru 27 190 (x0 :: x1 :: x2 :: x3 :: x4 :: x5 :: x6 :: some (.int v) :: t) st h = ru 27 192 (x0 :: x1 :: x2 :: x3 :: x4 :: x5 :: x6 :: some (.int v) :: t) (.int v :: st) h) := fun x0 x1 x2 x3 x4 x5 x6 v t st h => ru_go rfl rfl
set_option maxRecDepth 100000 in
theorem H27_222 : (∀ (x0 x1 x2 x3 : Option Value) (v : Int32) (t : eL) (st : List Value) (h : eH), ru 27 222 (x0 :: x1 :: x2 :: x3 :: some (.int v) :: t) st h = ru 27 224 (x0 :: x1 :: x2 :: x3 :: some (.int v) :: t) (.int v :: st) h) := fun x0 x1 x2 x3 v t st h => ru_go rfl rfl
set_option maxRecDepth 100000 in
theorem S27 : (∀ (v : Nat) (t : eL) (st : List Value) (h : eH), ru 27 0 (some (.ref v) :: t) st h = ru 27 1 (some (.ref v) :: t) (.ref v :: st) h) ∧
  (∀ (x0 x1 : Option Value) (v : Int32) (t : eL) (st : List Value) (h : eH), ru 27 1 (x0 :: x1 :: some (.int v) :: t) st h = ru 27 2 (x0 :: x1 :: some (.int v) :: t) (.int v :: st) h) ∧
  (∀ (a0 : Nat) (a1 : Int32) (ls : eL) (h : eH), ru 27 2 ls [.int a1, .ref a0] h = cl (den 17 [.ref a0, .int a1] h) (fun v h => ru 27 5 ls (v.toList ++ []) h)) ∧
  (∀ (v : Nat) (t : eL) (st : List Value) (h : eH), ru 27 5 (some (.ref v) :: t) st h = ru 27 6 (some (.ref v) :: t) (.ref v :: st) h) ∧
  (∀ (x0 x1 x2 : Option Value) (v : Int32) (t : eL) (st : List Value) (h : eH), ru 27 6 (x0 :: x1 :: x2 :: some (.int v) :: t) st h = ru 27 7 (x0 :: x1 :: x2 :: some (.int v) :: t) (.int v :: st) h) ∧
  (∀ (a0 : Nat) (a1 : Int32) (u0 : Int32) (ls : eL) (h : eH), ru 27 7 ls [.int a1, .ref a0, .int u0] h = cl (den 17 [.ref a0, .int a1] h) (fun v h => ru 27 10 ls (v.toList ++ [.int u0]) h)) ∧
  (∀ (x y : Int32) (ls : eL) (st : List Value) (h : eH), ru 27 10 ls (.int y :: .int x :: st) h = if x = y then ru 27 17 ls st h else ru 27 13 ls st h) ∧
  (∀ (ls : eL) (st : List Value) (h : eH), ru 27 13 ls st h = ru 27 14 ls (.int (nI 1) :: st) h) ∧
  (∀ (ls : eL) (st : List Value) (h : eH), ru 27 14 ls st h = ru 27 18 ls st h) ∧
  (∀ (ls : eL) (st : List Value) (h : eH), ru 27 17 ls st h = ru 27 18 ls (.int (nI 0) :: st) h) ∧
  (∀ (x0 x1 x2 x3 x4 : Option Value) (v : Int32) (t : eL) (st : List Value) (h : eH), ru 27 18 (x0 :: x1 :: x2 :: x3 :: x4 :: t) (.int v :: st) h = ru 27 20 (x0 :: x1 :: x2 :: eKl x3 :: some (.int v) :: t) st h) ∧
  (∀ (v : Nat) (t : eL) (st : List Value) (h : eH), ru 27 20 (some (.ref v) :: t) st h = ru 27 21 (some (.ref v) :: t) (.ref v :: st) h) ∧
  (∀ (x0 x1 : Option Value) (v : Int32) (t : eL) (st : List Value) (h : eH), ru 27 21 (x0 :: x1 :: some (.int v) :: t) st h = ru 27 22 (x0 :: x1 :: some (.int v) :: t) (.int v :: st) h) ∧
  (∀ (v : Nat) (t : eL) (st : List Value) (h : eH), ru 27 22 (some (.ref v) :: t) st h = ru 27 23 (some (.ref v) :: t) (.ref v :: st) h) ∧
  (∀ (a : Nat) (ls : eL) (st : List Value) (h : eH), ru 27 23 ls (.ref a :: st) h = gF (h.1 a) 11 15 (fun v => ru 27 26 ls (v :: st) h)) ∧
  (∀ (a0 : Nat) (a1 : Int32) (a2 : Nat) (ls : eL) (h : eH), ru 27 26 ls [.ref a2, .int a1, .ref a0] h = cl (den 19 [.ref a0, .int a1, .ref a2] h) (fun v h => ru 27 29 ls (v.toList ++ []) h)) ∧
  (∀ (v : Nat) (t : eL) (st : List Value) (h : eH), ru 27 29 (some (.ref v) :: t) st h = ru 27 30 (some (.ref v) :: t) (.ref v :: st) h) ∧
  (∀ (x0 x1 x2 : Option Value) (v : Int32) (t : eL) (st : List Value) (h : eH), ru 27 30 (x0 :: x1 :: x2 :: some (.int v) :: t) st h = ru 27 31 (x0 :: x1 :: x2 :: some (.int v) :: t) (.int v :: st) h) ∧
  (∀ (v : Nat) (t : eL) (st : List Value) (h : eH), ru 27 31 (some (.ref v) :: t) st h = ru 27 32 (some (.ref v) :: t) (.ref v :: st) h) ∧
  (∀ (a : Nat) (ls : eL) (st : List Value) (h : eH), ru 27 32 ls (.ref a :: st) h = gF (h.1 a) 11 16 (fun v => ru 27 35 ls (v :: st) h)) ∧
  (∀ (a0 : Nat) (a1 : Int32) (a2 : Nat) (ls : eL) (h : eH), ru 27 35 ls [.ref a2, .int a1, .ref a0] h = cl (den 19 [.ref a0, .int a1, .ref a2] h) (fun v h => ru 27 38 ls (v.toList ++ []) h)) ∧
  (∀ (ls : eL) (st : List Value) (h : eH), ru 27 38 ls st h = ru 27 39 ls (.int (nI 0) :: st) h) ∧
  (∀ (x0 x1 x2 x3 x4 x5 : Option Value) (v : Int32) (t : eL) (st : List Value) (h : eH), ru 27 39 (x0 :: x1 :: x2 :: x3 :: x4 :: x5 :: t) (.int v :: st) h = ru 27 41 (x0 :: x1 :: x2 :: x3 :: eKl x4 :: some (.int v) :: t) st h) ∧
  (∀ (ls : eL) (st : List Value) (h : eH), ru 27 43 ls st h = ru 27 45 ls (.int (nI 24) :: st) h) ∧
  (∀ (x y : Int32) (ls : eL) (st : List Value) (h : eH), ru 27 45 ls (.int y :: .int x :: st) h = if y ≤ x then ru 27 62 ls st h else ru 27 48 ls st h) ∧
  (∀ (v : Nat) (t : eL) (st : List Value) (h : eH), ru 27 48 (some (.ref v) :: t) st h = ru 27 49 (some (.ref v) :: t) (.ref v :: st) h) ∧
  (∀ (a : Nat) (ls : eL) (st : List Value) (h : eH), ru 27 49 ls (.ref a :: st) h = gF (h.1 a) 11 17 (fun v => ru 27 52 ls (v :: st) h)) ∧
  (∀ (x0 x1 x2 x3 x4 : Option Value) (v : Int32) (t : eL) (st : List Value) (h : eH), ru 27 52 (x0 :: x1 :: x2 :: x3 :: x4 :: some (.int v) :: t) st h = ru 27 54 (x0 :: x1 :: x2 :: x3 :: x4 :: some (.int v) :: t) (.int v :: st) h) ∧
  (∀ (ls : eL) (st : List Value) (h : eH), ru 27 54 ls st h = ru 27 55 ls (.long (lN 0) :: st) h) ∧
  (∀ (x : Int64) (i : Int32) (a : Nat) (ls : eL) (st : List Value) (h : eH), ru 27 55 ls (.long x :: .int i :: .ref a :: st) h = wL (h.1 a) i x (fun e => ru 27 56 ls st (eUp h a e))) ∧
  (∀ (x0 x1 x2 x3 x4 : Option Value) (v : Int32) (t : eL) (st : List Value) (h : eH), ru 27 56 (x0 :: x1 :: x2 :: x3 :: x4 :: some (.int v) :: t) st h = ru 27 59 (x0 :: x1 :: x2 :: x3 :: eKl x4 :: some (.int (v + 1)) :: t) st h) ∧
  (∀ (ls : eL) (st : List Value) (h : eH), ru 27 59 ls st h = ru 27 41 ls st h) ∧
  (∀ (a : Nat) (ls : eL) (st : List Value) (h : eH), ru 27 63 ls (.ref a :: st) h = gF (h.1 a) 11 15 (fun v => ru 27 66 ls (v :: st) h)) ∧
  (∀ (a0 : Nat) (ls : eL) (h : eH), ru 27 66 ls [.ref a0] h = cl (den 26 [.ref a0] h) (fun v h => ru 27 69 ls (v.toList ++ []) h)) ∧
  (∀ (x0 x1 x2 x3 x4 x5 : Option Value) (v : Int32) (t : eL) (st : List Value) (h : eH), ru 27 69 (x0 :: x1 :: x2 :: x3 :: x4 :: x5 :: t) (.int v :: st) h = ru 27 71 (x0 :: x1 :: x2 :: x3 :: eKl x4 :: some (.int v) :: t) st h) ∧
  (∀ (v : Nat) (t : eL) (st : List Value) (h : eH), ru 27 71 (some (.ref v) :: t) st h = ru 27 72 (some (.ref v) :: t) (.ref v :: st) h) ∧
  (∀ (a : Nat) (ls : eL) (st : List Value) (h : eH), ru 27 72 ls (.ref a :: st) h = gF (h.1 a) 11 16 (fun v => ru 27 75 ls (v :: st) h)) ∧
  (∀ (a0 : Nat) (ls : eL) (h : eH), ru 27 75 ls [.ref a0] h = cl (den 26 [.ref a0] h) (fun v h => ru 27 78 ls (v.toList ++ []) h)) ∧
  (∀ (x0 x1 x2 x3 x4 x5 x6 : Option Value) (v : Int32) (t : eL) (st : List Value) (h : eH), ru 27 78 (x0 :: x1 :: x2 :: x3 :: x4 :: x5 :: x6 :: t) (.int v :: st) h = ru 27 80 (x0 :: x1 :: x2 :: x3 :: x4 :: eKl x5 :: some (.int v) :: t) st h) ∧
  (∀ (ls : eL) (st : List Value) (h : eH), ru 27 80 ls st h = ru 27 81 ls (.int (nI 0) :: st) h) ∧
  (∀ (x0 x1 x2 x3 x4 x5 x6 x7 : Option Value) (v : Int32) (t : eL) (st : List Value) (h : eH), ru 27 81 (x0 :: x1 :: x2 :: x3 :: x4 :: x5 :: x6 :: x7 :: t) (.int v :: st) h = ru 27 83 (x0 :: x1 :: x2 :: x3 :: x4 :: x5 :: eKl x6 :: some (.int v) :: t) st h) ∧
  (∀ (x0 x1 x2 x3 x4 : Option Value) (v : Int32) (t : eL) (st : List Value) (h : eH), ru 27 85 (x0 :: x1 :: x2 :: x3 :: x4 :: some (.int v) :: t) st h = ru 27 87 (x0 :: x1 :: x2 :: x3 :: x4 :: some (.int v) :: t) (.int v :: st) h) ∧
  (∀ (x y : Int32) (ls : eL) (st : List Value) (h : eH), ru 27 87 ls (.int y :: .int x :: st) h = if y ≤ x then ru 27 187 ls st h else ru 27 90 ls st h) ∧
  (∀ (ls : eL) (st : List Value) (h : eH), ru 27 90 ls st h = ru 27 91 ls (.long (lN 0) :: st) h) ∧
  (∀ (x0 x1 x2 x3 x4 x5 x6 x7 x8 x9 : Option Value) (v : Int64) (t : eL) (st : List Value) (h : eH), ru 27 91 (x0 :: x1 :: x2 :: x3 :: x4 :: x5 :: x6 :: x7 :: x8 :: x9 :: t) (.long v :: st) h = ru 27 93 (x0 :: x1 :: x2 :: x3 :: x4 :: x5 :: x6 :: eKl x7 :: some (.long v) :: none :: t) st h) ∧
  (∀ (ls : eL) (st : List Value) (h : eH), ru 27 93 ls st h = ru 27 94 ls (.int (nI 0) :: st) h) ∧
  (∀ (x0 x1 x2 x3 x4 x5 x6 x7 x8 x9 x10 : Option Value) (v : Int32) (t : eL) (st : List Value) (h : eH), ru 27 94 (x0 :: x1 :: x2 :: x3 :: x4 :: x5 :: x6 :: x7 :: x8 :: x9 :: x10 :: t) (.int v :: st) h = ru 27 96 (x0 :: x1 :: x2 :: x3 :: x4 :: x5 :: x6 :: x7 :: x8 :: eKl x9 :: some (.int v) :: t) st h) ∧
  (∀ (x0 x1 x2 x3 x4 x5 x6 x7 x8 x9 : Option Value) (v : Int32) (t : eL) (st : List Value) (h : eH), ru 27 98 (x0 :: x1 :: x2 :: x3 :: x4 :: x5 :: x6 :: x7 :: x8 :: x9 :: some (.int v) :: t) st h = ru 27 100 (x0 :: x1 :: x2 :: x3 :: x4 :: x5 :: x6 :: x7 :: x8 :: x9 :: some (.int v) :: t) (.int v :: st) h) ∧
  (∀ (x y : Int32) (ls : eL) (st : List Value) (h : eH), ru 27 100 ls (.int y :: .int x :: st) h = ru 27 101 ls (.int (x + y) :: st) h) ∧
  (∀ (ls : eL) (st : List Value) (h : eH), ru 27 101 ls st h = ru 27 103 ls (.int (nI 24) :: st) h) ∧
  (∀ (x y : Int32) (ls : eL) (st : List Value) (h : eH), ru 27 103 ls (.int y :: .int x :: st) h = if y ≤ x then ru 27 181 ls st h else ru 27 106 ls st h) ∧
  (∀ (x0 x1 x2 x3 x4 x5 x6 x7 x8 x9 : Option Value) (v : Int32) (t : eL) (st : List Value) (h : eH), ru 27 106 (x0 :: x1 :: x2 :: x3 :: x4 :: x5 :: x6 :: x7 :: x8 :: x9 :: some (.int v) :: t) st h = ru 27 108 (x0 :: x1 :: x2 :: x3 :: x4 :: x5 :: x6 :: x7 :: x8 :: x9 :: some (.int v) :: t) (.int v :: st) h) ∧
  (∀ (x0 x1 x2 x3 x4 x5 : Option Value) (v : Int32) (t : eL) (st : List Value) (h : eH), ru 27 108 (x0 :: x1 :: x2 :: x3 :: x4 :: x5 :: some (.int v) :: t) st h = ru 27 110 (x0 :: x1 :: x2 :: x3 :: x4 :: x5 :: some (.int v) :: t) (.int v :: st) h) ∧
  (∀ (x y : Int32) (ls : eL) (st : List Value) (h : eH), ru 27 110 ls (.int y :: .int x :: st) h = if x < y then ru 27 120 ls st h else ru 27 113 ls st h) ∧
  (∀ (x0 x1 x2 x3 x4 x5 x6 x7 : Option Value) (v : Int64) (t : eL) (st : List Value) (h : eH), ru 27 113 (x0 :: x1 :: x2 :: x3 :: x4 :: x5 :: x6 :: x7 :: some (.long v) :: t) st h = ru 27 115 (x0 :: x1 :: x2 :: x3 :: x4 :: x5 :: x6 :: x7 :: some (.long v) :: t) (.long v :: st) h) ∧
  (∀ (ls : eL) (st : List Value) (h : eH), ru 27 115 ls st h = ru 27 116 ls (.long (lN 0) :: st) h) ∧
  (∀ (x y : Int64) (ls : eL) (st : List Value) (h : eH), ru 27 116 ls (.long y :: .long x :: st) h = ru 27 117 ls (.int (lg_cmp x y) :: st) h) ∧
  (∀ (x : Int32) (ls : eL) (st : List Value) (h : eH), ru 27 117 ls (.int x :: st) h = if x ≤ 0 then ru 27 181 ls st h else ru 27 120 ls st h) ∧
  (∀ (v : Nat) (t : eL) (st : List Value) (h : eH), ru 27 120 (some (.ref v) :: t) st h = ru 27 121 (some (.ref v) :: t) (.ref v :: st) h) ∧
  (∀ (a : Nat) (ls : eL) (st : List Value) (h : eH), ru 27 121 ls (.ref a :: st) h = gF (h.1 a) 11 17 (fun v => ru 27 124 ls (v :: st) h)) ∧
  (∀ (x0 x1 x2 x3 x4 x5 x6 : Option Value) (v : Int32) (t : eL) (st : List Value) (h : eH), ru 27 124 (x0 :: x1 :: x2 :: x3 :: x4 :: x5 :: x6 :: some (.int v) :: t) st h = ru 27 126 (x0 :: x1 :: x2 :: x3 :: x4 :: x5 :: x6 :: some (.int v) :: t) (.int v :: st) h) ∧
  (∀ (x0 x1 x2 x3 x4 x5 x6 x7 x8 x9 : Option Value) (v : Int32) (t : eL) (st : List Value) (h : eH), ru 27 126 (x0 :: x1 :: x2 :: x3 :: x4 :: x5 :: x6 :: x7 :: x8 :: x9 :: some (.int v) :: t) st h = ru 27 128 (x0 :: x1 :: x2 :: x3 :: x4 :: x5 :: x6 :: x7 :: x8 :: x9 :: some (.int v) :: t) (.int v :: st) h) ∧
  (∀ (x y : Int32) (ls : eL) (st : List Value) (h : eH), ru 27 128 ls (.int y :: .int x :: st) h = ru 27 129 ls (.int (x + y) :: st) h) ∧
  (∀ (i : Int32) (a : Nat) (ls : eL) (st : List Value) (h : eH), ru 27 129 ls (.int i :: .ref a :: st) h = aL (h.1 a) i (fun v => ru 27 130 ls (.long v :: st) h)) ∧
  (∀ (v : Nat) (t : eL) (st : List Value) (h : eH), ru 27 130 (some (.ref v) :: t) st h = ru 27 131 (some (.ref v) :: t) (.ref v :: st) h) ∧
  (∀ (a : Nat) (ls : eL) (st : List Value) (h : eH), ru 27 131 ls (.ref a :: st) h = gF (h.1 a) 11 15 (fun v => ru 27 134 ls (v :: st) h)) ∧
  (∀ (x0 x1 x2 x3 x4 x5 x6 : Option Value) (v : Int32) (t : eL) (st : List Value) (h : eH), ru 27 134 (x0 :: x1 :: x2 :: x3 :: x4 :: x5 :: x6 :: some (.int v) :: t) st h = ru 27 136 (x0 :: x1 :: x2 :: x3 :: x4 :: x5 :: x6 :: some (.int v) :: t) (.int v :: st) h) ∧
  (∀ (i : Int32) (a : Nat) (ls : eL) (st : List Value) (h : eH), ru 27 136 ls (.int i :: .ref a :: st) h = aL (h.1 a) i (fun v => ru 27 137 ls (.long v :: st) h)) ∧
  (∀ (v : Nat) (t : eL) (st : List Value) (h : eH), ru 27 137 (some (.ref v) :: t) st h = ru 27 138 (some (.ref v) :: t) (.ref v :: st) h) ∧
  (∀ (a : Nat) (ls : eL) (st : List Value) (h : eH), ru 27 138 ls (.ref a :: st) h = gF (h.1 a) 11 16 (fun v => ru 27 141 ls (v :: st) h)) ∧
  (∀ (x0 x1 x2 x3 x4 x5 x6 x7 x8 x9 : Option Value) (v : Int32) (t : eL) (st : List Value) (h : eH), ru 27 141 (x0 :: x1 :: x2 :: x3 :: x4 :: x5 :: x6 :: x7 :: x8 :: x9 :: some (.int v) :: t) st h = ru 27 143 (x0 :: x1 :: x2 :: x3 :: x4 :: x5 :: x6 :: x7 :: x8 :: x9 :: some (.int v) :: t) (.int v :: st) h) ∧
  (∀ (i : Int32) (a : Nat) (ls : eL) (st : List Value) (h : eH), ru 27 143 ls (.int i :: .ref a :: st) h = aL (h.1 a) i (fun v => ru 27 144 ls (.long v :: st) h)) ∧
  (∀ (x y : Int64) (ls : eL) (st : List Value) (h : eH), ru 27 144 ls (.long y :: .long x :: st) h = ru 27 145 ls (.long (x * y) :: st) h) ∧
  (∀ (x y : Int64) (ls : eL) (st : List Value) (h : eH), ru 27 145 ls (.long y :: .long x :: st) h = ru 27 146 ls (.long (x + y) :: st) h) ∧
  (∀ (x0 x1 x2 x3 x4 x5 x6 x7 : Option Value) (v : Int64) (t : eL) (st : List Value) (h : eH), ru 27 146 (x0 :: x1 :: x2 :: x3 :: x4 :: x5 :: x6 :: x7 :: some (.long v) :: t) st h = ru 27 148 (x0 :: x1 :: x2 :: x3 :: x4 :: x5 :: x6 :: x7 :: some (.long v) :: t) (.long v :: st) h) ∧
  (∀ (x y : Int64) (ls : eL) (st : List Value) (h : eH), ru 27 148 ls (.long y :: .long x :: st) h = ru 27 149 ls (.long (x + y) :: st) h) ∧
  (∀ (x0 x1 x2 x3 x4 x5 x6 x7 x8 x9 x10 x11 x12 : Option Value) (v : Int64) (t : eL) (st : List Value) (h : eH), ru 27 149 (x0 :: x1 :: x2 :: x3 :: x4 :: x5 :: x6 :: x7 :: x8 :: x9 :: x10 :: x11 :: x12 :: t) (.long v :: st) h = ru 27 151 (x0 :: x1 :: x2 :: x3 :: x4 :: x5 :: x6 :: x7 :: x8 :: x9 :: eKl x10 :: some (.long v) :: none :: t) st h) ∧
  (∀ (v : Nat) (t : eL) (st : List Value) (h : eH), ru 27 151 (some (.ref v) :: t) st h = ru 27 152 (some (.ref v) :: t) (.ref v :: st) h) ∧
  (∀ (a : Nat) (ls : eL) (st : List Value) (h : eH), ru 27 152 ls (.ref a :: st) h = gF (h.1 a) 11 17 (fun v => ru 27 155 ls (v :: st) h)) ∧
  (∀ (x0 x1 x2 x3 x4 x5 x6 : Option Value) (v : Int32) (t : eL) (st : List Value) (h : eH), ru 27 155 (x0 :: x1 :: x2 :: x3 :: x4 :: x5 :: x6 :: some (.int v) :: t) st h = ru 27 157 (x0 :: x1 :: x2 :: x3 :: x4 :: x5 :: x6 :: some (.int v) :: t) (.int v :: st) h) ∧
  (∀ (x0 x1 x2 x3 x4 x5 x6 x7 x8 x9 : Option Value) (v : Int32) (t : eL) (st : List Value) (h : eH), ru 27 157 (x0 :: x1 :: x2 :: x3 :: x4 :: x5 :: x6 :: x7 :: x8 :: x9 :: some (.int v) :: t) st h = ru 27 159 (x0 :: x1 :: x2 :: x3 :: x4 :: x5 :: x6 :: x7 :: x8 :: x9 :: some (.int v) :: t) (.int v :: st) h) ∧
  (∀ (x y : Int32) (ls : eL) (st : List Value) (h : eH), ru 27 159 ls (.int y :: .int x :: st) h = ru 27 160 ls (.int (x + y) :: st) h) ∧
  (∀ (x0 x1 x2 x3 x4 x5 x6 x7 x8 x9 x10 : Option Value) (v : Int64) (t : eL) (st : List Value) (h : eH), ru 27 160 (x0 :: x1 :: x2 :: x3 :: x4 :: x5 :: x6 :: x7 :: x8 :: x9 :: x10 :: some (.long v) :: t) st h = ru 27 162 (x0 :: x1 :: x2 :: x3 :: x4 :: x5 :: x6 :: x7 :: x8 :: x9 :: x10 :: some (.long v) :: t) (.long v :: st) h) ∧
  (∀ (ls : eL) (st : List Value) (h : eH), ru 27 162 ls st h = ru 27 165 ls (.long (lN 1000000000) :: st) h) ∧
  (∀ (x y : Int64) (ls : eL) (st : List Value) (h : eH), ru 27 165 ls (.long y :: .long x :: st) h = if y = 0 then none else ru 27 166 ls (.long (x - x / y * y) :: st) h) ∧
  (∀ (x : Int64) (i : Int32) (a : Nat) (ls : eL) (st : List Value) (h : eH), ru 27 166 ls (.long x :: .int i :: .ref a :: st) h = wL (h.1 a) i x (fun e => ru 27 167 ls st (eUp h a e))) ∧
  (∀ (x0 x1 x2 x3 x4 x5 x6 x7 x8 x9 x10 : Option Value) (v : Int64) (t : eL) (st : List Value) (h : eH), ru 27 167 (x0 :: x1 :: x2 :: x3 :: x4 :: x5 :: x6 :: x7 :: x8 :: x9 :: x10 :: some (.long v) :: t) st h = ru 27 169 (x0 :: x1 :: x2 :: x3 :: x4 :: x5 :: x6 :: x7 :: x8 :: x9 :: x10 :: some (.long v) :: t) (.long v :: st) h) ∧
  (∀ (ls : eL) (st : List Value) (h : eH), ru 27 169 ls st h = ru 27 172 ls (.long (lN 1000000000) :: st) h) ∧
  (∀ (x y : Int64) (ls : eL) (st : List Value) (h : eH), ru 27 172 ls (.long y :: .long x :: st) h = if y = 0 then none else ru 27 173 ls (.long (x / y) :: st) h) ∧
  (∀ (x0 x1 x2 x3 x4 x5 x6 x7 x8 x9 : Option Value) (v : Int64) (t : eL) (st : List Value) (h : eH), ru 27 173 (x0 :: x1 :: x2 :: x3 :: x4 :: x5 :: x6 :: x7 :: x8 :: x9 :: t) (.long v :: st) h = ru 27 175 (x0 :: x1 :: x2 :: x3 :: x4 :: x5 :: x6 :: eKl x7 :: some (.long v) :: none :: t) st h) ∧
  (∀ (x0 x1 x2 x3 x4 x5 x6 x7 x8 x9 : Option Value) (v : Int32) (t : eL) (st : List Value) (h : eH), ru 27 175 (x0 :: x1 :: x2 :: x3 :: x4 :: x5 :: x6 :: x7 :: x8 :: x9 :: some (.int v) :: t) st h = ru 27 178 (x0 :: x1 :: x2 :: x3 :: x4 :: x5 :: x6 :: x7 :: x8 :: eKl x9 :: some (.int (v + 1)) :: t) st h) ∧
  (∀ (ls : eL) (st : List Value) (h : eH), ru 27 178 ls st h = ru 27 96 ls st h) ∧
  (∀ (ls : eL) (st : List Value) (h : eH), ru 27 184 ls st h = ru 27 83 ls st h) ∧
  (∀ (x0 x1 x2 x3 x4 x5 x6 x7 : Option Value) (v : Int32) (t : eL) (st : List Value) (h : eH), ru 27 188 (x0 :: x1 :: x2 :: x3 :: x4 :: x5 :: x6 :: x7 :: t) (.int v :: st) h = ru 27 190 (x0 :: x1 :: x2 :: x3 :: x4 :: x5 :: eKl x6 :: some (.int v) :: t) st h) ∧
  (∀ (ls : eL) (st : List Value) (h : eH), ru 27 192 ls st h = ru 27 194 ls (.int (nI 24) :: st) h) ∧
  (∀ (x y : Int32) (ls : eL) (st : List Value) (h : eH), ru 27 194 ls (.int y :: .int x :: st) h = if y ≤ x then ru 27 222 ls st h else ru 27 197 ls st h) ∧
  (∀ (v : Nat) (t : eL) (st : List Value) (h : eH), ru 27 197 (some (.ref v) :: t) st h = ru 27 198 (some (.ref v) :: t) (.ref v :: st) h) ∧
  (∀ (a : Nat) (ls : eL) (st : List Value) (h : eH), ru 27 198 ls (.ref a :: st) h = gF (h.1 a) 11 0 (fun v => ru 27 201 ls (v :: st) h)) ∧
  (∀ (ls : eL) (st : List Value) (h : eH), ru 27 201 ls st h = ru 27 203 ls (.int (nI 24) :: st) h) ∧
  (∀ (x0 : Option Value) (v : Int32) (t : eL) (st : List Value) (h : eH), ru 27 203 (x0 :: some (.int v) :: t) st h = ru 27 204 (x0 :: some (.int v) :: t) (.int v :: st) h) ∧
  (∀ (x y : Int32) (ls : eL) (st : List Value) (h : eH), ru 27 204 ls (.int y :: .int x :: st) h = ru 27 205 ls (.int (x * y) :: st) h) ∧
  (∀ (x0 x1 x2 x3 x4 x5 x6 : Option Value) (v : Int32) (t : eL) (st : List Value) (h : eH), ru 27 205 (x0 :: x1 :: x2 :: x3 :: x4 :: x5 :: x6 :: some (.int v) :: t) st h = ru 27 207 (x0 :: x1 :: x2 :: x3 :: x4 :: x5 :: x6 :: some (.int v) :: t) (.int v :: st) h) ∧
  (∀ (x y : Int32) (ls : eL) (st : List Value) (h : eH), ru 27 207 ls (.int y :: .int x :: st) h = ru 27 208 ls (.int (x + y) :: st) h) ∧
  (∀ (v : Nat) (t : eL) (st : List Value) (h : eH), ru 27 208 (some (.ref v) :: t) st h = ru 27 209 (some (.ref v) :: t) (.ref v :: st) h) ∧
  (∀ (a : Nat) (ls : eL) (st : List Value) (h : eH), ru 27 209 ls (.ref a :: st) h = gF (h.1 a) 11 17 (fun v => ru 27 212 ls (v :: st) h)) ∧
  (∀ (x0 x1 x2 x3 x4 x5 x6 : Option Value) (v : Int32) (t : eL) (st : List Value) (h : eH), ru 27 212 (x0 :: x1 :: x2 :: x3 :: x4 :: x5 :: x6 :: some (.int v) :: t) st h = ru 27 214 (x0 :: x1 :: x2 :: x3 :: x4 :: x5 :: x6 :: some (.int v) :: t) (.int v :: st) h) ∧
  (∀ (i : Int32) (a : Nat) (ls : eL) (st : List Value) (h : eH), ru 27 214 ls (.int i :: .ref a :: st) h = aL (h.1 a) i (fun v => ru 27 215 ls (.long v :: st) h)) ∧
  (∀ (x : Int64) (i : Int32) (a : Nat) (ls : eL) (st : List Value) (h : eH), ru 27 215 ls (.long x :: .int i :: .ref a :: st) h = wL (h.1 a) i x (fun e => ru 27 216 ls st (eUp h a e))) ∧
  (∀ (x0 x1 x2 x3 x4 x5 x6 : Option Value) (v : Int32) (t : eL) (st : List Value) (h : eH), ru 27 216 (x0 :: x1 :: x2 :: x3 :: x4 :: x5 :: x6 :: some (.int v) :: t) st h = ru 27 219 (x0 :: x1 :: x2 :: x3 :: x4 :: x5 :: eKl x6 :: some (.int (v + 1)) :: t) st h) ∧
  (∀ (ls : eL) (st : List Value) (h : eH), ru 27 219 ls st h = ru 27 190 ls st h) ∧
  (∀ (x : Int32) (ls : eL) (st : List Value) (h : eH), ru 27 224 ls (.int x :: st) h = if x = 0 then ru 27 232 ls st h else ru 27 227 ls st h) ∧
  (∀ (v : Nat) (t : eL) (st : List Value) (h : eH), ru 27 227 (some (.ref v) :: t) st h = ru 27 228 (some (.ref v) :: t) (.ref v :: st) h) ∧
  (∀ (x0 : Option Value) (v : Int32) (t : eL) (st : List Value) (h : eH), ru 27 228 (x0 :: some (.int v) :: t) st h = ru 27 229 (x0 :: some (.int v) :: t) (.int v :: st) h) ∧
  (∀ (a0 : Nat) (a1 : Int32) (ls : eL) (h : eH), ru 27 229 ls [.int a1, .ref a0] h = cl (den 18 [.ref a0, .int a1] h) (fun v h => ru 27 232 ls (v.toList ++ []) h)) ∧
  (∀ (ls : eL) (h : eH), ru 27 232 ls [] h = some (none, h)) := ⟨fun v t st h => ru_go rfl rfl,
  fun x0 x1 v t st h => ru_go rfl rfl,
  fun a0 a1 ls h => ru_inv rfl (by decide) rfl (Nat.le_of_ble_eq_true rfl),
  fun v t st h => ru_go rfl rfl,
  fun x0 x1 x2 v t st h => ru_go rfl rfl,
  fun a0 a1 u0 ls h => ru_inv rfl (by decide) rfl (Nat.le_of_ble_eq_true rfl),
  fun x y ls st h => ru_if rfl rfl,
  fun ls st h => ru_go rfl rfl,
  fun ls st h => ru_go rfl rfl,
  fun ls st h => ru_go rfl rfl,
  fun x0 x1 x2 x3 x4 v t st h => ru_go rfl rfl,
  fun v t st h => ru_go rfl rfl,
  fun x0 x1 v t st h => ru_go rfl rfl,
  fun v t st h => ru_go rfl rfl,
  fun a ls st h => ru_getf rfl,
  fun a0 a1 a2 ls h => ru_inv rfl (by decide) rfl (Nat.le_of_ble_eq_true rfl),
  fun v t st h => ru_go rfl rfl,
  fun x0 x1 x2 v t st h => ru_go rfl rfl,
  fun v t st h => ru_go rfl rfl,
  fun a ls st h => ru_getf rfl,
  fun a0 a1 a2 ls h => ru_inv rfl (by decide) rfl (Nat.le_of_ble_eq_true rfl),
  fun ls st h => ru_go rfl rfl,
  fun x0 x1 x2 x3 x4 x5 v t st h => ru_go rfl rfl,
  fun ls st h => ru_go rfl rfl,
  fun x y ls st h => ru_if rfl rfl,
  fun v t st h => ru_go rfl rfl,
  fun a ls st h => ru_getf rfl,
  fun x0 x1 x2 x3 x4 v t st h => ru_go rfl rfl,
  fun ls st h => ru_go rfl rfl,
  fun x i a ls st h => ru_last rfl,
  fun x0 x1 x2 x3 x4 v t st h => ru_go rfl rfl,
  fun ls st h => ru_go rfl rfl,
  fun a ls st h => ru_getf rfl,
  fun a0 ls h => ru_inv rfl (by decide) rfl (Nat.le_of_ble_eq_true rfl),
  fun x0 x1 x2 x3 x4 x5 v t st h => ru_go rfl rfl,
  fun v t st h => ru_go rfl rfl,
  fun a ls st h => ru_getf rfl,
  fun a0 ls h => ru_inv rfl (by decide) rfl (Nat.le_of_ble_eq_true rfl),
  fun x0 x1 x2 x3 x4 x5 x6 v t st h => ru_go rfl rfl,
  fun ls st h => ru_go rfl rfl,
  fun x0 x1 x2 x3 x4 x5 x6 x7 v t st h => ru_go rfl rfl,
  fun x0 x1 x2 x3 x4 v t st h => ru_go rfl rfl,
  fun x y ls st h => ru_if rfl rfl,
  fun ls st h => ru_go rfl rfl,
  fun x0 x1 x2 x3 x4 x5 x6 x7 x8 x9 v t st h => ru_go rfl rfl,
  fun ls st h => ru_go rfl rfl,
  fun x0 x1 x2 x3 x4 x5 x6 x7 x8 x9 x10 v t st h => ru_go rfl rfl,
  fun x0 x1 x2 x3 x4 x5 x6 x7 x8 x9 v t st h => ru_go rfl rfl,
  fun x y ls st h => ru_go rfl rfl,
  fun ls st h => ru_go rfl rfl,
  fun x y ls st h => ru_if rfl rfl,
  fun x0 x1 x2 x3 x4 x5 x6 x7 x8 x9 v t st h => ru_go rfl rfl,
  fun x0 x1 x2 x3 x4 x5 v t st h => ru_go rfl rfl,
  fun x y ls st h => ru_if rfl rfl,
  fun x0 x1 x2 x3 x4 x5 x6 x7 v t st h => ru_go rfl rfl,
  fun ls st h => ru_go rfl rfl,
  fun x y ls st h => ru_go rfl rfl,
  fun x ls st h => ru_if rfl rfl,
  fun v t st h => ru_go rfl rfl,
  fun a ls st h => ru_getf rfl,
  fun x0 x1 x2 x3 x4 x5 x6 v t st h => ru_go rfl rfl,
  fun x0 x1 x2 x3 x4 x5 x6 x7 x8 x9 v t st h => ru_go rfl rfl,
  fun x y ls st h => ru_go rfl rfl,
  fun i a ls st h => ru_lald rfl,
  fun v t st h => ru_go rfl rfl,
  fun a ls st h => ru_getf rfl,
  fun x0 x1 x2 x3 x4 x5 x6 v t st h => ru_go rfl rfl,
  fun i a ls st h => ru_lald rfl,
  fun v t st h => ru_go rfl rfl,
  fun a ls st h => ru_getf rfl,
  fun x0 x1 x2 x3 x4 x5 x6 x7 x8 x9 v t st h => ru_go rfl rfl,
  fun i a ls st h => ru_lald rfl,
  fun x y ls st h => ru_go rfl rfl,
  fun x y ls st h => ru_go rfl rfl,
  fun x0 x1 x2 x3 x4 x5 x6 x7 v t st h => ru_go rfl rfl,
  fun x y ls st h => ru_go rfl rfl,
  fun x0 x1 x2 x3 x4 x5 x6 x7 x8 x9 x10 x11 x12 v t st h => ru_go rfl rfl,
  fun v t st h => ru_go rfl rfl,
  fun a ls st h => ru_getf rfl,
  fun x0 x1 x2 x3 x4 x5 x6 v t st h => ru_go rfl rfl,
  fun x0 x1 x2 x3 x4 x5 x6 x7 x8 x9 v t st h => ru_go rfl rfl,
  fun x y ls st h => ru_go rfl rfl,
  fun x0 x1 x2 x3 x4 x5 x6 x7 x8 x9 x10 v t st h => ru_go rfl rfl,
  fun ls st h => ru_go rfl rfl,
  fun x y ls st h => ru_guard rfl rfl,
  fun x i a ls st h => ru_last rfl,
  fun x0 x1 x2 x3 x4 x5 x6 x7 x8 x9 x10 v t st h => ru_go rfl rfl,
  fun ls st h => ru_go rfl rfl,
  fun x y ls st h => ru_guard rfl rfl,
  fun x0 x1 x2 x3 x4 x5 x6 x7 x8 x9 v t st h => ru_go rfl rfl,
  fun x0 x1 x2 x3 x4 x5 x6 x7 x8 x9 v t st h => ru_go rfl rfl,
  fun ls st h => ru_go rfl rfl,
  fun ls st h => ru_go rfl rfl,
  fun x0 x1 x2 x3 x4 x5 x6 x7 v t st h => ru_go rfl rfl,
  fun ls st h => ru_go rfl rfl,
  fun x y ls st h => ru_if rfl rfl,
  fun v t st h => ru_go rfl rfl,
  fun a ls st h => ru_getf rfl,
  fun ls st h => ru_go rfl rfl,
  fun x0 v t st h => ru_go rfl rfl,
  fun x y ls st h => ru_go rfl rfl,
  fun x0 x1 x2 x3 x4 x5 x6 v t st h => ru_go rfl rfl,
  fun x y ls st h => ru_go rfl rfl,
  fun v t st h => ru_go rfl rfl,
  fun a ls st h => ru_getf rfl,
  fun x0 x1 x2 x3 x4 x5 x6 v t st h => ru_go rfl rfl,
  fun i a ls st h => ru_lald rfl,
  fun x i a ls st h => ru_last rfl,
  fun x0 x1 x2 x3 x4 x5 x6 v t st h => ru_go rfl rfl,
  fun ls st h => ru_go rfl rfl,
  fun x ls st h => ru_if rfl rfl,
  fun v t st h => ru_go rfl rfl,
  fun x0 v t st h => ru_go rfl rfl,
  fun a0 a1 ls h => ru_inv rfl (by decide) rfl (Nat.le_of_ble_eq_true rfl),
  fun ls h => ru_ret rfl rfl⟩
theorem E27 (a0 : Nat) (a1 : Int32) (a2 : Int32) (a3 : Int32) {h : eH} {fs : List Value} (ha : h.1 a0 = .inr (11, fs)) : den 27 [.ref a0, .int a1, .int a2, .int a3] h = ru 27 0 [some (.ref a0), some (.int a1), some (.int a2), some (.int a3), none, none, none, none, none, none, none, none, none] [] h := den_ob (Nat.le_of_ble_eq_true rfl) ha
/-! 28 X11_goesInto -/
set_option maxRecDepth 100000 in
theorem H28_6 : (∀ (x0 x1 x2 x3 x4 x5 x6 : Option Value) (v : Int32) (t : eL) (st : List Value) (h : eH), ru 28 6 (x0 :: x1 :: x2 :: x3 :: x4 :: x5 :: x6 :: some (.int v) :: t) st h = ru 28 8 (x0 :: x1 :: x2 :: x3 :: x4 :: x5 :: x6 :: some (.int v) :: t) (.int v :: st) h) := fun x0 x1 x2 x3 x4 x5 x6 v t st h => ru_go rfl rfl
set_option maxRecDepth 100000 in
theorem H28_70 : (∀ (x0 x1 x2 x3 x4 : Option Value) (v : Int64) (t : eL) (st : List Value) (h : eH), ru 28 70 (x0 :: x1 :: x2 :: x3 :: x4 :: some (.long v) :: t) st h = ru 28 72 (x0 :: x1 :: x2 :: x3 :: x4 :: some (.long v) :: t) (.long v :: st) h) := fun x0 x1 x2 x3 x4 v t st h => ru_go rfl rfl
set_option maxRecDepth 100000 in
theorem S28 : (∀ (ls : eL) (st : List Value) (h : eH), ru 28 0 ls st h = ru 28 1 ls (.long (lN 0) :: st) h) ∧
  (∀ (x0 x1 x2 x3 x4 x5 x6 : Option Value) (v : Int64) (t : eL) (st : List Value) (h : eH), ru 28 1 (x0 :: x1 :: x2 :: x3 :: x4 :: x5 :: x6 :: t) (.long v :: st) h = ru 28 3 (x0 :: x1 :: x2 :: x3 :: eKl x4 :: some (.long v) :: none :: t) st h) ∧
  (∀ (ls : eL) (st : List Value) (h : eH), ru 28 3 ls st h = ru 28 4 ls (.int (nI 0) :: st) h) ∧
  (∀ (x0 x1 x2 x3 x4 x5 x6 x7 : Option Value) (v : Int32) (t : eL) (st : List Value) (h : eH), ru 28 4 (x0 :: x1 :: x2 :: x3 :: x4 :: x5 :: x6 :: x7 :: t) (.int v :: st) h = ru 28 6 (x0 :: x1 :: x2 :: x3 :: x4 :: x5 :: eKl x6 :: some (.int v) :: t) st h) ∧
  (∀ (x0 x1 x2 : Option Value) (v : Int32) (t : eL) (st : List Value) (h : eH), ru 28 8 (x0 :: x1 :: x2 :: some (.int v) :: t) st h = ru 28 9 (x0 :: x1 :: x2 :: some (.int v) :: t) (.int v :: st) h) ∧
  (∀ (x y : Int32) (ls : eL) (st : List Value) (h : eH), ru 28 9 ls (.int y :: .int x :: st) h = ru 28 10 ls (.int (x + y) :: st) h) ∧
  (∀ (ls : eL) (st : List Value) (h : eH), ru 28 10 ls st h = ru 28 12 ls (.int (nI 24) :: st) h) ∧
  (∀ (x y : Int32) (ls : eL) (st : List Value) (h : eH), ru 28 12 ls (.int y :: .int x :: st) h = if y ≤ x then ru 28 70 ls st h else ru 28 15 ls st h) ∧
  (∀ (x0 x1 x2 x3 x4 x5 x6 : Option Value) (v : Int32) (t : eL) (st : List Value) (h : eH), ru 28 15 (x0 :: x1 :: x2 :: x3 :: x4 :: x5 :: x6 :: some (.int v) :: t) st h = ru 28 17 (x0 :: x1 :: x2 :: x3 :: x4 :: x5 :: x6 :: some (.int v) :: t) (.int v :: st) h) ∧
  (∀ (x0 x1 x2 x3 : Option Value) (v : Int32) (t : eL) (st : List Value) (h : eH), ru 28 17 (x0 :: x1 :: x2 :: x3 :: some (.int v) :: t) st h = ru 28 19 (x0 :: x1 :: x2 :: x3 :: some (.int v) :: t) (.int v :: st) h) ∧
  (∀ (x y : Int32) (ls : eL) (st : List Value) (h : eH), ru 28 19 ls (.int y :: .int x :: st) h = if x < y then ru 28 29 ls st h else ru 28 22 ls st h) ∧
  (∀ (x0 x1 x2 x3 x4 : Option Value) (v : Int64) (t : eL) (st : List Value) (h : eH), ru 28 22 (x0 :: x1 :: x2 :: x3 :: x4 :: some (.long v) :: t) st h = ru 28 24 (x0 :: x1 :: x2 :: x3 :: x4 :: some (.long v) :: t) (.long v :: st) h) ∧
  (∀ (ls : eL) (st : List Value) (h : eH), ru 28 24 ls st h = ru 28 25 ls (.long (lN 0) :: st) h) ∧
  (∀ (x y : Int64) (ls : eL) (st : List Value) (h : eH), ru 28 25 ls (.long y :: .long x :: st) h = ru 28 26 ls (.int (lg_cmp x y) :: st) h) ∧
  (∀ (x : Int32) (ls : eL) (st : List Value) (h : eH), ru 28 26 ls (.int x :: st) h = if x = 0 then ru 28 70 ls st h else ru 28 29 ls st h) ∧
  (∀ (v : Nat) (t : eL) (st : List Value) (h : eH), ru 28 29 (some (.ref v) :: t) st h = ru 28 30 (some (.ref v) :: t) (.ref v :: st) h) ∧
  (∀ (a : Nat) (ls : eL) (st : List Value) (h : eH), ru 28 30 ls (.ref a :: st) h = gF (h.1 a) 11 15 (fun v => ru 28 33 ls (v :: st) h)) ∧
  (∀ (x0 x1 x2 x3 x4 x5 x6 : Option Value) (v : Int32) (t : eL) (st : List Value) (h : eH), ru 28 33 (x0 :: x1 :: x2 :: x3 :: x4 :: x5 :: x6 :: some (.int v) :: t) st h = ru 28 35 (x0 :: x1 :: x2 :: x3 :: x4 :: x5 :: x6 :: some (.int v) :: t) (.int v :: st) h) ∧
  (∀ (x0 x1 x2 : Option Value) (v : Int32) (t : eL) (st : List Value) (h : eH), ru 28 35 (x0 :: x1 :: x2 :: some (.int v) :: t) st h = ru 28 36 (x0 :: x1 :: x2 :: some (.int v) :: t) (.int v :: st) h) ∧
  (∀ (x y : Int32) (ls : eL) (st : List Value) (h : eH), ru 28 36 ls (.int y :: .int x :: st) h = ru 28 37 ls (.int (x + y) :: st) h) ∧
  (∀ (i : Int32) (a : Nat) (ls : eL) (st : List Value) (h : eH), ru 28 37 ls (.int i :: .ref a :: st) h = aL (h.1 a) i (fun v => ru 28 38 ls (.long v :: st) h)) ∧
  (∀ (x0 : Option Value) (v : Int64) (t : eL) (st : List Value) (h : eH), ru 28 38 (x0 :: some (.long v) :: t) st h = ru 28 39 (x0 :: some (.long v) :: t) (.long v :: st) h) ∧
  (∀ (v : Nat) (t : eL) (st : List Value) (h : eH), ru 28 39 (some (.ref v) :: t) st h = ru 28 40 (some (.ref v) :: t) (.ref v :: st) h) ∧
  (∀ (a : Nat) (ls : eL) (st : List Value) (h : eH), ru 28 40 ls (.ref a :: st) h = gF (h.1 a) 11 16 (fun v => ru 28 43 ls (v :: st) h)) ∧
  (∀ (x0 x1 x2 x3 x4 x5 x6 : Option Value) (v : Int32) (t : eL) (st : List Value) (h : eH), ru 28 43 (x0 :: x1 :: x2 :: x3 :: x4 :: x5 :: x6 :: some (.int v) :: t) st h = ru 28 45 (x0 :: x1 :: x2 :: x3 :: x4 :: x5 :: x6 :: some (.int v) :: t) (.int v :: st) h) ∧
  (∀ (i : Int32) (a : Nat) (ls : eL) (st : List Value) (h : eH), ru 28 45 ls (.int i :: .ref a :: st) h = aL (h.1 a) i (fun v => ru 28 46 ls (.long v :: st) h)) ∧
  (∀ (x y : Int64) (ls : eL) (st : List Value) (h : eH), ru 28 46 ls (.long y :: .long x :: st) h = ru 28 47 ls (.long (x * y) :: st) h) ∧
  (∀ (x y : Int64) (ls : eL) (st : List Value) (h : eH), ru 28 47 ls (.long y :: .long x :: st) h = ru 28 48 ls (.long (x - y) :: st) h) ∧
  (∀ (x0 x1 x2 x3 x4 : Option Value) (v : Int64) (t : eL) (st : List Value) (h : eH), ru 28 48 (x0 :: x1 :: x2 :: x3 :: x4 :: some (.long v) :: t) st h = ru 28 50 (x0 :: x1 :: x2 :: x3 :: x4 :: some (.long v) :: t) (.long v :: st) h) ∧
  (∀ (x y : Int64) (ls : eL) (st : List Value) (h : eH), ru 28 50 ls (.long y :: .long x :: st) h = ru 28 51 ls (.long (x - y) :: st) h) ∧
  (∀ (x0 x1 x2 x3 x4 x5 x6 x7 x8 x9 : Option Value) (v : Int64) (t : eL) (st : List Value) (h : eH), ru 28 51 (x0 :: x1 :: x2 :: x3 :: x4 :: x5 :: x6 :: x7 :: x8 :: x9 :: t) (.long v :: st) h = ru 28 53 (x0 :: x1 :: x2 :: x3 :: x4 :: x5 :: x6 :: eKl x7 :: some (.long v) :: none :: t) st h) ∧
  (∀ (x0 x1 x2 x3 x4 x5 x6 x7 : Option Value) (v : Int64) (t : eL) (st : List Value) (h : eH), ru 28 53 (x0 :: x1 :: x2 :: x3 :: x4 :: x5 :: x6 :: x7 :: some (.long v) :: t) st h = ru 28 55 (x0 :: x1 :: x2 :: x3 :: x4 :: x5 :: x6 :: x7 :: some (.long v) :: t) (.long v :: st) h) ∧
  (∀ (ls : eL) (st : List Value) (h : eH), ru 28 55 ls st h = ru 28 58 ls (.long (lN 1000000000) :: st) h) ∧
  (∀ (a0 : Int64) (a1 : Int64) (ls : eL) (h : eH), ru 28 58 ls [.long a1, .long a0] h = cl (den 6 [.long a0, .long a1] h) (fun v h => ru 28 61 ls (v.toList ++ []) h)) ∧
  (∀ (x : Int64) (ls : eL) (st : List Value) (h : eH), ru 28 61 ls (.long x :: st) h = ru 28 62 ls (.long (-x) :: st) h) ∧
  (∀ (x0 x1 x2 x3 x4 x5 x6 : Option Value) (v : Int64) (t : eL) (st : List Value) (h : eH), ru 28 62 (x0 :: x1 :: x2 :: x3 :: x4 :: x5 :: x6 :: t) (.long v :: st) h = ru 28 64 (x0 :: x1 :: x2 :: x3 :: eKl x4 :: some (.long v) :: none :: t) st h) ∧
  (∀ (x0 x1 x2 x3 x4 x5 x6 : Option Value) (v : Int32) (t : eL) (st : List Value) (h : eH), ru 28 64 (x0 :: x1 :: x2 :: x3 :: x4 :: x5 :: x6 :: some (.int v) :: t) st h = ru 28 67 (x0 :: x1 :: x2 :: x3 :: x4 :: x5 :: eKl x6 :: some (.int (v + 1)) :: t) st h) ∧
  (∀ (ls : eL) (st : List Value) (h : eH), ru 28 67 ls st h = ru 28 6 ls st h) ∧
  (∀ (ls : eL) (st : List Value) (h : eH), ru 28 72 ls st h = ru 28 73 ls (.long (lN 0) :: st) h) ∧
  (∀ (x y : Int64) (ls : eL) (st : List Value) (h : eH), ru 28 73 ls (.long y :: .long x :: st) h = ru 28 74 ls (.int (lg_cmp x y) :: st) h) ∧
  (∀ (x : Int32) (ls : eL) (st : List Value) (h : eH), ru 28 74 ls (.int x :: st) h = if x = 0 then ru 28 77 ls st h else ru 28 81 ls st h) ∧
  (∀ (ls : eL) (st : List Value) (h : eH), ru 28 77 ls st h = ru 28 78 ls (.int (nI 1) :: st) h) ∧
  (∀ (ls : eL) (st : List Value) (h : eH), ru 28 78 ls st h = ru 28 82 ls st h) ∧
  (∀ (ls : eL) (st : List Value) (h : eH), ru 28 81 ls st h = ru 28 82 ls (.int (nI 0) :: st) h) ∧
  (∀ (x : Int32) (ls : eL) (h : eH), ru 28 82 ls [.int x] h = bo (x == 0 || x == 1) (some (some (.int x), h))) := ⟨fun ls st h => ru_go rfl rfl,
  fun x0 x1 x2 x3 x4 x5 x6 v t st h => ru_go rfl rfl,
  fun ls st h => ru_go rfl rfl,
  fun x0 x1 x2 x3 x4 x5 x6 x7 v t st h => ru_go rfl rfl,
  fun x0 x1 x2 v t st h => ru_go rfl rfl,
  fun x y ls st h => ru_go rfl rfl,
  fun ls st h => ru_go rfl rfl,
  fun x y ls st h => ru_if rfl rfl,
  fun x0 x1 x2 x3 x4 x5 x6 v t st h => ru_go rfl rfl,
  fun x0 x1 x2 x3 v t st h => ru_go rfl rfl,
  fun x y ls st h => ru_if rfl rfl,
  fun x0 x1 x2 x3 x4 v t st h => ru_go rfl rfl,
  fun ls st h => ru_go rfl rfl,
  fun x y ls st h => ru_go rfl rfl,
  fun x ls st h => ru_if rfl rfl,
  fun v t st h => ru_go rfl rfl,
  fun a ls st h => ru_getf rfl,
  fun x0 x1 x2 x3 x4 x5 x6 v t st h => ru_go rfl rfl,
  fun x0 x1 x2 v t st h => ru_go rfl rfl,
  fun x y ls st h => ru_go rfl rfl,
  fun i a ls st h => ru_lald rfl,
  fun x0 v t st h => ru_go rfl rfl,
  fun v t st h => ru_go rfl rfl,
  fun a ls st h => ru_getf rfl,
  fun x0 x1 x2 x3 x4 x5 x6 v t st h => ru_go rfl rfl,
  fun i a ls st h => ru_lald rfl,
  fun x y ls st h => ru_go rfl rfl,
  fun x y ls st h => ru_go rfl rfl,
  fun x0 x1 x2 x3 x4 v t st h => ru_go rfl rfl,
  fun x y ls st h => ru_go rfl rfl,
  fun x0 x1 x2 x3 x4 x5 x6 x7 x8 x9 v t st h => ru_go rfl rfl,
  fun x0 x1 x2 x3 x4 x5 x6 x7 v t st h => ru_go rfl rfl,
  fun ls st h => ru_go rfl rfl,
  fun a0 a1 ls h => ru_inv rfl (by decide) rfl (Nat.le_of_ble_eq_true rfl),
  fun x ls st h => ru_go rfl rfl,
  fun x0 x1 x2 x3 x4 x5 x6 v t st h => ru_go rfl rfl,
  fun x0 x1 x2 x3 x4 x5 x6 v t st h => ru_go rfl rfl,
  fun ls st h => ru_go rfl rfl,
  fun ls st h => ru_go rfl rfl,
  fun x y ls st h => ru_go rfl rfl,
  fun x ls st h => ru_if rfl rfl,
  fun ls st h => ru_go rfl rfl,
  fun ls st h => ru_go rfl rfl,
  fun ls st h => ru_go rfl rfl,
  fun x ls h => ru_bret rfl rfl⟩
theorem E28 (a0 : Nat) (a1 : Int64) (a2 : Int32) (a3 : Int32) {h : eH} {fs : List Value} (ha : h.1 a0 = .inr (11, fs)) : den 28 [.ref a0, .long a1, .int a2, .int a3] h = ru 28 0 [some (.ref a0), some (.long a1), none, some (.int a2), some (.int a3), none, none, none, none, none] [] h := den_ob (Nat.le_of_ble_eq_true rfl) ha
/-! 29 X11_parts -/
set_option maxRecDepth 100000 in
theorem H29_66 : (∀ (x0 x1 x2 x3 x4 x5 : Option Value) (v : Int32) (t : eL) (st : List Value) (h : eH), ru 29 66 (x0 :: x1 :: x2 :: x3 :: x4 :: x5 :: some (.int v) :: t) st h = ru 29 68 (x0 :: x1 :: x2 :: x3 :: x4 :: x5 :: some (.int v) :: t) (.int v :: st) h) := fun x0 x1 x2 x3 x4 x5 v t st h => ru_go rfl rfl
set_option maxRecDepth 100000 in
theorem H29_87 : (∀ (x0 x1 x2 x3 x4 : Option Value) (v : Int32) (t : eL) (st : List Value) (h : eH), ru 29 87 (x0 :: x1 :: x2 :: x3 :: x4 :: some (.int v) :: t) st h = ru 29 89 (x0 :: x1 :: x2 :: x3 :: x4 :: some (.int v) :: t) (.int v :: st) h) := fun x0 x1 x2 x3 x4 v t st h => ru_go rfl rfl
set_option maxRecDepth 100000 in
theorem H29_94 : (∀ (x0 x1 x2 x3 x4 x5 : Option Value) (v : Int32) (t : eL) (st : List Value) (h : eH), ru 29 94 (x0 :: x1 :: x2 :: x3 :: x4 :: x5 :: some (.int v) :: t) st h = ru 29 96 (x0 :: x1 :: x2 :: x3 :: x4 :: x5 :: some (.int v) :: t) (.int v :: st) h) := fun x0 x1 x2 x3 x4 x5 v t st h => ru_go rfl rfl
set_option maxRecDepth 100000 in
theorem H29_107 : (∀ (x0 x1 x2 x3 x4 x5 x6 : Option Value) (v : Int64) (t : eL) (st : List Value) (h : eH), ru 29 107 (x0 :: x1 :: x2 :: x3 :: x4 :: x5 :: x6 :: some (.long v) :: t) st h = ru 29 109 (x0 :: x1 :: x2 :: x3 :: x4 :: x5 :: x6 :: some (.long v) :: t) (.long v :: st) h) := fun x0 x1 x2 x3 x4 x5 x6 v t st h => ru_go rfl rfl
set_option maxRecDepth 100000 in
theorem H29_157 : (∀ (v : Nat) (t : eL) (st : List Value) (h : eH), ru 29 157 (some (.ref v) :: t) st h = ru 29 158 (some (.ref v) :: t) (.ref v :: st) h) := fun v t st h => ru_go rfl rfl
set_option maxRecDepth 100000 in
theorem H29_172 : (∀ (x0 x1 x2 x3 x4 x5 x6 x7 x8 x9 x10 x11 x12 : Option Value) (v : Int32) (t : eL) (st : List Value) (h : eH), ru 29 172 (x0 :: x1 :: x2 :: x3 :: x4 :: x5 :: x6 :: x7 :: x8 :: x9 :: x10 :: x11 :: x12 :: some (.int v) :: t) st h = ru 29 174 (x0 :: x1 :: x2 :: x3 :: x4 :: x5 :: x6 :: x7 :: x8 :: x9 :: x10 :: x11 :: x12 :: some (.int v) :: t) (.int v :: st) h) := fun x0 x1 x2 x3 x4 x5 x6 x7 x8 x9 x10 x11 x12 v t st h => ru_go rfl rfl
set_option maxRecDepth 100000 in
theorem H29_257 : (∀ (x0 x1 x2 x3 x4 x5 : Option Value) (v : Int32) (t : eL) (st : List Value) (h : eH), ru 29 257 (x0 :: x1 :: x2 :: x3 :: x4 :: x5 :: some (.int v) :: t) st h = ru 29 260 (x0 :: x1 :: x2 :: x3 :: x4 :: eKl x5 :: some (.int (v + (-1))) :: t) st h) := fun x0 x1 x2 x3 x4 x5 v t st h => ru_go rfl rfl
set_option maxRecDepth 100000 in
theorem H29_263 : (∀ (ls : eL) (st : List Value) (h : eH), ru 29 263 ls st h = ru 29 264 ls (.int (nI 0) :: st) h) := fun ls st h => ru_go rfl rfl
set_option maxRecDepth 100000 in
theorem H29_266 : (∀ (x0 x1 x2 x3 x4 x5 : Option Value) (v : Int32) (t : eL) (st : List Value) (h : eH), ru 29 266 (x0 :: x1 :: x2 :: x3 :: x4 :: x5 :: some (.int v) :: t) st h = ru 29 268 (x0 :: x1 :: x2 :: x3 :: x4 :: x5 :: some (.int v) :: t) (.int v :: st) h) := fun x0 x1 x2 x3 x4 x5 v t st h => ru_go rfl rfl
set_option maxRecDepth 100000 in
theorem H29_298 : (∀ (x0 x1 x2 : Option Value) (v : Int32) (t : eL) (st : List Value) (h : eH), ru 29 298 (x0 :: x1 :: x2 :: some (.int v) :: t) st h = ru 29 299 (x0 :: x1 :: x2 :: some (.int v) :: t) (.int v :: st) h) := fun x0 x1 x2 v t st h => ru_go rfl rfl
set_option maxRecDepth 100000 in
theorem S29 : (∀ (v : Nat) (t : eL) (st : List Value) (h : eH), ru 29 0 (some (.ref v) :: t) st h = ru 29 1 (some (.ref v) :: t) (.ref v :: st) h) ∧
  (∀ (x0 : Option Value) (v : Int32) (t : eL) (st : List Value) (h : eH), ru 29 1 (x0 :: some (.int v) :: t) st h = ru 29 2 (x0 :: some (.int v) :: t) (.int v :: st) h) ∧
  (∀ (a0 : Nat) (a1 : Int32) (ls : eL) (h : eH), ru 29 2 ls [.int a1, .ref a0] h = cl (den 17 [.ref a0, .int a1] h) (fun v h => ru 29 5 ls (v.toList ++ []) h)) ∧
  (∀ (v : Nat) (t : eL) (st : List Value) (h : eH), ru 29 5 (some (.ref v) :: t) st h = ru 29 6 (some (.ref v) :: t) (.ref v :: st) h) ∧
  (∀ (x0 x1 : Option Value) (v : Int32) (t : eL) (st : List Value) (h : eH), ru 29 6 (x0 :: x1 :: some (.int v) :: t) st h = ru 29 7 (x0 :: x1 :: some (.int v) :: t) (.int v :: st) h) ∧
  (∀ (a0 : Nat) (a1 : Int32) (u0 : Int32) (ls : eL) (h : eH), ru 29 7 ls [.int a1, .ref a0, .int u0] h = cl (den 17 [.ref a0, .int a1] h) (fun v h => ru 29 10 ls (v.toList ++ [.int u0]) h)) ∧
  (∀ (x y : Int32) (ls : eL) (st : List Value) (h : eH), ru 29 10 ls (.int y :: .int x :: st) h = if x = y then ru 29 25 ls st h else ru 29 13 ls st h) ∧
  (∀ (v : Nat) (t : eL) (st : List Value) (h : eH), ru 29 13 (some (.ref v) :: t) st h = ru 29 14 (some (.ref v) :: t) (.ref v :: st) h) ∧
  (∀ (x0 : Option Value) (v : Int32) (t : eL) (st : List Value) (h : eH), ru 29 14 (x0 :: some (.int v) :: t) st h = ru 29 15 (x0 :: some (.int v) :: t) (.int v :: st) h) ∧
  (∀ (a0 : Nat) (a1 : Int32) (ls : eL) (h : eH), ru 29 15 ls [.int a1, .ref a0] h = cl (den 25 [.ref a0, .int a1] h) (fun v h => ru 29 18 ls (v.toList ++ []) h)) ∧
  (∀ (x : Int32) (ls : eL) (st : List Value) (h : eH), ru 29 18 ls (.int x :: st) h = if x = 0 then ru 29 21 ls st h else ru 29 25 ls st h) ∧
  (∀ (ls : eL) (st : List Value) (h : eH), ru 29 21 ls st h = ru 29 22 ls (.int (nI 1) :: st) h) ∧
  (∀ (ls : eL) (st : List Value) (h : eH), ru 29 22 ls st h = ru 29 26 ls st h) ∧
  (∀ (ls : eL) (st : List Value) (h : eH), ru 29 25 ls st h = ru 29 26 ls (.int (nI 0) :: st) h) ∧
  (∀ (x0 x1 x2 x3 : Option Value) (v : Int32) (t : eL) (st : List Value) (h : eH), ru 29 26 (x0 :: x1 :: x2 :: x3 :: t) (.int v :: st) h = ru 29 27 (x0 :: x1 :: eKl x2 :: some (.int v) :: t) st h) ∧
  (∀ (v : Nat) (t : eL) (st : List Value) (h : eH), ru 29 27 (some (.ref v) :: t) st h = ru 29 28 (some (.ref v) :: t) (.ref v :: st) h) ∧
  (∀ (x0 : Option Value) (v : Int32) (t : eL) (st : List Value) (h : eH), ru 29 28 (x0 :: some (.int v) :: t) st h = ru 29 29 (x0 :: some (.int v) :: t) (.int v :: st) h) ∧
  (∀ (v : Nat) (t : eL) (st : List Value) (h : eH), ru 29 29 (some (.ref v) :: t) st h = ru 29 30 (some (.ref v) :: t) (.ref v :: st) h) ∧
  (∀ (a : Nat) (ls : eL) (st : List Value) (h : eH), ru 29 30 ls (.ref a :: st) h = gF (h.1 a) 11 15 (fun v => ru 29 33 ls (v :: st) h)) ∧
  (∀ (a0 : Nat) (a1 : Int32) (a2 : Nat) (ls : eL) (h : eH), ru 29 33 ls [.ref a2, .int a1, .ref a0] h = cl (den 19 [.ref a0, .int a1, .ref a2] h) (fun v h => ru 29 36 ls (v.toList ++ []) h)) ∧
  (∀ (v : Nat) (t : eL) (st : List Value) (h : eH), ru 29 36 (some (.ref v) :: t) st h = ru 29 37 (some (.ref v) :: t) (.ref v :: st) h) ∧
  (∀ (x0 x1 : Option Value) (v : Int32) (t : eL) (st : List Value) (h : eH), ru 29 37 (x0 :: x1 :: some (.int v) :: t) st h = ru 29 38 (x0 :: x1 :: some (.int v) :: t) (.int v :: st) h) ∧
  (∀ (v : Nat) (t : eL) (st : List Value) (h : eH), ru 29 38 (some (.ref v) :: t) st h = ru 29 39 (some (.ref v) :: t) (.ref v :: st) h) ∧
  (∀ (a : Nat) (ls : eL) (st : List Value) (h : eH), ru 29 39 ls (.ref a :: st) h = gF (h.1 a) 11 16 (fun v => ru 29 42 ls (v :: st) h)) ∧
  (∀ (a0 : Nat) (a1 : Int32) (a2 : Nat) (ls : eL) (h : eH), ru 29 42 ls [.ref a2, .int a1, .ref a0] h = cl (den 19 [.ref a0, .int a1, .ref a2] h) (fun v h => ru 29 45 ls (v.toList ++ []) h)) ∧
  (∀ (v : Nat) (t : eL) (st : List Value) (h : eH), ru 29 45 (some (.ref v) :: t) st h = ru 29 46 (some (.ref v) :: t) (.ref v :: st) h) ∧
  (∀ (a : Nat) (ls : eL) (st : List Value) (h : eH), ru 29 46 ls (.ref a :: st) h = gF (h.1 a) 11 16 (fun v => ru 29 49 ls (v :: st) h)) ∧
  (∀ (a0 : Nat) (ls : eL) (h : eH), ru 29 49 ls [.ref a0] h = cl (den 26 [.ref a0] h) (fun v h => ru 29 52 ls (v.toList ++ []) h)) ∧
  (∀ (x0 x1 x2 x3 x4 : Option Value) (v : Int32) (t : eL) (st : List Value) (h : eH), ru 29 52 (x0 :: x1 :: x2 :: x3 :: x4 :: t) (.int v :: st) h = ru 29 54 (x0 :: x1 :: x2 :: eKl x3 :: some (.int v) :: t) st h) ∧
  (∀ (v : Nat) (t : eL) (st : List Value) (h : eH), ru 29 54 (some (.ref v) :: t) st h = ru 29 55 (some (.ref v) :: t) (.ref v :: st) h) ∧
  (∀ (a : Nat) (ls : eL) (st : List Value) (h : eH), ru 29 55 ls (.ref a :: st) h = gF (h.1 a) 11 15 (fun v => ru 29 58 ls (v :: st) h)) ∧
  (∀ (a0 : Nat) (ls : eL) (h : eH), ru 29 58 ls [.ref a0] h = cl (den 26 [.ref a0] h) (fun v h => ru 29 61 ls (v.toList ++ []) h)) ∧
  (∀ (x0 x1 x2 x3 x4 x5 : Option Value) (v : Int32) (t : eL) (st : List Value) (h : eH), ru 29 61 (x0 :: x1 :: x2 :: x3 :: x4 :: x5 :: t) (.int v :: st) h = ru 29 63 (x0 :: x1 :: x2 :: x3 :: eKl x4 :: some (.int v) :: t) st h) ∧
  (∀ (ls : eL) (st : List Value) (h : eH), ru 29 63 ls st h = ru 29 64 ls (.int (nI 0) :: st) h) ∧
  (∀ (x0 x1 x2 x3 x4 x5 x6 : Option Value) (v : Int32) (t : eL) (st : List Value) (h : eH), ru 29 64 (x0 :: x1 :: x2 :: x3 :: x4 :: x5 :: x6 :: t) (.int v :: st) h = ru 29 66 (x0 :: x1 :: x2 :: x3 :: x4 :: eKl x5 :: some (.int v) :: t) st h) ∧
  (∀ (ls : eL) (st : List Value) (h : eH), ru 29 68 ls st h = ru 29 70 ls (.int (nI 24) :: st) h) ∧
  (∀ (x y : Int32) (ls : eL) (st : List Value) (h : eH), ru 29 70 ls (.int y :: .int x :: st) h = if y ≤ x then ru 29 87 ls st h else ru 29 73 ls st h) ∧
  (∀ (v : Nat) (t : eL) (st : List Value) (h : eH), ru 29 73 (some (.ref v) :: t) st h = ru 29 74 (some (.ref v) :: t) (.ref v :: st) h) ∧
  (∀ (a : Nat) (ls : eL) (st : List Value) (h : eH), ru 29 74 ls (.ref a :: st) h = gF (h.1 a) 11 17 (fun v => ru 29 77 ls (v :: st) h)) ∧
  (∀ (x0 x1 x2 x3 x4 x5 : Option Value) (v : Int32) (t : eL) (st : List Value) (h : eH), ru 29 77 (x0 :: x1 :: x2 :: x3 :: x4 :: x5 :: some (.int v) :: t) st h = ru 29 79 (x0 :: x1 :: x2 :: x3 :: x4 :: x5 :: some (.int v) :: t) (.int v :: st) h) ∧
  (∀ (ls : eL) (st : List Value) (h : eH), ru 29 79 ls st h = ru 29 80 ls (.long (lN 0) :: st) h) ∧
  (∀ (x : Int64) (i : Int32) (a : Nat) (ls : eL) (st : List Value) (h : eH), ru 29 80 ls (.long x :: .int i :: .ref a :: st) h = wL (h.1 a) i x (fun e => ru 29 81 ls st (eUp h a e))) ∧
  (∀ (x0 x1 x2 x3 x4 x5 : Option Value) (v : Int32) (t : eL) (st : List Value) (h : eH), ru 29 81 (x0 :: x1 :: x2 :: x3 :: x4 :: x5 :: some (.int v) :: t) st h = ru 29 84 (x0 :: x1 :: x2 :: x3 :: x4 :: eKl x5 :: some (.int (v + 1)) :: t) st h) ∧
  (∀ (ls : eL) (st : List Value) (h : eH), ru 29 84 ls st h = ru 29 66 ls st h) ∧
  (∀ (x0 x1 x2 x3 : Option Value) (v : Int32) (t : eL) (st : List Value) (h : eH), ru 29 89 (x0 :: x1 :: x2 :: x3 :: some (.int v) :: t) st h = ru 29 91 (x0 :: x1 :: x2 :: x3 :: some (.int v) :: t) (.int v :: st) h) ∧
  (∀ (x y : Int32) (ls : eL) (st : List Value) (h : eH), ru 29 91 ls (.int y :: .int x :: st) h = ru 29 92 ls (.int (x - y) :: st) h) ∧
  (∀ (x0 x1 x2 x3 x4 x5 x6 : Option Value) (v : Int32) (t : eL) (st : List Value) (h : eH), ru 29 92 (x0 :: x1 :: x2 :: x3 :: x4 :: x5 :: x6 :: t) (.int v :: st) h = ru 29 94 (x0 :: x1 :: x2 :: x3 :: x4 :: eKl x5 :: some (.int v) :: t) st h) ∧
  (∀ (x : Int32) (ls : eL) (st : List Value) (h : eH), ru 29 96 ls (.int x :: st) h = if x < 0 then ru 29 263 ls st h else ru 29 99 ls st h) ∧
  (∀ (ls : eL) (st : List Value) (h : eH), ru 29 99 ls st h = ru 29 100 ls (.long (lN 0) :: st) h) ∧
  (∀ (x0 x1 x2 x3 x4 x5 x6 x7 x8 : Option Value) (v : Int64) (t : eL) (st : List Value) (h : eH), ru 29 100 (x0 :: x1 :: x2 :: x3 :: x4 :: x5 :: x6 :: x7 :: x8 :: t) (.long v :: st) h = ru 29 102 (x0 :: x1 :: x2 :: x3 :: x4 :: x5 :: eKl x6 :: some (.long v) :: none :: t) st h) ∧
  (∀ (ls : eL) (st : List Value) (h : eH), ru 29 102 ls st h = ru 29 105 ls (.long (lN 999999999) :: st) h) ∧
  (∀ (x0 x1 x2 x3 x4 x5 x6 x7 x8 x9 x10 : Option Value) (v : Int64) (t : eL) (st : List Value) (h : eH), ru 29 105 (x0 :: x1 :: x2 :: x3 :: x4 :: x5 :: x6 :: x7 :: x8 :: x9 :: x10 :: t) (.long v :: st) h = ru 29 107 (x0 :: x1 :: x2 :: x3 :: x4 :: x5 :: x6 :: x7 :: eKl x8 :: some (.long v) :: none :: t) st h) ∧
  (∀ (x0 x1 x2 x3 x4 x5 x6 x7 x8 : Option Value) (v : Int64) (t : eL) (st : List Value) (h : eH), ru 29 109 (x0 :: x1 :: x2 :: x3 :: x4 :: x5 :: x6 :: x7 :: x8 :: some (.long v) :: t) st h = ru 29 111 (x0 :: x1 :: x2 :: x3 :: x4 :: x5 :: x6 :: x7 :: x8 :: some (.long v) :: t) (.long v :: st) h) ∧
  (∀ (x y : Int64) (ls : eL) (st : List Value) (h : eH), ru 29 111 ls (.long y :: .long x :: st) h = ru 29 112 ls (.int (lg_cmp x y) :: st) h) ∧
  (∀ (x : Int32) (ls : eL) (st : List Value) (h : eH), ru 29 112 ls (.int x :: st) h = if 0 ≤ x then ru 29 157 ls st h else ru 29 115 ls st h) ∧
  (∀ (x0 x1 x2 x3 x4 x5 x6 : Option Value) (v : Int64) (t : eL) (st : List Value) (h : eH), ru 29 115 (x0 :: x1 :: x2 :: x3 :: x4 :: x5 :: x6 :: some (.long v) :: t) st h = ru 29 117 (x0 :: x1 :: x2 :: x3 :: x4 :: x5 :: x6 :: some (.long v) :: t) (.long v :: st) h) ∧
  (∀ (x0 x1 x2 x3 x4 x5 x6 x7 x8 : Option Value) (v : Int64) (t : eL) (st : List Value) (h : eH), ru 29 117 (x0 :: x1 :: x2 :: x3 :: x4 :: x5 :: x6 :: x7 :: x8 :: some (.long v) :: t) st h = ru 29 119 (x0 :: x1 :: x2 :: x3 :: x4 :: x5 :: x6 :: x7 :: x8 :: some (.long v) :: t) (.long v :: st) h) ∧
  (∀ (x y : Int64) (ls : eL) (st : List Value) (h : eH), ru 29 119 ls (.long y :: .long x :: st) h = ru 29 120 ls (.long (x + y) :: st) h) ∧
  (∀ (ls : eL) (st : List Value) (h : eH), ru 29 120 ls st h = ru 29 121 ls (.long (lN 1) :: st) h) ∧
  (∀ (x y : Int64) (ls : eL) (st : List Value) (h : eH), ru 29 121 ls (.long y :: .long x :: st) h = ru 29 122 ls (.long (x + y) :: st) h) ∧
  (∀ (ls : eL) (st : List Value) (h : eH), ru 29 122 ls st h = ru 29 125 ls (.long (lN 2) :: st) h) ∧
  (∀ (x y : Int64) (ls : eL) (st : List Value) (h : eH), ru 29 125 ls (.long y :: .long x :: st) h = if y = 0 then none else ru 29 126 ls (.long (x / y) :: st) h) ∧
  (∀ (x0 x1 x2 x3 x4 x5 x6 x7 x8 x9 x10 x11 x12 : Option Value) (v : Int64) (t : eL) (st : List Value) (h : eH), ru 29 126 (x0 :: x1 :: x2 :: x3 :: x4 :: x5 :: x6 :: x7 :: x8 :: x9 :: x10 :: x11 :: x12 :: t) (.long v :: st) h = ru 29 128 (x0 :: x1 :: x2 :: x3 :: x4 :: x5 :: x6 :: x7 :: x8 :: x9 :: eKl x10 :: some (.long v) :: none :: t) st h) ∧
  (∀ (v : Nat) (t : eL) (st : List Value) (h : eH), ru 29 128 (some (.ref v) :: t) st h = ru 29 129 (some (.ref v) :: t) (.ref v :: st) h) ∧
  (∀ (x0 x1 x2 x3 x4 x5 x6 x7 x8 x9 x10 : Option Value) (v : Int64) (t : eL) (st : List Value) (h : eH), ru 29 129 (x0 :: x1 :: x2 :: x3 :: x4 :: x5 :: x6 :: x7 :: x8 :: x9 :: x10 :: some (.long v) :: t) st h = ru 29 131 (x0 :: x1 :: x2 :: x3 :: x4 :: x5 :: x6 :: x7 :: x8 :: x9 :: x10 :: some (.long v) :: t) (.long v :: st) h) ∧
  (∀ (x0 x1 x2 x3 x4 x5 : Option Value) (v : Int32) (t : eL) (st : List Value) (h : eH), ru 29 131 (x0 :: x1 :: x2 :: x3 :: x4 :: x5 :: some (.int v) :: t) st h = ru 29 133 (x0 :: x1 :: x2 :: x3 :: x4 :: x5 :: some (.int v) :: t) (.int v :: st) h) ∧
  (∀ (x0 x1 x2 x3 : Option Value) (v : Int32) (t : eL) (st : List Value) (h : eH), ru 29 133 (x0 :: x1 :: x2 :: x3 :: some (.int v) :: t) st h = ru 29 135 (x0 :: x1 :: x2 :: x3 :: some (.int v) :: t) (.int v :: st) h) ∧
  (∀ (a0 : Nat) (a1 : Int64) (a2 : Int32) (a3 : Int32) (ls : eL) (h : eH), ru 29 135 ls [.int a3, .int a2, .long a1, .ref a0] h = cl (den 28 [.ref a0, .long a1, .int a2, .int a3] h) (fun v h => ru 29 138 ls (v.toList ++ []) h)) ∧
  (∀ (x : Int32) (ls : eL) (st : List Value) (h : eH), ru 29 138 ls (.int x :: st) h = if x = 0 then ru 29 148 ls st h else ru 29 141 ls st h) ∧
  (∀ (x0 x1 x2 x3 x4 x5 x6 x7 x8 x9 x10 : Option Value) (v : Int64) (t : eL) (st : List Value) (h : eH), ru 29 141 (x0 :: x1 :: x2 :: x3 :: x4 :: x5 :: x6 :: x7 :: x8 :: x9 :: x10 :: some (.long v) :: t) st h = ru 29 143 (x0 :: x1 :: x2 :: x3 :: x4 :: x5 :: x6 :: x7 :: x8 :: x9 :: x10 :: some (.long v) :: t) (.long v :: st) h) ∧
  (∀ (x0 x1 x2 x3 x4 x5 x6 x7 x8 : Option Value) (v : Int64) (t : eL) (st : List Value) (h : eH), ru 29 143 (x0 :: x1 :: x2 :: x3 :: x4 :: x5 :: x6 :: x7 :: x8 :: t) (.long v :: st) h = ru 29 145 (x0 :: x1 :: x2 :: x3 :: x4 :: x5 :: eKl x6 :: some (.long v) :: none :: t) st h) ∧
  (∀ (ls : eL) (st : List Value) (h : eH), ru 29 145 ls st h = ru 29 154 ls st h) ∧
  (∀ (x0 x1 x2 x3 x4 x5 x6 x7 x8 x9 x10 : Option Value) (v : Int64) (t : eL) (st : List Value) (h : eH), ru 29 148 (x0 :: x1 :: x2 :: x3 :: x4 :: x5 :: x6 :: x7 :: x8 :: x9 :: x10 :: some (.long v) :: t) st h = ru 29 150 (x0 :: x1 :: x2 :: x3 :: x4 :: x5 :: x6 :: x7 :: x8 :: x9 :: x10 :: some (.long v) :: t) (.long v :: st) h) ∧
  (∀ (ls : eL) (st : List Value) (h : eH), ru 29 150 ls st h = ru 29 151 ls (.long (lN 1) :: st) h) ∧
  (∀ (x y : Int64) (ls : eL) (st : List Value) (h : eH), ru 29 151 ls (.long y :: .long x :: st) h = ru 29 152 ls (.long (x - y) :: st) h) ∧
  (∀ (x0 x1 x2 x3 x4 x5 x6 x7 x8 x9 x10 : Option Value) (v : Int64) (t : eL) (st : List Value) (h : eH), ru 29 152 (x0 :: x1 :: x2 :: x3 :: x4 :: x5 :: x6 :: x7 :: x8 :: x9 :: x10 :: t) (.long v :: st) h = ru 29 154 (x0 :: x1 :: x2 :: x3 :: x4 :: x5 :: x6 :: x7 :: eKl x8 :: some (.long v) :: none :: t) st h) ∧
  (∀ (ls : eL) (st : List Value) (h : eH), ru 29 154 ls st h = ru 29 107 ls st h) ∧
  (∀ (a : Nat) (ls : eL) (st : List Value) (h : eH), ru 29 158 ls (.ref a :: st) h = gF (h.1 a) 11 17 (fun v => ru 29 161 ls (v :: st) h)) ∧
  (∀ (x0 x1 x2 x3 x4 x5 : Option Value) (v : Int32) (t : eL) (st : List Value) (h : eH), ru 29 161 (x0 :: x1 :: x2 :: x3 :: x4 :: x5 :: some (.int v) :: t) st h = ru 29 163 (x0 :: x1 :: x2 :: x3 :: x4 :: x5 :: some (.int v) :: t) (.int v :: st) h) ∧
  (∀ (x0 x1 x2 x3 x4 x5 x6 : Option Value) (v : Int64) (t : eL) (st : List Value) (h : eH), ru 29 163 (x0 :: x1 :: x2 :: x3 :: x4 :: x5 :: x6 :: some (.long v) :: t) st h = ru 29 165 (x0 :: x1 :: x2 :: x3 :: x4 :: x5 :: x6 :: some (.long v) :: t) (.long v :: st) h) ∧
  (∀ (x : Int64) (i : Int32) (a : Nat) (ls : eL) (st : List Value) (h : eH), ru 29 165 ls (.long x :: .int i :: .ref a :: st) h = wL (h.1 a) i x (fun e => ru 29 166 ls st (eUp h a e))) ∧
  (∀ (ls : eL) (st : List Value) (h : eH), ru 29 166 ls st h = ru 29 167 ls (.long (lN 0) :: st) h) ∧
  (∀ (x0 x1 x2 x3 x4 x5 x6 x7 x8 x9 x10 x11 x12 : Option Value) (v : Int64) (t : eL) (st : List Value) (h : eH), ru 29 167 (x0 :: x1 :: x2 :: x3 :: x4 :: x5 :: x6 :: x7 :: x8 :: x9 :: x10 :: x11 :: x12 :: t) (.long v :: st) h = ru 29 169 (x0 :: x1 :: x2 :: x3 :: x4 :: x5 :: x6 :: x7 :: x8 :: x9 :: eKl x10 :: some (.long v) :: none :: t) st h) ∧
  (∀ (ls : eL) (st : List Value) (h : eH), ru 29 169 ls st h = ru 29 170 ls (.int (nI 0) :: st) h) ∧
  (∀ (x0 x1 x2 x3 x4 x5 x6 x7 x8 x9 x10 x11 x12 x13 : Option Value) (v : Int32) (t : eL) (st : List Value) (h : eH), ru 29 170 (x0 :: x1 :: x2 :: x3 :: x4 :: x5 :: x6 :: x7 :: x8 :: x9 :: x10 :: x11 :: x12 :: x13 :: t) (.int v :: st) h = ru 29 172 (x0 :: x1 :: x2 :: x3 :: x4 :: x5 :: x6 :: x7 :: x8 :: x9 :: x10 :: x11 :: eKl x12 :: some (.int v) :: t) st h) ∧
  (∀ (x0 x1 x2 x3 x4 x5 : Option Value) (v : Int32) (t : eL) (st : List Value) (h : eH), ru 29 174 (x0 :: x1 :: x2 :: x3 :: x4 :: x5 :: some (.int v) :: t) st h = ru 29 176 (x0 :: x1 :: x2 :: x3 :: x4 :: x5 :: some (.int v) :: t) (.int v :: st) h) ∧
  (∀ (x y : Int32) (ls : eL) (st : List Value) (h : eH), ru 29 176 ls (.int y :: .int x :: st) h = ru 29 177 ls (.int (x + y) :: st) h) ∧
  (∀ (ls : eL) (st : List Value) (h : eH), ru 29 177 ls st h = ru 29 179 ls (.int (nI 24) :: st) h) ∧
  (∀ (x y : Int32) (ls : eL) (st : List Value) (h : eH), ru 29 179 ls (.int y :: .int x :: st) h = if y ≤ x then ru 29 257 ls st h else ru 29 182 ls st h) ∧
  (∀ (x0 x1 x2 x3 x4 x5 x6 x7 x8 x9 x10 x11 x12 : Option Value) (v : Int32) (t : eL) (st : List Value) (h : eH), ru 29 182 (x0 :: x1 :: x2 :: x3 :: x4 :: x5 :: x6 :: x7 :: x8 :: x9 :: x10 :: x11 :: x12 :: some (.int v) :: t) st h = ru 29 184 (x0 :: x1 :: x2 :: x3 :: x4 :: x5 :: x6 :: x7 :: x8 :: x9 :: x10 :: x11 :: x12 :: some (.int v) :: t) (.int v :: st) h) ∧
  (∀ (x0 x1 x2 x3 : Option Value) (v : Int32) (t : eL) (st : List Value) (h : eH), ru 29 184 (x0 :: x1 :: x2 :: x3 :: some (.int v) :: t) st h = ru 29 186 (x0 :: x1 :: x2 :: x3 :: some (.int v) :: t) (.int v :: st) h) ∧
  (∀ (x y : Int32) (ls : eL) (st : List Value) (h : eH), ru 29 186 ls (.int y :: .int x :: st) h = if x < y then ru 29 196 ls st h else ru 29 189 ls st h) ∧
  (∀ (x0 x1 x2 x3 x4 x5 x6 x7 x8 x9 x10 : Option Value) (v : Int64) (t : eL) (st : List Value) (h : eH), ru 29 189 (x0 :: x1 :: x2 :: x3 :: x4 :: x5 :: x6 :: x7 :: x8 :: x9 :: x10 :: some (.long v) :: t) st h = ru 29 191 (x0 :: x1 :: x2 :: x3 :: x4 :: x5 :: x6 :: x7 :: x8 :: x9 :: x10 :: some (.long v) :: t) (.long v :: st) h) ∧
  (∀ (ls : eL) (st : List Value) (h : eH), ru 29 191 ls st h = ru 29 192 ls (.long (lN 0) :: st) h) ∧
  (∀ (x y : Int64) (ls : eL) (st : List Value) (h : eH), ru 29 192 ls (.long y :: .long x :: st) h = ru 29 193 ls (.int (lg_cmp x y) :: st) h) ∧
  (∀ (x : Int32) (ls : eL) (st : List Value) (h : eH), ru 29 193 ls (.int x :: st) h = if x = 0 then ru 29 257 ls st h else ru 29 196 ls st h) ∧
  (∀ (v : Nat) (t : eL) (st : List Value) (h : eH), ru 29 196 (some (.ref v) :: t) st h = ru 29 197 (some (.ref v) :: t) (.ref v :: st) h) ∧
  (∀ (a : Nat) (ls : eL) (st : List Value) (h : eH), ru 29 197 ls (.ref a :: st) h = gF (h.1 a) 11 15 (fun v => ru 29 200 ls (v :: st) h)) ∧
  (∀ (x0 x1 x2 x3 x4 x5 x6 x7 x8 x9 x10 x11 x12 : Option Value) (v : Int32) (t : eL) (st : List Value) (h : eH), ru 29 200 (x0 :: x1 :: x2 :: x3 :: x4 :: x5 :: x6 :: x7 :: x8 :: x9 :: x10 :: x11 :: x12 :: some (.int v) :: t) st h = ru 29 202 (x0 :: x1 :: x2 :: x3 :: x4 :: x5 :: x6 :: x7 :: x8 :: x9 :: x10 :: x11 :: x12 :: some (.int v) :: t) (.int v :: st) h) ∧
  (∀ (x0 x1 x2 x3 x4 x5 : Option Value) (v : Int32) (t : eL) (st : List Value) (h : eH), ru 29 202 (x0 :: x1 :: x2 :: x3 :: x4 :: x5 :: some (.int v) :: t) st h = ru 29 204 (x0 :: x1 :: x2 :: x3 :: x4 :: x5 :: some (.int v) :: t) (.int v :: st) h) ∧
  (∀ (x y : Int32) (ls : eL) (st : List Value) (h : eH), ru 29 204 ls (.int y :: .int x :: st) h = ru 29 205 ls (.int (x + y) :: st) h) ∧
  (∀ (i : Int32) (a : Nat) (ls : eL) (st : List Value) (h : eH), ru 29 205 ls (.int i :: .ref a :: st) h = aL (h.1 a) i (fun v => ru 29 206 ls (.long v :: st) h)) ∧
  (∀ (x0 x1 x2 x3 x4 x5 x6 : Option Value) (v : Int64) (t : eL) (st : List Value) (h : eH), ru 29 206 (x0 :: x1 :: x2 :: x3 :: x4 :: x5 :: x6 :: some (.long v) :: t) st h = ru 29 208 (x0 :: x1 :: x2 :: x3 :: x4 :: x5 :: x6 :: some (.long v) :: t) (.long v :: st) h) ∧
  (∀ (v : Nat) (t : eL) (st : List Value) (h : eH), ru 29 208 (some (.ref v) :: t) st h = ru 29 209 (some (.ref v) :: t) (.ref v :: st) h) ∧
  (∀ (a : Nat) (ls : eL) (st : List Value) (h : eH), ru 29 209 ls (.ref a :: st) h = gF (h.1 a) 11 16 (fun v => ru 29 212 ls (v :: st) h)) ∧
  (∀ (x0 x1 x2 x3 x4 x5 x6 x7 x8 x9 x10 x11 x12 : Option Value) (v : Int32) (t : eL) (st : List Value) (h : eH), ru 29 212 (x0 :: x1 :: x2 :: x3 :: x4 :: x5 :: x6 :: x7 :: x8 :: x9 :: x10 :: x11 :: x12 :: some (.int v) :: t) st h = ru 29 214 (x0 :: x1 :: x2 :: x3 :: x4 :: x5 :: x6 :: x7 :: x8 :: x9 :: x10 :: x11 :: x12 :: some (.int v) :: t) (.int v :: st) h) ∧
  (∀ (i : Int32) (a : Nat) (ls : eL) (st : List Value) (h : eH), ru 29 214 ls (.int i :: .ref a :: st) h = aL (h.1 a) i (fun v => ru 29 215 ls (.long v :: st) h)) ∧
  (∀ (x y : Int64) (ls : eL) (st : List Value) (h : eH), ru 29 215 ls (.long y :: .long x :: st) h = ru 29 216 ls (.long (x * y) :: st) h) ∧
  (∀ (x y : Int64) (ls : eL) (st : List Value) (h : eH), ru 29 216 ls (.long y :: .long x :: st) h = ru 29 217 ls (.long (x - y) :: st) h) ∧
  (∀ (x0 x1 x2 x3 x4 x5 x6 x7 x8 x9 x10 : Option Value) (v : Int64) (t : eL) (st : List Value) (h : eH), ru 29 217 (x0 :: x1 :: x2 :: x3 :: x4 :: x5 :: x6 :: x7 :: x8 :: x9 :: x10 :: some (.long v) :: t) st h = ru 29 219 (x0 :: x1 :: x2 :: x3 :: x4 :: x5 :: x6 :: x7 :: x8 :: x9 :: x10 :: some (.long v) :: t) (.long v :: st) h) ∧
  (∀ (x y : Int64) (ls : eL) (st : List Value) (h : eH), ru 29 219 ls (.long y :: .long x :: st) h = ru 29 220 ls (.long (x - y) :: st) h) ∧
  (∀ (x0 x1 x2 x3 x4 x5 x6 x7 x8 x9 x10 x11 x12 x13 x14 x15 : Option Value) (v : Int64) (t : eL) (st : List Value) (h : eH), ru 29 220 (x0 :: x1 :: x2 :: x3 :: x4 :: x5 :: x6 :: x7 :: x8 :: x9 :: x10 :: x11 :: x12 :: x13 :: x14 :: x15 :: t) (.long v :: st) h = ru 29 222 (x0 :: x1 :: x2 :: x3 :: x4 :: x5 :: x6 :: x7 :: x8 :: x9 :: x10 :: x11 :: x12 :: eKl x13 :: some (.long v) :: none :: t) st h) ∧
  (∀ (x0 x1 x2 x3 x4 x5 x6 x7 x8 x9 x10 x11 x12 x13 : Option Value) (v : Int64) (t : eL) (st : List Value) (h : eH), ru 29 222 (x0 :: x1 :: x2 :: x3 :: x4 :: x5 :: x6 :: x7 :: x8 :: x9 :: x10 :: x11 :: x12 :: x13 :: some (.long v) :: t) st h = ru 29 224 (x0 :: x1 :: x2 :: x3 :: x4 :: x5 :: x6 :: x7 :: x8 :: x9 :: x10 :: x11 :: x12 :: x13 :: some (.long v) :: t) (.long v :: st) h) ∧
  (∀ (ls : eL) (st : List Value) (h : eH), ru 29 224 ls st h = ru 29 227 ls (.long (lN 1000000000) :: st) h) ∧
  (∀ (a0 : Int64) (a1 : Int64) (ls : eL) (h : eH), ru 29 227 ls [.long a1, .long a0] h = cl (den 6 [.long a0, .long a1] h) (fun v h => ru 29 230 ls (v.toList ++ []) h)) ∧
  (∀ (x : Int64) (ls : eL) (st : List Value) (h : eH), ru 29 230 ls (.long x :: st) h = ru 29 231 ls (.long (-x) :: st) h) ∧
  (∀ (x0 x1 x2 x3 x4 x5 x6 x7 x8 x9 x10 x11 x12 : Option Value) (v : Int64) (t : eL) (st : List Value) (h : eH), ru 29 231 (x0 :: x1 :: x2 :: x3 :: x4 :: x5 :: x6 :: x7 :: x8 :: x9 :: x10 :: x11 :: x12 :: t) (.long v :: st) h = ru 29 233 (x0 :: x1 :: x2 :: x3 :: x4 :: x5 :: x6 :: x7 :: x8 :: x9 :: eKl x10 :: some (.long v) :: none :: t) st h) ∧
  (∀ (v : Nat) (t : eL) (st : List Value) (h : eH), ru 29 233 (some (.ref v) :: t) st h = ru 29 234 (some (.ref v) :: t) (.ref v :: st) h) ∧
  (∀ (a : Nat) (ls : eL) (st : List Value) (h : eH), ru 29 234 ls (.ref a :: st) h = gF (h.1 a) 11 15 (fun v => ru 29 237 ls (v :: st) h)) ∧
  (∀ (x0 x1 x2 x3 x4 x5 x6 x7 x8 x9 x10 x11 x12 : Option Value) (v : Int32) (t : eL) (st : List Value) (h : eH), ru 29 237 (x0 :: x1 :: x2 :: x3 :: x4 :: x5 :: x6 :: x7 :: x8 :: x9 :: x10 :: x11 :: x12 :: some (.int v) :: t) st h = ru 29 239 (x0 :: x1 :: x2 :: x3 :: x4 :: x5 :: x6 :: x7 :: x8 :: x9 :: x10 :: x11 :: x12 :: some (.int v) :: t) (.int v :: st) h) ∧
  (∀ (x0 x1 x2 x3 x4 x5 : Option Value) (v : Int32) (t : eL) (st : List Value) (h : eH), ru 29 239 (x0 :: x1 :: x2 :: x3 :: x4 :: x5 :: some (.int v) :: t) st h = ru 29 241 (x0 :: x1 :: x2 :: x3 :: x4 :: x5 :: some (.int v) :: t) (.int v :: st) h) ∧
  (∀ (x y : Int32) (ls : eL) (st : List Value) (h : eH), ru 29 241 ls (.int y :: .int x :: st) h = ru 29 242 ls (.int (x + y) :: st) h) ∧
  (∀ (x0 x1 x2 x3 x4 x5 x6 x7 x8 x9 x10 x11 x12 x13 : Option Value) (v : Int64) (t : eL) (st : List Value) (h : eH), ru 29 242 (x0 :: x1 :: x2 :: x3 :: x4 :: x5 :: x6 :: x7 :: x8 :: x9 :: x10 :: x11 :: x12 :: x13 :: some (.long v) :: t) st h = ru 29 244 (x0 :: x1 :: x2 :: x3 :: x4 :: x5 :: x6 :: x7 :: x8 :: x9 :: x10 :: x11 :: x12 :: x13 :: some (.long v) :: t) (.long v :: st) h) ∧
  (∀ (ls : eL) (st : List Value) (h : eH), ru 29 244 ls st h = ru 29 247 ls (.long (lN 1000000000) :: st) h) ∧
  (∀ (a0 : Int64) (a1 : Int64) (u0 : Int32) (u1 : Nat) (ls : eL) (h : eH), ru 29 247 ls [.long a1, .long a0, .int u0, .ref u1] h = cl (den 7 [.long a0, .long a1] h) (fun v h => ru 29 250 ls (v.toList ++ [.int u0, .ref u1]) h)) ∧
  (∀ (x : Int64) (i : Int32) (a : Nat) (ls : eL) (st : List Value) (h : eH), ru 29 250 ls (.long x :: .int i :: .ref a :: st) h = wL (h.1 a) i x (fun e => ru 29 251 ls st (eUp h a e))) ∧
  (∀ (x0 x1 x2 x3 x4 x5 x6 x7 x8 x9 x10 x11 x12 : Option Value) (v : Int32) (t : eL) (st : List Value) (h : eH), ru 29 251 (x0 :: x1 :: x2 :: x3 :: x4 :: x5 :: x6 :: x7 :: x8 :: x9 :: x10 :: x11 :: x12 :: some (.int v) :: t) st h = ru 29 254 (x0 :: x1 :: x2 :: x3 :: x4 :: x5 :: x6 :: x7 :: x8 :: x9 :: x10 :: x11 :: eKl x12 :: some (.int (v + 1)) :: t) st h) ∧
  (∀ (ls : eL) (st : List Value) (h : eH), ru 29 254 ls st h = ru 29 172 ls st h) ∧
  (∀ (ls : eL) (st : List Value) (h : eH), ru 29 260 ls st h = ru 29 94 ls st h) ∧
  (∀ (x0 x1 x2 x3 x4 x5 x6 : Option Value) (v : Int32) (t : eL) (st : List Value) (h : eH), ru 29 264 (x0 :: x1 :: x2 :: x3 :: x4 :: x5 :: x6 :: t) (.int v :: st) h = ru 29 266 (x0 :: x1 :: x2 :: x3 :: x4 :: eKl x5 :: some (.int v) :: t) st h) ∧
  (∀ (ls : eL) (st : List Value) (h : eH), ru 29 268 ls st h = ru 29 270 ls (.int (nI 24) :: st) h) ∧
  (∀ (x y : Int32) (ls : eL) (st : List Value) (h : eH), ru 29 270 ls (.int y :: .int x :: st) h = if y ≤ x then ru 29 298 ls st h else ru 29 273 ls st h) ∧
  (∀ (v : Nat) (t : eL) (st : List Value) (h : eH), ru 29 273 (some (.ref v) :: t) st h = ru 29 274 (some (.ref v) :: t) (.ref v :: st) h) ∧
  (∀ (a : Nat) (ls : eL) (st : List Value) (h : eH), ru 29 274 ls (.ref a :: st) h = gF (h.1 a) 11 0 (fun v => ru 29 277 ls (v :: st) h)) ∧
  (∀ (ls : eL) (st : List Value) (h : eH), ru 29 277 ls st h = ru 29 279 ls (.int (nI 24) :: st) h) ∧
  (∀ (x0 : Option Value) (v : Int32) (t : eL) (st : List Value) (h : eH), ru 29 279 (x0 :: some (.int v) :: t) st h = ru 29 280 (x0 :: some (.int v) :: t) (.int v :: st) h) ∧
  (∀ (x y : Int32) (ls : eL) (st : List Value) (h : eH), ru 29 280 ls (.int y :: .int x :: st) h = ru 29 281 ls (.int (x * y) :: st) h) ∧
  (∀ (x0 x1 x2 x3 x4 x5 : Option Value) (v : Int32) (t : eL) (st : List Value) (h : eH), ru 29 281 (x0 :: x1 :: x2 :: x3 :: x4 :: x5 :: some (.int v) :: t) st h = ru 29 283 (x0 :: x1 :: x2 :: x3 :: x4 :: x5 :: some (.int v) :: t) (.int v :: st) h) ∧
  (∀ (x y : Int32) (ls : eL) (st : List Value) (h : eH), ru 29 283 ls (.int y :: .int x :: st) h = ru 29 284 ls (.int (x + y) :: st) h) ∧
  (∀ (v : Nat) (t : eL) (st : List Value) (h : eH), ru 29 284 (some (.ref v) :: t) st h = ru 29 285 (some (.ref v) :: t) (.ref v :: st) h) ∧
  (∀ (a : Nat) (ls : eL) (st : List Value) (h : eH), ru 29 285 ls (.ref a :: st) h = gF (h.1 a) 11 17 (fun v => ru 29 288 ls (v :: st) h)) ∧
  (∀ (x0 x1 x2 x3 x4 x5 : Option Value) (v : Int32) (t : eL) (st : List Value) (h : eH), ru 29 288 (x0 :: x1 :: x2 :: x3 :: x4 :: x5 :: some (.int v) :: t) st h = ru 29 290 (x0 :: x1 :: x2 :: x3 :: x4 :: x5 :: some (.int v) :: t) (.int v :: st) h) ∧
  (∀ (i : Int32) (a : Nat) (ls : eL) (st : List Value) (h : eH), ru 29 290 ls (.int i :: .ref a :: st) h = aL (h.1 a) i (fun v => ru 29 291 ls (.long v :: st) h)) ∧
  (∀ (x : Int64) (i : Int32) (a : Nat) (ls : eL) (st : List Value) (h : eH), ru 29 291 ls (.long x :: .int i :: .ref a :: st) h = wL (h.1 a) i x (fun e => ru 29 292 ls st (eUp h a e))) ∧
  (∀ (x0 x1 x2 x3 x4 x5 : Option Value) (v : Int32) (t : eL) (st : List Value) (h : eH), ru 29 292 (x0 :: x1 :: x2 :: x3 :: x4 :: x5 :: some (.int v) :: t) st h = ru 29 295 (x0 :: x1 :: x2 :: x3 :: x4 :: eKl x5 :: some (.int (v + 1)) :: t) st h) ∧
  (∀ (ls : eL) (st : List Value) (h : eH), ru 29 295 ls st h = ru 29 266 ls st h) ∧
  (∀ (x : Int32) (ls : eL) (st : List Value) (h : eH), ru 29 299 ls (.int x :: st) h = if x = 0 then ru 29 307 ls st h else ru 29 302 ls st h) ∧
  (∀ (v : Nat) (t : eL) (st : List Value) (h : eH), ru 29 302 (some (.ref v) :: t) st h = ru 29 303 (some (.ref v) :: t) (.ref v :: st) h) ∧
  (∀ (x0 : Option Value) (v : Int32) (t : eL) (st : List Value) (h : eH), ru 29 303 (x0 :: some (.int v) :: t) st h = ru 29 304 (x0 :: some (.int v) :: t) (.int v :: st) h) ∧
  (∀ (a0 : Nat) (a1 : Int32) (ls : eL) (h : eH), ru 29 304 ls [.int a1, .ref a0] h = cl (den 18 [.ref a0, .int a1] h) (fun v h => ru 29 307 ls (v.toList ++ []) h)) ∧
  (∀ (ls : eL) (h : eH), ru 29 307 ls [] h = some (none, h)) := ⟨fun v t st h => ru_go rfl rfl,
  fun x0 v t st h => ru_go rfl rfl,
  fun a0 a1 ls h => ru_inv rfl (by decide) rfl (Nat.le_of_ble_eq_true rfl),
  fun v t st h => ru_go rfl rfl,
  fun x0 x1 v t st h => ru_go rfl rfl,
  fun a0 a1 u0 ls h => ru_inv rfl (by decide) rfl (Nat.le_of_ble_eq_true rfl),
  fun x y ls st h => ru_if rfl rfl,
  fun v t st h => ru_go rfl rfl,
  fun x0 v t st h => ru_go rfl rfl,
  fun a0 a1 ls h => ru_inv rfl (by decide) rfl (Nat.le_of_ble_eq_true rfl),
  fun x ls st h => ru_if rfl rfl,
  fun ls st h => ru_go rfl rfl,
  fun ls st h => ru_go rfl rfl,
  fun ls st h => ru_go rfl rfl,
  fun x0 x1 x2 x3 v t st h => ru_go rfl rfl,
  fun v t st h => ru_go rfl rfl,
  fun x0 v t st h => ru_go rfl rfl,
  fun v t st h => ru_go rfl rfl,
  fun a ls st h => ru_getf rfl,
  fun a0 a1 a2 ls h => ru_inv rfl (by decide) rfl (Nat.le_of_ble_eq_true rfl),
  fun v t st h => ru_go rfl rfl,
  fun x0 x1 v t st h => ru_go rfl rfl,
  fun v t st h => ru_go rfl rfl,
  fun a ls st h => ru_getf rfl,
  fun a0 a1 a2 ls h => ru_inv rfl (by decide) rfl (Nat.le_of_ble_eq_true rfl),
  fun v t st h => ru_go rfl rfl,
  fun a ls st h => ru_getf rfl,
  fun a0 ls h => ru_inv rfl (by decide) rfl (Nat.le_of_ble_eq_true rfl),
  fun x0 x1 x2 x3 x4 v t st h => ru_go rfl rfl,
  fun v t st h => ru_go rfl rfl,
  fun a ls st h => ru_getf rfl,
  fun a0 ls h => ru_inv rfl (by decide) rfl (Nat.le_of_ble_eq_true rfl),
  fun x0 x1 x2 x3 x4 x5 v t st h => ru_go rfl rfl,
  fun ls st h => ru_go rfl rfl,
  fun x0 x1 x2 x3 x4 x5 x6 v t st h => ru_go rfl rfl,
  fun ls st h => ru_go rfl rfl,
  fun x y ls st h => ru_if rfl rfl,
  fun v t st h => ru_go rfl rfl,
  fun a ls st h => ru_getf rfl,
  fun x0 x1 x2 x3 x4 x5 v t st h => ru_go rfl rfl,
  fun ls st h => ru_go rfl rfl,
  fun x i a ls st h => ru_last rfl,
  fun x0 x1 x2 x3 x4 x5 v t st h => ru_go rfl rfl,
  fun ls st h => ru_go rfl rfl,
  fun x0 x1 x2 x3 v t st h => ru_go rfl rfl,
  fun x y ls st h => ru_go rfl rfl,
  fun x0 x1 x2 x3 x4 x5 x6 v t st h => ru_go rfl rfl,
  fun x ls st h => ru_if rfl rfl,
  fun ls st h => ru_go rfl rfl,
  fun x0 x1 x2 x3 x4 x5 x6 x7 x8 v t st h => ru_go rfl rfl,
  fun ls st h => ru_go rfl rfl,
  fun x0 x1 x2 x3 x4 x5 x6 x7 x8 x9 x10 v t st h => ru_go rfl rfl,
  fun x0 x1 x2 x3 x4 x5 x6 x7 x8 v t st h => ru_go rfl rfl,
  fun x y ls st h => ru_go rfl rfl,
  fun x ls st h => ru_if rfl rfl,
  fun x0 x1 x2 x3 x4 x5 x6 v t st h => ru_go rfl rfl,
  fun x0 x1 x2 x3 x4 x5 x6 x7 x8 v t st h => ru_go rfl rfl,
  fun x y ls st h => ru_go rfl rfl,
  fun ls st h => ru_go rfl rfl,
  fun x y ls st h => ru_go rfl rfl,
  fun ls st h => ru_go rfl rfl,
  fun x y ls st h => ru_guard rfl rfl,
  fun x0 x1 x2 x3 x4 x5 x6 x7 x8 x9 x10 x11 x12 v t st h => ru_go rfl rfl,
  fun v t st h => ru_go rfl rfl,
  fun x0 x1 x2 x3 x4 x5 x6 x7 x8 x9 x10 v t st h => ru_go rfl rfl,
  fun x0 x1 x2 x3 x4 x5 v t st h => ru_go rfl rfl,
  fun x0 x1 x2 x3 v t st h => ru_go rfl rfl,
  fun a0 a1 a2 a3 ls h => ru_inv rfl (by decide) rfl (Nat.le_of_ble_eq_true rfl),
  fun x ls st h => ru_if rfl rfl,
  fun x0 x1 x2 x3 x4 x5 x6 x7 x8 x9 x10 v t st h => ru_go rfl rfl,
  fun x0 x1 x2 x3 x4 x5 x6 x7 x8 v t st h => ru_go rfl rfl,
  fun ls st h => ru_go rfl rfl,
  fun x0 x1 x2 x3 x4 x5 x6 x7 x8 x9 x10 v t st h => ru_go rfl rfl,
  fun ls st h => ru_go rfl rfl,
  fun x y ls st h => ru_go rfl rfl,
  fun x0 x1 x2 x3 x4 x5 x6 x7 x8 x9 x10 v t st h => ru_go rfl rfl,
  fun ls st h => ru_go rfl rfl,
  fun a ls st h => ru_getf rfl,
  fun x0 x1 x2 x3 x4 x5 v t st h => ru_go rfl rfl,
  fun x0 x1 x2 x3 x4 x5 x6 v t st h => ru_go rfl rfl,
  fun x i a ls st h => ru_last rfl,
  fun ls st h => ru_go rfl rfl,
  fun x0 x1 x2 x3 x4 x5 x6 x7 x8 x9 x10 x11 x12 v t st h => ru_go rfl rfl,
  fun ls st h => ru_go rfl rfl,
  fun x0 x1 x2 x3 x4 x5 x6 x7 x8 x9 x10 x11 x12 x13 v t st h => ru_go rfl rfl,
  fun x0 x1 x2 x3 x4 x5 v t st h => ru_go rfl rfl,
  fun x y ls st h => ru_go rfl rfl,
  fun ls st h => ru_go rfl rfl,
  fun x y ls st h => ru_if rfl rfl,
  fun x0 x1 x2 x3 x4 x5 x6 x7 x8 x9 x10 x11 x12 v t st h => ru_go rfl rfl,
  fun x0 x1 x2 x3 v t st h => ru_go rfl rfl,
  fun x y ls st h => ru_if rfl rfl,
  fun x0 x1 x2 x3 x4 x5 x6 x7 x8 x9 x10 v t st h => ru_go rfl rfl,
  fun ls st h => ru_go rfl rfl,
  fun x y ls st h => ru_go rfl rfl,
  fun x ls st h => ru_if rfl rfl,
  fun v t st h => ru_go rfl rfl,
  fun a ls st h => ru_getf rfl,
  fun x0 x1 x2 x3 x4 x5 x6 x7 x8 x9 x10 x11 x12 v t st h => ru_go rfl rfl,
  fun x0 x1 x2 x3 x4 x5 v t st h => ru_go rfl rfl,
  fun x y ls st h => ru_go rfl rfl,
  fun i a ls st h => ru_lald rfl,
  fun x0 x1 x2 x3 x4 x5 x6 v t st h => ru_go rfl rfl,
  fun v t st h => ru_go rfl rfl,
  fun a ls st h => ru_getf rfl,
  fun x0 x1 x2 x3 x4 x5 x6 x7 x8 x9 x10 x11 x12 v t st h => ru_go rfl rfl,
  fun i a ls st h => ru_lald rfl,
  fun x y ls st h => ru_go rfl rfl,
  fun x y ls st h => ru_go rfl rfl,
  fun x0 x1 x2 x3 x4 x5 x6 x7 x8 x9 x10 v t st h => ru_go rfl rfl,
  fun x y ls st h => ru_go rfl rfl,
  fun x0 x1 x2 x3 x4 x5 x6 x7 x8 x9 x10 x11 x12 x13 x14 x15 v t st h => ru_go rfl rfl,
  fun x0 x1 x2 x3 x4 x5 x6 x7 x8 x9 x10 x11 x12 x13 v t st h => ru_go rfl rfl,
  fun ls st h => ru_go rfl rfl,
  fun a0 a1 ls h => ru_inv rfl (by decide) rfl (Nat.le_of_ble_eq_true rfl),
  fun x ls st h => ru_go rfl rfl,
  fun x0 x1 x2 x3 x4 x5 x6 x7 x8 x9 x10 x11 x12 v t st h => ru_go rfl rfl,
  fun v t st h => ru_go rfl rfl,
  fun a ls st h => ru_getf rfl,
  fun x0 x1 x2 x3 x4 x5 x6 x7 x8 x9 x10 x11 x12 v t st h => ru_go rfl rfl,
  fun x0 x1 x2 x3 x4 x5 v t st h => ru_go rfl rfl,
  fun x y ls st h => ru_go rfl rfl,
  fun x0 x1 x2 x3 x4 x5 x6 x7 x8 x9 x10 x11 x12 x13 v t st h => ru_go rfl rfl,
  fun ls st h => ru_go rfl rfl,
  fun a0 a1 u0 u1 ls h => ru_inv rfl (by decide) rfl (Nat.le_of_ble_eq_true rfl),
  fun x i a ls st h => ru_last rfl,
  fun x0 x1 x2 x3 x4 x5 x6 x7 x8 x9 x10 x11 x12 v t st h => ru_go rfl rfl,
  fun ls st h => ru_go rfl rfl,
  fun ls st h => ru_go rfl rfl,
  fun x0 x1 x2 x3 x4 x5 x6 v t st h => ru_go rfl rfl,
  fun ls st h => ru_go rfl rfl,
  fun x y ls st h => ru_if rfl rfl,
  fun v t st h => ru_go rfl rfl,
  fun a ls st h => ru_getf rfl,
  fun ls st h => ru_go rfl rfl,
  fun x0 v t st h => ru_go rfl rfl,
  fun x y ls st h => ru_go rfl rfl,
  fun x0 x1 x2 x3 x4 x5 v t st h => ru_go rfl rfl,
  fun x y ls st h => ru_go rfl rfl,
  fun v t st h => ru_go rfl rfl,
  fun a ls st h => ru_getf rfl,
  fun x0 x1 x2 x3 x4 x5 v t st h => ru_go rfl rfl,
  fun i a ls st h => ru_lald rfl,
  fun x i a ls st h => ru_last rfl,
  fun x0 x1 x2 x3 x4 x5 v t st h => ru_go rfl rfl,
  fun ls st h => ru_go rfl rfl,
  fun x ls st h => ru_if rfl rfl,
  fun v t st h => ru_go rfl rfl,
  fun x0 v t st h => ru_go rfl rfl,
  fun a0 a1 ls h => ru_inv rfl (by decide) rfl (Nat.le_of_ble_eq_true rfl),
  fun ls h => ru_ret rfl rfl⟩
theorem E29 (a0 : Nat) (a1 : Int32) (a2 : Int32) {h : eH} {fs : List Value} (ha : h.1 a0 = .inr (11, fs)) : den 29 [.ref a0, .int a1, .int a2] h = ru 29 0 [some (.ref a0), some (.int a1), some (.int a2), none, none, none, none, none, none, none, none, none, none, none, none, none] [] h := den_ob (Nat.le_of_ble_eq_true rfl) ha
