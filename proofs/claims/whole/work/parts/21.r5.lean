/-! 112 X9_become -/
set_option maxRecDepth 100000 in
theorem S112 : (∀ (v : Nat) (t : eL) (st : List Value) (h : eH), ru 112 0 (some (.ref v) :: t) st h = ru 112 1 (some (.ref v) :: t) (.ref v :: st) h) ∧
  (∀ (a : Nat) (ls : eL) (st : List Value) (h : eH), ru 112 1 ls (.ref a :: st) h = gF (h.1 a) 9 0 (fun v => ru 112 4 ls (v :: st) h)) ∧
  (∀ (ls : eL) (st : List Value) (h : eH), ru 112 4 ls st h = ru 112 5 ls (.int (nI 0) :: st) h) ∧
  (∀ (x0 : Option Value) (v : Int32) (t : eL) (st : List Value) (h : eH), ru 112 5 (x0 :: some (.int v) :: t) st h = ru 112 6 (x0 :: some (.int v) :: t) (.int v :: st) h) ∧
  (∀ (a0 : Int32) (u0 : Int32) (u1 : Nat) (ls : eL) (h : eH), ru 112 6 ls [.int a0, .int u0, .ref u1] h = cl (den 5 [.int a0] h) (fun v h => ru 112 9 ls (v.toList ++ [.int u0, .ref u1]) h)) ∧
  (∀ (x : Int32) (i : Int32) (a : Nat) (ls : eL) (st : List Value) (h : eH), ru 112 9 ls (.int x :: .int i :: .ref a :: st) h = wI (h.1 a) i x (fun e => ru 112 10 ls st (eUp h a e))) ∧
  (∀ (v : Nat) (t : eL) (st : List Value) (h : eH), ru 112 10 (some (.ref v) :: t) st h = ru 112 11 (some (.ref v) :: t) (.ref v :: st) h) ∧
  (∀ (x0 : Option Value) (v : Int32) (t : eL) (st : List Value) (h : eH), ru 112 11 (x0 :: some (.int v) :: t) st h = ru 112 12 (x0 :: some (.int v) :: t) (.int v :: st) h) ∧
  (∀ (x : Int32) (ls : eL) (st : List Value) (h : eH), ru 112 12 ls (.int x :: st) h = if x = 0 then ru 112 15 ls st h else ru 112 19 ls st h) ∧
  (∀ (ls : eL) (st : List Value) (h : eH), ru 112 15 ls st h = ru 112 16 ls (.int (nI 0) :: st) h) ∧
  (∀ (ls : eL) (st : List Value) (h : eH), ru 112 16 ls st h = ru 112 20 ls st h) ∧
  (∀ (ls : eL) (st : List Value) (h : eH), ru 112 19 ls st h = ru 112 20 ls (.int (nI 1) :: st) h) ∧
  (∀ (v : Int32) (a : Nat) (ls : eL) (st : List Value) (h : eH), ru 112 20 ls (.int v :: .ref a :: st) h = pF (h.1 a) 9 1 (.int v) (fun e => ru 112 23 ls st (eUp h a e))) ∧
  (∀ (v : Nat) (t : eL) (st : List Value) (h : eH), ru 112 23 (some (.ref v) :: t) st h = ru 112 24 (some (.ref v) :: t) (.ref v :: st) h) ∧
  (∀ (x0 : Option Value) (v : Int32) (t : eL) (st : List Value) (h : eH), ru 112 24 (x0 :: some (.int v) :: t) st h = ru 112 25 (x0 :: some (.int v) :: t) (.int v :: st) h) ∧
  (∀ (x : Int32) (ls : eL) (st : List Value) (h : eH), ru 112 25 ls (.int x :: st) h = if 0 ≤ x then ru 112 32 ls st h else ru 112 28 ls st h) ∧
  (∀ (ls : eL) (st : List Value) (h : eH), ru 112 28 ls st h = ru 112 29 ls (.int (nI 1) :: st) h) ∧
  (∀ (ls : eL) (st : List Value) (h : eH), ru 112 29 ls st h = ru 112 33 ls st h) ∧
  (∀ (ls : eL) (st : List Value) (h : eH), ru 112 32 ls st h = ru 112 33 ls (.int (nI 0) :: st) h) ∧
  (∀ (v : Int32) (a : Nat) (ls : eL) (st : List Value) (h : eH), ru 112 33 ls (.int v :: .ref a :: st) h = pF (h.1 a) 9 2 (.int v) (fun e => ru 112 36 ls st (eUp h a e))) ∧
  (∀ (ls : eL) (h : eH), ru 112 36 ls [] h = some (none, h)) := ⟨fun v t st h => ru_go rfl rfl,
  fun a ls st h => ru_getf rfl,
  fun ls st h => ru_go rfl rfl,
  fun x0 v t st h => ru_go rfl rfl,
  fun a0 u0 u1 ls h => ru_inv rfl (by decide) rfl (Nat.le_of_ble_eq_true rfl),
  fun x i a ls st h => ru_iast rfl,
  fun v t st h => ru_go rfl rfl,
  fun x0 v t st h => ru_go rfl rfl,
  fun x ls st h => ru_if rfl rfl,
  fun ls st h => ru_go rfl rfl,
  fun ls st h => ru_go rfl rfl,
  fun ls st h => ru_go rfl rfl,
  fun v a ls st h => ru_putf rfl,
  fun v t st h => ru_go rfl rfl,
  fun x0 v t st h => ru_go rfl rfl,
  fun x ls st h => ru_if rfl rfl,
  fun ls st h => ru_go rfl rfl,
  fun ls st h => ru_go rfl rfl,
  fun ls st h => ru_go rfl rfl,
  fun v a ls st h => ru_putf rfl,
  fun ls h => ru_ret rfl rfl⟩
theorem E112 (a0 : Nat) (a1 : Int32) {h : eH} {fs : List Value} (ha : h.1 a0 = .inr (9, fs)) : den 112 [.ref a0, .int a1] h = ru 112 0 [some (.ref a0), some (.int a1)] [] h := den_ob (Nat.le_of_ble_eq_true rfl) ha
/-! 113 X5_firstRowWith -/
set_option maxRecDepth 100000 in
theorem H113_5 : (∀ (x0 x1 : Option Value) (v : Int32) (t : eL) (st : List Value) (h : eH), ru 113 5 (x0 :: x1 :: some (.int v) :: t) st h = ru 113 6 (x0 :: x1 :: some (.int v) :: t) (.int v :: st) h) := fun x0 x1 v t st h => ru_go rfl rfl
set_option maxRecDepth 100000 in
theorem H113_37 : (∀ (ls : eL) (st : List Value) (h : eH), ru 113 37 ls st h = ru 113 38 ls (.int ((-1)) :: st) h) := fun ls st h => ru_go rfl rfl
set_option maxRecDepth 100000 in
theorem S113 : (∀ (v : Nat) (t : eL) (st : List Value) (h : eH), ru 113 0 (some (.ref v) :: t) st h = ru 113 1 (some (.ref v) :: t) (.ref v :: st) h) ∧
  (∀ (a : Nat) (ls : eL) (st : List Value) (h : eH), ru 113 1 ls (.ref a :: st) h = gF (h.1 a) 5 9 (fun v => ru 113 4 ls (v :: st) h)) ∧
  (∀ (x0 x1 x2 : Option Value) (v : Int32) (t : eL) (st : List Value) (h : eH), ru 113 4 (x0 :: x1 :: x2 :: t) (.int v :: st) h = ru 113 5 (x0 :: eKl x1 :: some (.int v) :: t) st h) ∧
  (∀ (v : Nat) (t : eL) (st : List Value) (h : eH), ru 113 6 (some (.ref v) :: t) st h = ru 113 7 (some (.ref v) :: t) (.ref v :: st) h) ∧
  (∀ (a : Nat) (ls : eL) (st : List Value) (h : eH), ru 113 7 ls (.ref a :: st) h = gF (h.1 a) 5 6 (fun v => ru 113 10 ls (v :: st) h)) ∧
  (∀ (x y : Int32) (ls : eL) (st : List Value) (h : eH), ru 113 10 ls (.int y :: .int x :: st) h = if y ≤ x then ru 113 37 ls st h else ru 113 13 ls st h) ∧
  (∀ (v : Nat) (t : eL) (st : List Value) (h : eH), ru 113 13 (some (.ref v) :: t) st h = ru 113 14 (some (.ref v) :: t) (.ref v :: st) h) ∧
  (∀ (a : Nat) (ls : eL) (st : List Value) (h : eH), ru 113 14 ls (.ref a :: st) h = gF (h.1 a) 5 4 (fun v => ru 113 17 ls (v :: st) h)) ∧
  (∀ (x0 x1 : Option Value) (v : Int32) (t : eL) (st : List Value) (h : eH), ru 113 17 (x0 :: x1 :: some (.int v) :: t) st h = ru 113 18 (x0 :: x1 :: some (.int v) :: t) (.int v :: st) h) ∧
  (∀ (v : Nat) (t : eL) (st : List Value) (h : eH), ru 113 18 (some (.ref v) :: t) st h = ru 113 19 (some (.ref v) :: t) (.ref v :: st) h) ∧
  (∀ (a : Nat) (ls : eL) (st : List Value) (h : eH), ru 113 19 ls (.ref a :: st) h = gF (h.1 a) 5 1 (fun v => ru 113 22 ls (v :: st) h)) ∧
  (∀ (x y : Int32) (ls : eL) (st : List Value) (h : eH), ru 113 22 ls (.int y :: .int x :: st) h = ru 113 23 ls (.int (x * y) :: st) h) ∧
  (∀ (x0 : Option Value) (v : Int32) (t : eL) (st : List Value) (h : eH), ru 113 23 (x0 :: some (.int v) :: t) st h = ru 113 24 (x0 :: some (.int v) :: t) (.int v :: st) h) ∧
  (∀ (x y : Int32) (ls : eL) (st : List Value) (h : eH), ru 113 24 ls (.int y :: .int x :: st) h = ru 113 25 ls (.int (x + y) :: st) h) ∧
  (∀ (i : Int32) (a : Nat) (ls : eL) (st : List Value) (h : eH), ru 113 25 ls (.int i :: .ref a :: st) h = aI (h.1 a) 0 i (fun v => ru 113 26 ls (.int v :: st) h)) ∧
  (∀ (x : Int32) (ls : eL) (st : List Value) (h : eH), ru 113 26 ls (.int x :: st) h = if x = 0 then ru 113 31 ls st h else ru 113 29 ls st h) ∧
  (∀ (x0 x1 : Option Value) (v : Int32) (t : eL) (st : List Value) (h : eH), ru 113 29 (x0 :: x1 :: some (.int v) :: t) st h = ru 113 30 (x0 :: x1 :: some (.int v) :: t) (.int v :: st) h) ∧
  (∀ (x : Int32) (ls : eL) (h : eH), ru 113 30 ls [.int x] h = some (some (.int x), h)) ∧
  (∀ (x0 x1 : Option Value) (v : Int32) (t : eL) (st : List Value) (h : eH), ru 113 31 (x0 :: x1 :: some (.int v) :: t) st h = ru 113 34 (x0 :: eKl x1 :: some (.int (v + 1)) :: t) st h) ∧
  (∀ (ls : eL) (st : List Value) (h : eH), ru 113 34 ls st h = ru 113 5 ls st h) ∧
  (∀ (x : Int32) (ls : eL) (h : eH), ru 113 38 ls [.int x] h = some (some (.int x), h)) := ⟨fun v t st h => ru_go rfl rfl,
  fun a ls st h => ru_getf rfl,
  fun x0 x1 x2 v t st h => ru_go rfl rfl,
  fun v t st h => ru_go rfl rfl,
  fun a ls st h => ru_getf rfl,
  fun x y ls st h => ru_if rfl rfl,
  fun v t st h => ru_go rfl rfl,
  fun a ls st h => ru_getf rfl,
  fun x0 x1 v t st h => ru_go rfl rfl,
  fun v t st h => ru_go rfl rfl,
  fun a ls st h => ru_getf rfl,
  fun x y ls st h => ru_go rfl rfl,
  fun x0 v t st h => ru_go rfl rfl,
  fun x y ls st h => ru_go rfl rfl,
  fun i a ls st h => ru_iald rfl,
  fun x ls st h => ru_if rfl rfl,
  fun x0 x1 v t st h => ru_go rfl rfl,
  fun x ls h => ru_ret rfl rfl,
  fun x0 x1 v t st h => ru_go rfl rfl,
  fun ls st h => ru_go rfl rfl,
  fun x ls h => ru_ret rfl rfl⟩
theorem E113 (a0 : Nat) (a1 : Int32) {h : eH} {fs : List Value} (ha : h.1 a0 = .inr (5, fs)) : den 113 [.ref a0, .int a1] h = ru 113 0 [some (.ref a0), some (.int a1), none] [] h := den_ob (Nat.le_of_ble_eq_true rfl) ha
/-! 114 X5_store -/
set_option maxRecDepth 100000 in
theorem S114 : (∀ (v : Nat) (t : eL) (st : List Value) (h : eH), ru 114 0 (some (.ref v) :: t) st h = ru 114 1 (some (.ref v) :: t) (.ref v :: st) h) ∧
  (∀ (x0 : Option Value) (v : Int32) (t : eL) (st : List Value) (h : eH), ru 114 1 (x0 :: some (.int v) :: t) st h = ru 114 2 (x0 :: some (.int v) :: t) (.int v :: st) h) ∧
  (∀ (x0 x1 : Option Value) (v : Int32) (t : eL) (st : List Value) (h : eH), ru 114 2 (x0 :: x1 :: some (.int v) :: t) st h = ru 114 3 (x0 :: x1 :: some (.int v) :: t) (.int v :: st) h) ∧
  (∀ (a0 : Nat) (a1 : Int32) (a2 : Int32) (ls : eL) (h : eH), ru 114 3 ls [.int a2, .int a1, .ref a0] h = cl (den 85 [.ref a0, .int a1, .int a2] h) (fun v h => ru 114 6 ls (v.toList ++ []) h)) ∧
  (∀ (x : Int32) (ls : eL) (st : List Value) (h : eH), ru 114 6 ls (.int x :: st) h = if x = 0 then ru 114 9 ls st h else ru 114 10 ls st h) ∧
  (∀ (ls : eL) (h : eH), ru 114 9 ls [] h = some (none, h)) ∧
  (∀ (x0 : Option Value) (v : Int32) (t : eL) (st : List Value) (h : eH), ru 114 10 (x0 :: some (.int v) :: t) st h = ru 114 11 (x0 :: some (.int v) :: t) (.int v :: st) h) ∧
  (∀ (v : Nat) (t : eL) (st : List Value) (h : eH), ru 114 11 (some (.ref v) :: t) st h = ru 114 12 (some (.ref v) :: t) (.ref v :: st) h) ∧
  (∀ (a : Nat) (ls : eL) (st : List Value) (h : eH), ru 114 12 ls (.ref a :: st) h = gF (h.1 a) 5 1 (fun v => ru 114 15 ls (v :: st) h)) ∧
  (∀ (x y : Int32) (ls : eL) (st : List Value) (h : eH), ru 114 15 ls (.int y :: .int x :: st) h = ru 114 16 ls (.int (x * y) :: st) h) ∧
  (∀ (x0 x1 : Option Value) (v : Int32) (t : eL) (st : List Value) (h : eH), ru 114 16 (x0 :: x1 :: some (.int v) :: t) st h = ru 114 17 (x0 :: x1 :: some (.int v) :: t) (.int v :: st) h) ∧
  (∀ (x y : Int32) (ls : eL) (st : List Value) (h : eH), ru 114 17 ls (.int y :: .int x :: st) h = ru 114 18 ls (.int (x + y) :: st) h) ∧
  (∀ (x0 x1 x2 x3 x4 : Option Value) (v : Int32) (t : eL) (st : List Value) (h : eH), ru 114 18 (x0 :: x1 :: x2 :: x3 :: x4 :: t) (.int v :: st) h = ru 114 20 (x0 :: x1 :: x2 :: eKl x3 :: some (.int v) :: t) st h) ∧
  (∀ (x0 x1 x2 : Option Value) (v : Nat) (t : eL) (st : List Value) (h : eH), ru 114 20 (x0 :: x1 :: x2 :: some (.ref v) :: t) st h = ru 114 21 (x0 :: x1 :: x2 :: some (.ref v) :: t) (.ref v :: st) h) ∧
  (∀ (a : Nat) (ls : eL) (st : List Value) (h : eH), ru 114 21 ls (.ref a :: st) h = gF (h.1 a) 9 1 (fun v => ru 114 24 ls (v :: st) h)) ∧
  (∀ (v : Nat) (t : eL) (st : List Value) (h : eH), ru 114 24 (some (.ref v) :: t) st h = ru 114 25 (some (.ref v) :: t) (.ref v :: st) h) ∧
  (∀ (a : Nat) (ls : eL) (st : List Value) (h : eH), ru 114 25 ls (.ref a :: st) h = gF (h.1 a) 5 2 (fun v => ru 114 28 ls (v :: st) h)) ∧
  (∀ (a0 : Int32) (a1 : Int32) (ls : eL) (h : eH), ru 114 28 ls [.int a1, .int a0] h = cl (den 9 [.int a0, .int a1] h) (fun v h => ru 114 31 ls (v.toList ++ []) h)) ∧
  (∀ (x0 x1 x2 x3 x4 x5 : Option Value) (v : Int32) (t : eL) (st : List Value) (h : eH), ru 114 31 (x0 :: x1 :: x2 :: x3 :: x4 :: x5 :: t) (.int v :: st) h = ru 114 33 (x0 :: x1 :: x2 :: x3 :: eKl x4 :: some (.int v) :: t) st h) ∧
  (∀ (v : Nat) (t : eL) (st : List Value) (h : eH), ru 114 33 (some (.ref v) :: t) st h = ru 114 34 (some (.ref v) :: t) (.ref v :: st) h) ∧
  (∀ (a : Nat) (ls : eL) (st : List Value) (h : eH), ru 114 34 ls (.ref a :: st) h = gF (h.1 a) 5 4 (fun v => ru 114 37 ls (v :: st) h)) ∧
  (∀ (x0 x1 x2 x3 : Option Value) (v : Int32) (t : eL) (st : List Value) (h : eH), ru 114 37 (x0 :: x1 :: x2 :: x3 :: some (.int v) :: t) st h = ru 114 39 (x0 :: x1 :: x2 :: x3 :: some (.int v) :: t) (.int v :: st) h) ∧
  (∀ (x0 x1 x2 : Option Value) (v : Nat) (t : eL) (st : List Value) (h : eH), ru 114 39 (x0 :: x1 :: x2 :: some (.ref v) :: t) st h = ru 114 40 (x0 :: x1 :: x2 :: some (.ref v) :: t) (.ref v :: st) h) ∧
  (∀ (a : Nat) (ls : eL) (st : List Value) (h : eH), ru 114 40 ls (.ref a :: st) h = gF (h.1 a) 9 2 (fun v => ru 114 43 ls (v :: st) h)) ∧
  (∀ (x : Int32) (ls : eL) (st : List Value) (h : eH), ru 114 43 ls (.int x :: st) h = if x = 0 then ru 114 52 ls st h else ru 114 46 ls st h) ∧
  (∀ (x0 x1 x2 x3 x4 : Option Value) (v : Int32) (t : eL) (st : List Value) (h : eH), ru 114 46 (x0 :: x1 :: x2 :: x3 :: x4 :: some (.int v) :: t) st h = ru 114 48 (x0 :: x1 :: x2 :: x3 :: x4 :: some (.int v) :: t) (.int v :: st) h) ∧
  (∀ (x : Int32) (ls : eL) (st : List Value) (h : eH), ru 114 48 ls (.int x :: st) h = ru 114 49 ls (.int (-x) :: st) h) ∧
  (∀ (ls : eL) (st : List Value) (h : eH), ru 114 49 ls st h = ru 114 54 ls st h) ∧
  (∀ (x0 x1 x2 x3 x4 : Option Value) (v : Int32) (t : eL) (st : List Value) (h : eH), ru 114 52 (x0 :: x1 :: x2 :: x3 :: x4 :: some (.int v) :: t) st h = ru 114 54 (x0 :: x1 :: x2 :: x3 :: x4 :: some (.int v) :: t) (.int v :: st) h) ∧
  (∀ (x : Int32) (i : Int32) (a : Nat) (ls : eL) (st : List Value) (h : eH), ru 114 54 ls (.int x :: .int i :: .ref a :: st) h = wI (h.1 a) i x (fun e => ru 114 55 ls st (eUp h a e))) ∧
  (∀ (x0 x1 x2 : Option Value) (v : Nat) (t : eL) (st : List Value) (h : eH), ru 114 55 (x0 :: x1 :: x2 :: some (.ref v) :: t) st h = ru 114 56 (x0 :: x1 :: x2 :: some (.ref v) :: t) (.ref v :: st) h) ∧
  (∀ (a : Nat) (ls : eL) (st : List Value) (h : eH), ru 114 56 ls (.ref a :: st) h = gF (h.1 a) 9 0 (fun v => ru 114 59 ls (v :: st) h)) ∧
  (∀ (ls : eL) (st : List Value) (h : eH), ru 114 59 ls st h = ru 114 60 ls (.int (nI 0) :: st) h) ∧
  (∀ (v : Nat) (t : eL) (st : List Value) (h : eH), ru 114 60 (some (.ref v) :: t) st h = ru 114 61 (some (.ref v) :: t) (.ref v :: st) h) ∧
  (∀ (a : Nat) (ls : eL) (st : List Value) (h : eH), ru 114 61 ls (.ref a :: st) h = gF (h.1 a) 5 3 (fun v => ru 114 64 ls (v :: st) h)) ∧
  (∀ (x0 x1 x2 x3 : Option Value) (v : Int32) (t : eL) (st : List Value) (h : eH), ru 114 64 (x0 :: x1 :: x2 :: x3 :: some (.int v) :: t) st h = ru 114 66 (x0 :: x1 :: x2 :: x3 :: some (.int v) :: t) (.int v :: st) h) ∧
  (∀ (v : Nat) (t : eL) (st : List Value) (h : eH), ru 114 66 (some (.ref v) :: t) st h = ru 114 67 (some (.ref v) :: t) (.ref v :: st) h) ∧
  (∀ (a : Nat) (ls : eL) (st : List Value) (h : eH), ru 114 67 ls (.ref a :: st) h = gF (h.1 a) 5 2 (fun v => ru 114 70 ls (v :: st) h)) ∧
  (∀ (x y : Int32) (ls : eL) (st : List Value) (h : eH), ru 114 70 ls (.int y :: .int x :: st) h = ru 114 71 ls (.int (x * y) :: st) h) ∧
  (∀ (x0 x1 x2 x3 x4 : Option Value) (v : Int32) (t : eL) (st : List Value) (h : eH), ru 114 71 (x0 :: x1 :: x2 :: x3 :: x4 :: some (.int v) :: t) st h = ru 114 73 (x0 :: x1 :: x2 :: x3 :: x4 :: some (.int v) :: t) (.int v :: st) h) ∧
  (∀ (n dp sp : Int32) (a1 a0 : Nat) (ls : eL) (h : eH), ru 114 73 ls [.int n, .int dp, .ref a1, .int sp, .ref a0] h = cP (h.1 a0) (h.1 a1) sp dp n (fun e => ru 114 76 ls [] (eUp h a1 e))) ∧
  (∀ (ls : eL) (h : eH), ru 114 76 ls [] h = some (none, h)) := ⟨fun v t st h => ru_go rfl rfl,
  fun x0 v t st h => ru_go rfl rfl,
  fun x0 x1 v t st h => ru_go rfl rfl,
  fun a0 a1 a2 ls h => ru_inv rfl (by decide) rfl (Nat.le_of_ble_eq_true rfl),
  fun x ls st h => ru_if rfl rfl,
  fun ls h => ru_ret rfl rfl,
  fun x0 v t st h => ru_go rfl rfl,
  fun v t st h => ru_go rfl rfl,
  fun a ls st h => ru_getf rfl,
  fun x y ls st h => ru_go rfl rfl,
  fun x0 x1 v t st h => ru_go rfl rfl,
  fun x y ls st h => ru_go rfl rfl,
  fun x0 x1 x2 x3 x4 v t st h => ru_go rfl rfl,
  fun x0 x1 x2 v t st h => ru_go rfl rfl,
  fun a ls st h => ru_getf rfl,
  fun v t st h => ru_go rfl rfl,
  fun a ls st h => ru_getf rfl,
  fun a0 a1 ls h => ru_inv rfl (by decide) rfl (Nat.le_of_ble_eq_true rfl),
  fun x0 x1 x2 x3 x4 x5 v t st h => ru_go rfl rfl,
  fun v t st h => ru_go rfl rfl,
  fun a ls st h => ru_getf rfl,
  fun x0 x1 x2 x3 v t st h => ru_go rfl rfl,
  fun x0 x1 x2 v t st h => ru_go rfl rfl,
  fun a ls st h => ru_getf rfl,
  fun x ls st h => ru_if rfl rfl,
  fun x0 x1 x2 x3 x4 v t st h => ru_go rfl rfl,
  fun x ls st h => ru_go rfl rfl,
  fun ls st h => ru_go rfl rfl,
  fun x0 x1 x2 x3 x4 v t st h => ru_go rfl rfl,
  fun x i a ls st h => ru_iast rfl,
  fun x0 x1 x2 v t st h => ru_go rfl rfl,
  fun a ls st h => ru_getf rfl,
  fun ls st h => ru_go rfl rfl,
  fun v t st h => ru_go rfl rfl,
  fun a ls st h => ru_getf rfl,
  fun x0 x1 x2 x3 v t st h => ru_go rfl rfl,
  fun v t st h => ru_go rfl rfl,
  fun a ls st h => ru_getf rfl,
  fun x y ls st h => ru_go rfl rfl,
  fun x0 x1 x2 x3 x4 v t st h => ru_go rfl rfl,
  fun n dp sp a1 a0 ls h => ru_cpy rfl (Nat.le_of_ble_eq_true rfl),
  fun ls h => ru_ret rfl rfl⟩
theorem E114 (a0 : Nat) (a1 : Int32) (a2 : Int32) (a3 : Nat) {h : eH} {fs : List Value} (ha : h.1 a0 = .inr (5, fs)) : den 114 [.ref a0, .int a1, .int a2, .ref a3] h = ru 114 0 [some (.ref a0), some (.int a1), some (.int a2), some (.ref a3), none, none] [] h := den_ob (Nat.le_of_ble_eq_true rfl) ha
/-! 115 X5_swapRows -/
set_option maxRecDepth 100000 in
theorem H115_2 : (∀ (x0 x1 x2 : Option Value) (v : Int32) (t : eL) (st : List Value) (h : eH), ru 115 2 (x0 :: x1 :: x2 :: some (.int v) :: t) st h = ru 115 3 (x0 :: x1 :: x2 :: some (.int v) :: t) (.int v :: st) h) := fun x0 x1 x2 v t st h => ru_go rfl rfl
set_option maxRecDepth 100000 in
theorem S115 : (∀ (ls : eL) (st : List Value) (h : eH), ru 115 0 ls st h = ru 115 1 ls (.int (nI 0) :: st) h) ∧
  (∀ (x0 x1 x2 x3 : Option Value) (v : Int32) (t : eL) (st : List Value) (h : eH), ru 115 1 (x0 :: x1 :: x2 :: x3 :: t) (.int v :: st) h = ru 115 2 (x0 :: x1 :: eKl x2 :: some (.int v) :: t) st h) ∧
  (∀ (v : Nat) (t : eL) (st : List Value) (h : eH), ru 115 3 (some (.ref v) :: t) st h = ru 115 4 (some (.ref v) :: t) (.ref v :: st) h) ∧
  (∀ (a : Nat) (ls : eL) (st : List Value) (h : eH), ru 115 4 ls (.ref a :: st) h = gF (h.1 a) 5 8 (fun v => ru 115 7 ls (v :: st) h)) ∧
  (∀ (x y : Int32) (ls : eL) (st : List Value) (h : eH), ru 115 7 ls (.int y :: .int x :: st) h = if y ≤ x then ru 115 73 ls st h else ru 115 10 ls st h) ∧
  (∀ (x0 : Option Value) (v : Int32) (t : eL) (st : List Value) (h : eH), ru 115 10 (x0 :: some (.int v) :: t) st h = ru 115 11 (x0 :: some (.int v) :: t) (.int v :: st) h) ∧
  (∀ (x0 x1 : Option Value) (v : Int32) (t : eL) (st : List Value) (h : eH), ru 115 11 (x0 :: x1 :: some (.int v) :: t) st h = ru 115 12 (x0 :: x1 :: some (.int v) :: t) (.int v :: st) h) ∧
  (∀ (x y : Int32) (ls : eL) (st : List Value) (h : eH), ru 115 12 ls (.int y :: .int x :: st) h = if x = y then ru 115 73 ls st h else ru 115 15 ls st h) ∧
  (∀ (v : Nat) (t : eL) (st : List Value) (h : eH), ru 115 15 (some (.ref v) :: t) st h = ru 115 16 (some (.ref v) :: t) (.ref v :: st) h) ∧
  (∀ (v : Nat) (t : eL) (st : List Value) (h : eH), ru 115 16 (some (.ref v) :: t) st h = ru 115 17 (some (.ref v) :: t) (.ref v :: st) h) ∧
  (∀ (a : Nat) (ls : eL) (st : List Value) (h : eH), ru 115 17 ls (.ref a :: st) h = gF (h.1 a) 5 5 (fun v => ru 115 20 ls (v :: st) h)) ∧
  (∀ (a : Nat) (ls : eL) (st : List Value) (h : eH), ru 115 20 ls (.ref a :: st) h = gF (h.1 a) 1 3 (fun v => ru 115 23 ls (v :: st) h)) ∧
  (∀ (x0 : Option Value) (v : Int32) (t : eL) (st : List Value) (h : eH), ru 115 23 (x0 :: some (.int v) :: t) st h = ru 115 24 (x0 :: some (.int v) :: t) (.int v :: st) h) ∧
  (∀ (x0 x1 x2 : Option Value) (v : Int32) (t : eL) (st : List Value) (h : eH), ru 115 24 (x0 :: x1 :: x2 :: some (.int v) :: t) st h = ru 115 25 (x0 :: x1 :: x2 :: some (.int v) :: t) (.int v :: st) h) ∧
  (∀ (a0 : Nat) (a1 : Nat) (a2 : Int32) (a3 : Int32) (ls : eL) (h : eH), ru 115 25 ls [.int a3, .int a2, .ref a1, .ref a0] h = cl (den 86 [.ref a0, .ref a1, .int a2, .int a3] h) (fun v h => ru 115 28 ls (v.toList ++ []) h)) ∧
  (∀ (v : Nat) (t : eL) (st : List Value) (h : eH), ru 115 28 (some (.ref v) :: t) st h = ru 115 29 (some (.ref v) :: t) (.ref v :: st) h) ∧
  (∀ (v : Nat) (t : eL) (st : List Value) (h : eH), ru 115 29 (some (.ref v) :: t) st h = ru 115 30 (some (.ref v) :: t) (.ref v :: st) h) ∧
  (∀ (a : Nat) (ls : eL) (st : List Value) (h : eH), ru 115 30 ls (.ref a :: st) h = gF (h.1 a) 5 5 (fun v => ru 115 33 ls (v :: st) h)) ∧
  (∀ (a : Nat) (ls : eL) (st : List Value) (h : eH), ru 115 33 ls (.ref a :: st) h = gF (h.1 a) 1 4 (fun v => ru 115 36 ls (v :: st) h)) ∧
  (∀ (x0 x1 : Option Value) (v : Int32) (t : eL) (st : List Value) (h : eH), ru 115 36 (x0 :: x1 :: some (.int v) :: t) st h = ru 115 37 (x0 :: x1 :: some (.int v) :: t) (.int v :: st) h) ∧
  (∀ (x0 x1 x2 : Option Value) (v : Int32) (t : eL) (st : List Value) (h : eH), ru 115 37 (x0 :: x1 :: x2 :: some (.int v) :: t) st h = ru 115 38 (x0 :: x1 :: x2 :: some (.int v) :: t) (.int v :: st) h) ∧
  (∀ (a0 : Nat) (a1 : Nat) (a2 : Int32) (a3 : Int32) (ls : eL) (h : eH), ru 115 38 ls [.int a3, .int a2, .ref a1, .ref a0] h = cl (den 86 [.ref a0, .ref a1, .int a2, .int a3] h) (fun v h => ru 115 41 ls (v.toList ++ []) h)) ∧
  (∀ (v : Nat) (t : eL) (st : List Value) (h : eH), ru 115 41 (some (.ref v) :: t) st h = ru 115 42 (some (.ref v) :: t) (.ref v :: st) h) ∧
  (∀ (x0 : Option Value) (v : Int32) (t : eL) (st : List Value) (h : eH), ru 115 42 (x0 :: some (.int v) :: t) st h = ru 115 43 (x0 :: some (.int v) :: t) (.int v :: st) h) ∧
  (∀ (x0 x1 x2 : Option Value) (v : Int32) (t : eL) (st : List Value) (h : eH), ru 115 43 (x0 :: x1 :: x2 :: some (.int v) :: t) st h = ru 115 44 (x0 :: x1 :: x2 :: some (.int v) :: t) (.int v :: st) h) ∧
  (∀ (v : Nat) (t : eL) (st : List Value) (h : eH), ru 115 44 (some (.ref v) :: t) st h = ru 115 45 (some (.ref v) :: t) (.ref v :: st) h) ∧
  (∀ (a : Nat) (ls : eL) (st : List Value) (h : eH), ru 115 45 ls (.ref a :: st) h = gF (h.1 a) 5 5 (fun v => ru 115 48 ls (v :: st) h)) ∧
  (∀ (a : Nat) (ls : eL) (st : List Value) (h : eH), ru 115 48 ls (.ref a :: st) h = gF (h.1 a) 1 4 (fun v => ru 115 51 ls (v :: st) h)) ∧
  (∀ (a0 : Nat) (a1 : Int32) (a2 : Int32) (a3 : Nat) (ls : eL) (h : eH), ru 115 51 ls [.ref a3, .int a2, .int a1, .ref a0] h = cl (den 114 [.ref a0, .int a1, .int a2, .ref a3] h) (fun v h => ru 115 54 ls (v.toList ++ []) h)) ∧
  (∀ (v : Nat) (t : eL) (st : List Value) (h : eH), ru 115 54 (some (.ref v) :: t) st h = ru 115 55 (some (.ref v) :: t) (.ref v :: st) h) ∧
  (∀ (x0 x1 : Option Value) (v : Int32) (t : eL) (st : List Value) (h : eH), ru 115 55 (x0 :: x1 :: some (.int v) :: t) st h = ru 115 56 (x0 :: x1 :: some (.int v) :: t) (.int v :: st) h) ∧
  (∀ (x0 x1 x2 : Option Value) (v : Int32) (t : eL) (st : List Value) (h : eH), ru 115 56 (x0 :: x1 :: x2 :: some (.int v) :: t) st h = ru 115 57 (x0 :: x1 :: x2 :: some (.int v) :: t) (.int v :: st) h) ∧
  (∀ (v : Nat) (t : eL) (st : List Value) (h : eH), ru 115 57 (some (.ref v) :: t) st h = ru 115 58 (some (.ref v) :: t) (.ref v :: st) h) ∧
  (∀ (a : Nat) (ls : eL) (st : List Value) (h : eH), ru 115 58 ls (.ref a :: st) h = gF (h.1 a) 5 5 (fun v => ru 115 61 ls (v :: st) h)) ∧
  (∀ (a : Nat) (ls : eL) (st : List Value) (h : eH), ru 115 61 ls (.ref a :: st) h = gF (h.1 a) 1 3 (fun v => ru 115 64 ls (v :: st) h)) ∧
  (∀ (a0 : Nat) (a1 : Int32) (a2 : Int32) (a3 : Nat) (ls : eL) (h : eH), ru 115 64 ls [.ref a3, .int a2, .int a1, .ref a0] h = cl (den 114 [.ref a0, .int a1, .int a2, .ref a3] h) (fun v h => ru 115 67 ls (v.toList ++ []) h)) ∧
  (∀ (x0 x1 x2 : Option Value) (v : Int32) (t : eL) (st : List Value) (h : eH), ru 115 67 (x0 :: x1 :: x2 :: some (.int v) :: t) st h = ru 115 70 (x0 :: x1 :: eKl x2 :: some (.int (v + 1)) :: t) st h) ∧
  (∀ (ls : eL) (st : List Value) (h : eH), ru 115 70 ls st h = ru 115 2 ls st h) ∧
  (∀ (ls : eL) (h : eH), ru 115 73 ls [] h = some (none, h)) := ⟨fun ls st h => ru_go rfl rfl,
  fun x0 x1 x2 x3 v t st h => ru_go rfl rfl,
  fun v t st h => ru_go rfl rfl,
  fun a ls st h => ru_getf rfl,
  fun x y ls st h => ru_if rfl rfl,
  fun x0 v t st h => ru_go rfl rfl,
  fun x0 x1 v t st h => ru_go rfl rfl,
  fun x y ls st h => ru_if rfl rfl,
  fun v t st h => ru_go rfl rfl,
  fun v t st h => ru_go rfl rfl,
  fun a ls st h => ru_getf rfl,
  fun a ls st h => ru_getf rfl,
  fun x0 v t st h => ru_go rfl rfl,
  fun x0 x1 x2 v t st h => ru_go rfl rfl,
  fun a0 a1 a2 a3 ls h => ru_inv rfl (by decide) rfl (Nat.le_of_ble_eq_true rfl),
  fun v t st h => ru_go rfl rfl,
  fun v t st h => ru_go rfl rfl,
  fun a ls st h => ru_getf rfl,
  fun a ls st h => ru_getf rfl,
  fun x0 x1 v t st h => ru_go rfl rfl,
  fun x0 x1 x2 v t st h => ru_go rfl rfl,
  fun a0 a1 a2 a3 ls h => ru_inv rfl (by decide) rfl (Nat.le_of_ble_eq_true rfl),
  fun v t st h => ru_go rfl rfl,
  fun x0 v t st h => ru_go rfl rfl,
  fun x0 x1 x2 v t st h => ru_go rfl rfl,
  fun v t st h => ru_go rfl rfl,
  fun a ls st h => ru_getf rfl,
  fun a ls st h => ru_getf rfl,
  fun a0 a1 a2 a3 ls h => ru_inv rfl (by decide) rfl (Nat.le_of_ble_eq_true rfl),
  fun v t st h => ru_go rfl rfl,
  fun x0 x1 v t st h => ru_go rfl rfl,
  fun x0 x1 x2 v t st h => ru_go rfl rfl,
  fun v t st h => ru_go rfl rfl,
  fun a ls st h => ru_getf rfl,
  fun a ls st h => ru_getf rfl,
  fun a0 a1 a2 a3 ls h => ru_inv rfl (by decide) rfl (Nat.le_of_ble_eq_true rfl),
  fun x0 x1 x2 v t st h => ru_go rfl rfl,
  fun ls st h => ru_go rfl rfl,
  fun ls h => ru_ret rfl rfl⟩
theorem E115 (a0 : Nat) (a1 : Int32) (a2 : Int32) {h : eH} {fs : List Value} (ha : h.1 a0 = .inr (5, fs)) : den 115 [.ref a0, .int a1, .int a2] h = ru 115 0 [some (.ref a0), some (.int a1), some (.int a2), none] [] h := den_ob (Nat.le_of_ble_eq_true rfl) ha
/-! 116 X9_shrink -/
set_option maxRecDepth 100000 in
theorem H116_10 : (∀ (x0 x1 x2 x3 : Option Value) (v : Int32) (t : eL) (st : List Value) (h : eH), ru 116 10 (x0 :: x1 :: x2 :: x3 :: some (.int v) :: t) st h = ru 116 12 (x0 :: x1 :: x2 :: x3 :: some (.int v) :: t) (.int v :: st) h) := fun x0 x1 x2 x3 v t st h => ru_go rfl rfl
set_option maxRecDepth 100000 in
theorem H116_60 : (∀ (v : Nat) (t : eL) (st : List Value) (h : eH), ru 116 60 (some (.ref v) :: t) st h = ru 116 61 (some (.ref v) :: t) (.ref v :: st) h) := fun v t st h => ru_go rfl rfl
set_option maxRecDepth 100000 in
theorem S116 : (∀ (ls : eL) (st : List Value) (h : eH), ru 116 0 ls st h = ru 116 1 ls (.long (lN 0) :: st) h) ∧
  (∀ (x0 x1 x2 x3 : Option Value) (v : Int64) (t : eL) (st : List Value) (h : eH), ru 116 1 (x0 :: x1 :: x2 :: x3 :: t) (.long v :: st) h = ru 116 2 (x0 :: eKl x1 :: some (.long v) :: none :: t) st h) ∧
  (∀ (v : Nat) (t : eL) (st : List Value) (h : eH), ru 116 2 (some (.ref v) :: t) st h = ru 116 3 (some (.ref v) :: t) (.ref v :: st) h) ∧
  (∀ (a : Nat) (ls : eL) (st : List Value) (h : eH), ru 116 3 ls (.ref a :: st) h = gF (h.1 a) 9 1 (fun v => ru 116 6 ls (v :: st) h)) ∧
  (∀ (ls : eL) (st : List Value) (h : eH), ru 116 6 ls st h = ru 116 7 ls (.int (nI 1) :: st) h) ∧
  (∀ (x y : Int32) (ls : eL) (st : List Value) (h : eH), ru 116 7 ls (.int y :: .int x :: st) h = ru 116 8 ls (.int (x - y) :: st) h) ∧
  (∀ (x0 x1 x2 x3 x4 : Option Value) (v : Int32) (t : eL) (st : List Value) (h : eH), ru 116 8 (x0 :: x1 :: x2 :: x3 :: x4 :: t) (.int v :: st) h = ru 116 10 (x0 :: x1 :: x2 :: eKl x3 :: some (.int v) :: t) st h) ∧
  (∀ (x : Int32) (ls : eL) (st : List Value) (h : eH), ru 116 12 ls (.int x :: st) h = if x < 0 then ru 116 60 ls st h else ru 116 15 ls st h) ∧
  (∀ (x0 : Option Value) (v : Int32) (t : eL) (st : List Value) (h : eH), ru 116 15 (x0 :: some (.int v) :: t) st h = ru 116 16 (x0 :: some (.int v) :: t) (.int v :: st) h) ∧
  (∀ (x : Int32) (ls : eL) (st : List Value) (h : eH), ru 116 16 ls (.int x :: st) h = if x ≤ 0 then ru 116 60 ls st h else ru 116 19 ls st h) ∧
  (∀ (x0 x1 : Option Value) (v : Int64) (t : eL) (st : List Value) (h : eH), ru 116 19 (x0 :: x1 :: some (.long v) :: t) st h = ru 116 20 (x0 :: x1 :: some (.long v) :: t) (.long v :: st) h) ∧
  (∀ (ls : eL) (st : List Value) (h : eH), ru 116 20 ls st h = ru 116 23 ls (.long (lN 1000000000) :: st) h) ∧
  (∀ (x y : Int64) (ls : eL) (st : List Value) (h : eH), ru 116 23 ls (.long y :: .long x :: st) h = ru 116 24 ls (.long (x * y) :: st) h) ∧
  (∀ (v : Nat) (t : eL) (st : List Value) (h : eH), ru 116 24 (some (.ref v) :: t) st h = ru 116 25 (some (.ref v) :: t) (.ref v :: st) h) ∧
  (∀ (a : Nat) (ls : eL) (st : List Value) (h : eH), ru 116 25 ls (.ref a :: st) h = gF (h.1 a) 9 0 (fun v => ru 116 28 ls (v :: st) h)) ∧
  (∀ (x0 x1 x2 x3 : Option Value) (v : Int32) (t : eL) (st : List Value) (h : eH), ru 116 28 (x0 :: x1 :: x2 :: x3 :: some (.int v) :: t) st h = ru 116 30 (x0 :: x1 :: x2 :: x3 :: some (.int v) :: t) (.int v :: st) h) ∧
  (∀ (i : Int32) (a : Nat) (ls : eL) (st : List Value) (h : eH), ru 116 30 ls (.int i :: .ref a :: st) h = aI (h.1 a) 0 i (fun v => ru 116 31 ls (.int v :: st) h)) ∧
  (∀ (x : Int32) (ls : eL) (st : List Value) (h : eH), ru 116 31 ls (.int x :: st) h = ru 116 32 ls (.long (x.toInt64) :: st) h) ∧
  (∀ (x y : Int64) (ls : eL) (st : List Value) (h : eH), ru 116 32 ls (.long y :: .long x :: st) h = ru 116 33 ls (.long (x + y) :: st) h) ∧
  (∀ (x0 x1 x2 x3 x4 x5 x6 : Option Value) (v : Int64) (t : eL) (st : List Value) (h : eH), ru 116 33 (x0 :: x1 :: x2 :: x3 :: x4 :: x5 :: x6 :: t) (.long v :: st) h = ru 116 35 (x0 :: x1 :: x2 :: x3 :: eKl x4 :: some (.long v) :: none :: t) st h) ∧
  (∀ (v : Nat) (t : eL) (st : List Value) (h : eH), ru 116 35 (some (.ref v) :: t) st h = ru 116 36 (some (.ref v) :: t) (.ref v :: st) h) ∧
  (∀ (a : Nat) (ls : eL) (st : List Value) (h : eH), ru 116 36 ls (.ref a :: st) h = gF (h.1 a) 9 0 (fun v => ru 116 39 ls (v :: st) h)) ∧
  (∀ (x0 x1 x2 x3 : Option Value) (v : Int32) (t : eL) (st : List Value) (h : eH), ru 116 39 (x0 :: x1 :: x2 :: x3 :: some (.int v) :: t) st h = ru 116 41 (x0 :: x1 :: x2 :: x3 :: some (.int v) :: t) (.int v :: st) h) ∧
  (∀ (x0 x1 x2 x3 x4 : Option Value) (v : Int64) (t : eL) (st : List Value) (h : eH), ru 116 41 (x0 :: x1 :: x2 :: x3 :: x4 :: some (.long v) :: t) st h = ru 116 43 (x0 :: x1 :: x2 :: x3 :: x4 :: some (.long v) :: t) (.long v :: st) h) ∧
  (∀ (x0 : Option Value) (v : Int32) (t : eL) (st : List Value) (h : eH), ru 116 43 (x0 :: some (.int v) :: t) st h = ru 116 44 (x0 :: some (.int v) :: t) (.int v :: st) h) ∧
  (∀ (x : Int32) (ls : eL) (st : List Value) (h : eH), ru 116 44 ls (.int x :: st) h = ru 116 45 ls (.long (x.toInt64) :: st) h) ∧
  (∀ (x y : Int64) (ls : eL) (st : List Value) (h : eH), ru 116 45 ls (.long y :: .long x :: st) h = if y = 0 then none else ru 116 46 ls (.long (x / y) :: st) h) ∧
  (∀ (x : Int64) (ls : eL) (st : List Value) (h : eH), ru 116 46 ls (.long x :: st) h = ru 116 47 ls (.int (x.toInt32) :: st) h) ∧
  (∀ (x : Int32) (i : Int32) (a : Nat) (ls : eL) (st : List Value) (h : eH), ru 116 47 ls (.int x :: .int i :: .ref a :: st) h = wI (h.1 a) i x (fun e => ru 116 48 ls st (eUp h a e))) ∧
  (∀ (x0 x1 x2 x3 x4 : Option Value) (v : Int64) (t : eL) (st : List Value) (h : eH), ru 116 48 (x0 :: x1 :: x2 :: x3 :: x4 :: some (.long v) :: t) st h = ru 116 50 (x0 :: x1 :: x2 :: x3 :: x4 :: some (.long v) :: t) (.long v :: st) h) ∧
  (∀ (x0 : Option Value) (v : Int32) (t : eL) (st : List Value) (h : eH), ru 116 50 (x0 :: some (.int v) :: t) st h = ru 116 51 (x0 :: some (.int v) :: t) (.int v :: st) h) ∧
  (∀ (x : Int32) (ls : eL) (st : List Value) (h : eH), ru 116 51 ls (.int x :: st) h = ru 116 52 ls (.long (x.toInt64) :: st) h) ∧
  (∀ (x y : Int64) (ls : eL) (st : List Value) (h : eH), ru 116 52 ls (.long y :: .long x :: st) h = if y = 0 then none else ru 116 53 ls (.long (x - x / y * y) :: st) h) ∧
  (∀ (x0 x1 x2 x3 : Option Value) (v : Int64) (t : eL) (st : List Value) (h : eH), ru 116 53 (x0 :: x1 :: x2 :: x3 :: t) (.long v :: st) h = ru 116 54 (x0 :: eKl x1 :: some (.long v) :: none :: t) st h) ∧
  (∀ (x0 x1 x2 x3 : Option Value) (v : Int32) (t : eL) (st : List Value) (h : eH), ru 116 54 (x0 :: x1 :: x2 :: x3 :: some (.int v) :: t) st h = ru 116 57 (x0 :: x1 :: x2 :: eKl x3 :: some (.int (v + (-1))) :: t) st h) ∧
  (∀ (ls : eL) (st : List Value) (h : eH), ru 116 57 ls st h = ru 116 10 ls st h) ∧
  (∀ (v : Nat) (t : eL) (st : List Value) (h : eH), ru 116 61 (some (.ref v) :: t) st h = ru 116 62 (some (.ref v) :: t) (.ref v :: st) h) ∧
  (∀ (a : Nat) (ls : eL) (st : List Value) (h : eH), ru 116 62 ls (.ref a :: st) h = gF (h.1 a) 9 1 (fun v => ru 116 65 ls (v :: st) h)) ∧
  (∀ (a0 : Nat) (a1 : Int32) (ls : eL) (h : eH), ru 116 65 ls [.int a1, .ref a0] h = cl (den 95 [.ref a0, .int a1] h) (fun v h => ru 116 68 ls (v.toList ++ []) h)) ∧
  (∀ (x0 x1 : Option Value) (v : Int64) (t : eL) (st : List Value) (h : eH), ru 116 68 (x0 :: x1 :: some (.long v) :: t) st h = ru 116 69 (x0 :: x1 :: some (.long v) :: t) (.long v :: st) h) ∧
  (∀ (x : Int64) (ls : eL) (st : List Value) (h : eH), ru 116 69 ls (.long x :: st) h = ru 116 70 ls (.int (x.toInt32) :: st) h) ∧
  (∀ (x : Int32) (ls : eL) (h : eH), ru 116 70 ls [.int x] h = some (some (.int x), h)) := ⟨fun ls st h => ru_go rfl rfl,
  fun x0 x1 x2 x3 v t st h => ru_go rfl rfl,
  fun v t st h => ru_go rfl rfl,
  fun a ls st h => ru_getf rfl,
  fun ls st h => ru_go rfl rfl,
  fun x y ls st h => ru_go rfl rfl,
  fun x0 x1 x2 x3 x4 v t st h => ru_go rfl rfl,
  fun x ls st h => ru_if rfl rfl,
  fun x0 v t st h => ru_go rfl rfl,
  fun x ls st h => ru_if rfl rfl,
  fun x0 x1 v t st h => ru_go rfl rfl,
  fun ls st h => ru_go rfl rfl,
  fun x y ls st h => ru_go rfl rfl,
  fun v t st h => ru_go rfl rfl,
  fun a ls st h => ru_getf rfl,
  fun x0 x1 x2 x3 v t st h => ru_go rfl rfl,
  fun i a ls st h => ru_iald rfl,
  fun x ls st h => ru_go rfl rfl,
  fun x y ls st h => ru_go rfl rfl,
  fun x0 x1 x2 x3 x4 x5 x6 v t st h => ru_go rfl rfl,
  fun v t st h => ru_go rfl rfl,
  fun a ls st h => ru_getf rfl,
  fun x0 x1 x2 x3 v t st h => ru_go rfl rfl,
  fun x0 x1 x2 x3 x4 v t st h => ru_go rfl rfl,
  fun x0 v t st h => ru_go rfl rfl,
  fun x ls st h => ru_go rfl rfl,
  fun x y ls st h => ru_guard rfl rfl,
  fun x ls st h => ru_go rfl rfl,
  fun x i a ls st h => ru_iast rfl,
  fun x0 x1 x2 x3 x4 v t st h => ru_go rfl rfl,
  fun x0 v t st h => ru_go rfl rfl,
  fun x ls st h => ru_go rfl rfl,
  fun x y ls st h => ru_guard rfl rfl,
  fun x0 x1 x2 x3 v t st h => ru_go rfl rfl,
  fun x0 x1 x2 x3 v t st h => ru_go rfl rfl,
  fun ls st h => ru_go rfl rfl,
  fun v t st h => ru_go rfl rfl,
  fun a ls st h => ru_getf rfl,
  fun a0 a1 ls h => ru_inv rfl (by decide) rfl (Nat.le_of_ble_eq_true rfl),
  fun x0 x1 v t st h => ru_go rfl rfl,
  fun x ls st h => ru_go rfl rfl,
  fun x ls h => ru_ret rfl rfl⟩
theorem E116 (a0 : Nat) (a1 : Int32) {h : eH} {fs : List Value} (ha : h.1 a0 = .inr (9, fs)) : den 116 [.ref a0, .int a1] h = ru 116 0 [some (.ref a0), some (.int a1), none, none, none, none, none] [] h := den_ob (Nat.le_of_ble_eq_true rfl) ha
/-! 117 X9_scale -/
set_option maxRecDepth 100000 in
theorem H117_16 : (∀ (x0 x1 x2 x3 x4 : Option Value) (v : Int32) (t : eL) (st : List Value) (h : eH), ru 117 16 (x0 :: x1 :: x2 :: x3 :: x4 :: some (.int v) :: t) st h = ru 117 18 (x0 :: x1 :: x2 :: x3 :: x4 :: some (.int v) :: t) (.int v :: st) h) := fun x0 x1 x2 x3 x4 v t st h => ru_go rfl rfl
set_option maxRecDepth 100000 in
theorem H117_63 : (∀ (v : Nat) (t : eL) (st : List Value) (h : eH), ru 117 63 (some (.ref v) :: t) st h = ru 117 64 (some (.ref v) :: t) (.ref v :: st) h) := fun v t st h => ru_go rfl rfl
set_option maxRecDepth 100000 in
theorem S117 : (∀ (v : Nat) (t : eL) (st : List Value) (h : eH), ru 117 0 (some (.ref v) :: t) st h = ru 117 1 (some (.ref v) :: t) (.ref v :: st) h) ∧
  (∀ (v : Nat) (t : eL) (st : List Value) (h : eH), ru 117 1 (some (.ref v) :: t) st h = ru 117 2 (some (.ref v) :: t) (.ref v :: st) h) ∧
  (∀ (a : Nat) (ls : eL) (st : List Value) (h : eH), ru 117 2 ls (.ref a :: st) h = gF (h.1 a) 9 1 (fun v => ru 117 5 ls (v :: st) h)) ∧
  (∀ (ls : eL) (st : List Value) (h : eH), ru 117 5 ls st h = ru 117 6 ls (.int (nI 1) :: st) h) ∧
  (∀ (x y : Int32) (ls : eL) (st : List Value) (h : eH), ru 117 6 ls (.int y :: .int x :: st) h = ru 117 7 ls (.int (x + y) :: st) h) ∧
  (∀ (a0 : Nat) (a1 : Int32) (ls : eL) (h : eH), ru 117 7 ls [.int a1, .ref a0] h = cl (den 94 [.ref a0, .int a1] h) (fun v h => ru 117 10 ls (v.toList ++ []) h)) ∧
  (∀ (x0 x1 x2 : Option Value) (v : Int32) (t : eL) (st : List Value) (h : eH), ru 117 10 (x0 :: x1 :: x2 :: t) (.int v :: st) h = ru 117 11 (x0 :: eKl x1 :: some (.int v) :: t) st h) ∧
  (∀ (ls : eL) (st : List Value) (h : eH), ru 117 11 ls st h = ru 117 12 ls (.long (lN 0) :: st) h) ∧
  (∀ (x0 x1 x2 x3 x4 : Option Value) (v : Int64) (t : eL) (st : List Value) (h : eH), ru 117 12 (x0 :: x1 :: x2 :: x3 :: x4 :: t) (.long v :: st) h = ru 117 13 (x0 :: x1 :: eKl x2 :: some (.long v) :: none :: t) st h) ∧
  (∀ (ls : eL) (st : List Value) (h : eH), ru 117 13 ls st h = ru 117 14 ls (.int (nI 0) :: st) h) ∧
  (∀ (x0 x1 x2 x3 x4 x5 : Option Value) (v : Int32) (t : eL) (st : List Value) (h : eH), ru 117 14 (x0 :: x1 :: x2 :: x3 :: x4 :: x5 :: t) (.int v :: st) h = ru 117 16 (x0 :: x1 :: x2 :: x3 :: eKl x4 :: some (.int v) :: t) st h) ∧
  (∀ (x0 x1 : Option Value) (v : Int32) (t : eL) (st : List Value) (h : eH), ru 117 18 (x0 :: x1 :: some (.int v) :: t) st h = ru 117 19 (x0 :: x1 :: some (.int v) :: t) (.int v :: st) h) ∧
  (∀ (x y : Int32) (ls : eL) (st : List Value) (h : eH), ru 117 19 ls (.int y :: .int x :: st) h = if y ≤ x then ru 117 63 ls st h else ru 117 22 ls st h) ∧
  (∀ (v : Nat) (t : eL) (st : List Value) (h : eH), ru 117 22 (some (.ref v) :: t) st h = ru 117 23 (some (.ref v) :: t) (.ref v :: st) h) ∧
  (∀ (x0 x1 x2 x3 x4 : Option Value) (v : Int32) (t : eL) (st : List Value) (h : eH), ru 117 23 (x0 :: x1 :: x2 :: x3 :: x4 :: some (.int v) :: t) st h = ru 117 25 (x0 :: x1 :: x2 :: x3 :: x4 :: some (.int v) :: t) (.int v :: st) h) ∧
  (∀ (a0 : Nat) (a1 : Int32) (ls : eL) (h : eH), ru 117 25 ls [.int a1, .ref a0] h = cl (den 98 [.ref a0, .int a1] h) (fun v h => ru 117 28 ls (v.toList ++ []) h)) ∧
  (∀ (x : Int32) (ls : eL) (st : List Value) (h : eH), ru 117 28 ls (.int x :: st) h = ru 117 29 ls (.long (x.toInt64) :: st) h) ∧
  (∀ (x0 : Option Value) (v : Int32) (t : eL) (st : List Value) (h : eH), ru 117 29 (x0 :: some (.int v) :: t) st h = ru 117 30 (x0 :: some (.int v) :: t) (.int v :: st) h) ∧
  (∀ (x : Int32) (ls : eL) (st : List Value) (h : eH), ru 117 30 ls (.int x :: st) h = ru 117 31 ls (.long (x.toInt64) :: st) h) ∧
  (∀ (x y : Int64) (ls : eL) (st : List Value) (h : eH), ru 117 31 ls (.long y :: .long x :: st) h = ru 117 32 ls (.long (x * y) :: st) h) ∧
  (∀ (x0 x1 x2 : Option Value) (v : Int64) (t : eL) (st : List Value) (h : eH), ru 117 32 (x0 :: x1 :: x2 :: some (.long v) :: t) st h = ru 117 33 (x0 :: x1 :: x2 :: some (.long v) :: t) (.long v :: st) h) ∧
  (∀ (x y : Int64) (ls : eL) (st : List Value) (h : eH), ru 117 33 ls (.long y :: .long x :: st) h = ru 117 34 ls (.long (x + y) :: st) h) ∧
  (∀ (x0 x1 x2 x3 x4 x5 x6 x7 : Option Value) (v : Int64) (t : eL) (st : List Value) (h : eH), ru 117 34 (x0 :: x1 :: x2 :: x3 :: x4 :: x5 :: x6 :: x7 :: t) (.long v :: st) h = ru 117 36 (x0 :: x1 :: x2 :: x3 :: x4 :: eKl x5 :: some (.long v) :: none :: t) st h) ∧
  (∀ (v : Nat) (t : eL) (st : List Value) (h : eH), ru 117 36 (some (.ref v) :: t) st h = ru 117 37 (some (.ref v) :: t) (.ref v :: st) h) ∧
  (∀ (a : Nat) (ls : eL) (st : List Value) (h : eH), ru 117 37 ls (.ref a :: st) h = gF (h.1 a) 9 0 (fun v => ru 117 40 ls (v :: st) h)) ∧
  (∀ (x0 x1 x2 x3 x4 : Option Value) (v : Int32) (t : eL) (st : List Value) (h : eH), ru 117 40 (x0 :: x1 :: x2 :: x3 :: x4 :: some (.int v) :: t) st h = ru 117 42 (x0 :: x1 :: x2 :: x3 :: x4 :: some (.int v) :: t) (.int v :: st) h) ∧
  (∀ (x0 x1 x2 x3 x4 x5 : Option Value) (v : Int64) (t : eL) (st : List Value) (h : eH), ru 117 42 (x0 :: x1 :: x2 :: x3 :: x4 :: x5 :: some (.long v) :: t) st h = ru 117 44 (x0 :: x1 :: x2 :: x3 :: x4 :: x5 :: some (.long v) :: t) (.long v :: st) h) ∧
  (∀ (ls : eL) (st : List Value) (h : eH), ru 117 44 ls st h = ru 117 47 ls (.long (lN 1000000000) :: st) h) ∧
  (∀ (x y : Int64) (ls : eL) (st : List Value) (h : eH), ru 117 47 ls (.long y :: .long x :: st) h = if y = 0 then none else ru 117 48 ls (.long (x - x / y * y) :: st) h) ∧
  (∀ (x : Int64) (ls : eL) (st : List Value) (h : eH), ru 117 48 ls (.long x :: st) h = ru 117 49 ls (.int (x.toInt32) :: st) h) ∧
  (∀ (x : Int32) (i : Int32) (a : Nat) (ls : eL) (st : List Value) (h : eH), ru 117 49 ls (.int x :: .int i :: .ref a :: st) h = wI (h.1 a) i x (fun e => ru 117 50 ls st (eUp h a e))) ∧
  (∀ (x0 x1 x2 x3 x4 x5 : Option Value) (v : Int64) (t : eL) (st : List Value) (h : eH), ru 117 50 (x0 :: x1 :: x2 :: x3 :: x4 :: x5 :: some (.long v) :: t) st h = ru 117 52 (x0 :: x1 :: x2 :: x3 :: x4 :: x5 :: some (.long v) :: t) (.long v :: st) h) ∧
  (∀ (ls : eL) (st : List Value) (h : eH), ru 117 52 ls st h = ru 117 55 ls (.long (lN 1000000000) :: st) h) ∧
  (∀ (x y : Int64) (ls : eL) (st : List Value) (h : eH), ru 117 55 ls (.long y :: .long x :: st) h = if y = 0 then none else ru 117 56 ls (.long (x / y) :: st) h) ∧
  (∀ (x0 x1 x2 x3 x4 : Option Value) (v : Int64) (t : eL) (st : List Value) (h : eH), ru 117 56 (x0 :: x1 :: x2 :: x3 :: x4 :: t) (.long v :: st) h = ru 117 57 (x0 :: x1 :: eKl x2 :: some (.long v) :: none :: t) st h) ∧
  (∀ (x0 x1 x2 x3 x4 : Option Value) (v : Int32) (t : eL) (st : List Value) (h : eH), ru 117 57 (x0 :: x1 :: x2 :: x3 :: x4 :: some (.int v) :: t) st h = ru 117 60 (x0 :: x1 :: x2 :: x3 :: eKl x4 :: some (.int (v + 1)) :: t) st h) ∧
  (∀ (ls : eL) (st : List Value) (h : eH), ru 117 60 ls st h = ru 117 16 ls st h) ∧
  (∀ (x0 x1 : Option Value) (v : Int32) (t : eL) (st : List Value) (h : eH), ru 117 64 (x0 :: x1 :: some (.int v) :: t) st h = ru 117 65 (x0 :: x1 :: some (.int v) :: t) (.int v :: st) h) ∧
  (∀ (a0 : Nat) (a1 : Int32) (ls : eL) (h : eH), ru 117 65 ls [.int a1, .ref a0] h = cl (den 95 [.ref a0, .int a1] h) (fun v h => ru 117 68 ls (v.toList ++ []) h)) ∧
  (∀ (ls : eL) (h : eH), ru 117 68 ls [] h = some (none, h)) := ⟨fun v t st h => ru_go rfl rfl,
  fun v t st h => ru_go rfl rfl,
  fun a ls st h => ru_getf rfl,
  fun ls st h => ru_go rfl rfl,
  fun x y ls st h => ru_go rfl rfl,
  fun a0 a1 ls h => ru_inv rfl (by decide) rfl (Nat.le_of_ble_eq_true rfl),
  fun x0 x1 x2 v t st h => ru_go rfl rfl,
  fun ls st h => ru_go rfl rfl,
  fun x0 x1 x2 x3 x4 v t st h => ru_go rfl rfl,
  fun ls st h => ru_go rfl rfl,
  fun x0 x1 x2 x3 x4 x5 v t st h => ru_go rfl rfl,
  fun x0 x1 v t st h => ru_go rfl rfl,
  fun x y ls st h => ru_if rfl rfl,
  fun v t st h => ru_go rfl rfl,
  fun x0 x1 x2 x3 x4 v t st h => ru_go rfl rfl,
  fun a0 a1 ls h => ru_inv rfl (by decide) rfl (Nat.le_of_ble_eq_true rfl),
  fun x ls st h => ru_go rfl rfl,
  fun x0 v t st h => ru_go rfl rfl,
  fun x ls st h => ru_go rfl rfl,
  fun x y ls st h => ru_go rfl rfl,
  fun x0 x1 x2 v t st h => ru_go rfl rfl,
  fun x y ls st h => ru_go rfl rfl,
  fun x0 x1 x2 x3 x4 x5 x6 x7 v t st h => ru_go rfl rfl,
  fun v t st h => ru_go rfl rfl,
  fun a ls st h => ru_getf rfl,
  fun x0 x1 x2 x3 x4 v t st h => ru_go rfl rfl,
  fun x0 x1 x2 x3 x4 x5 v t st h => ru_go rfl rfl,
  fun ls st h => ru_go rfl rfl,
  fun x y ls st h => ru_guard rfl rfl,
  fun x ls st h => ru_go rfl rfl,
  fun x i a ls st h => ru_iast rfl,
  fun x0 x1 x2 x3 x4 x5 v t st h => ru_go rfl rfl,
  fun ls st h => ru_go rfl rfl,
  fun x y ls st h => ru_guard rfl rfl,
  fun x0 x1 x2 x3 x4 v t st h => ru_go rfl rfl,
  fun x0 x1 x2 x3 x4 v t st h => ru_go rfl rfl,
  fun ls st h => ru_go rfl rfl,
  fun x0 x1 v t st h => ru_go rfl rfl,
  fun a0 a1 ls h => ru_inv rfl (by decide) rfl (Nat.le_of_ble_eq_true rfl),
  fun ls h => ru_ret rfl rfl⟩
theorem E117 (a0 : Nat) (a1 : Int32) {h : eH} {fs : List Value} (ha : h.1 a0 = .inr (9, fs)) : den 117 [.ref a0, .int a1] h = ru 117 0 [some (.ref a0), some (.int a1), none, none, none, none, none, none] [] h := den_ob (Nat.le_of_ble_eq_true rfl) ha
/-! 118 X2_giveBack -/
set_option maxRecDepth 100000 in
theorem H118_5 : (∀ (x0 x1 x2 x3 : Option Value) (v : Int32) (t : eL) (st : List Value) (h : eH), ru 118 5 (x0 :: x1 :: x2 :: x3 :: some (.int v) :: t) st h = ru 118 7 (x0 :: x1 :: x2 :: x3 :: some (.int v) :: t) (.int v :: st) h) := fun x0 x1 x2 x3 v t st h => ru_go rfl rfl
set_option maxRecDepth 100000 in
theorem H118_70 : (∀ (x0 : Option Value) (v : Nat) (t : eL) (st : List Value) (h : eH), ru 118 70 (x0 :: some (.ref v) :: t) st h = ru 118 71 (x0 :: some (.ref v) :: t) (.ref v :: st) h) := fun x0 v t st h => ru_go rfl rfl
set_option maxRecDepth 100000 in
theorem S118 : (∀ (ls : eL) (st : List Value) (h : eH), ru 118 0 ls st h = ru 118 1 ls (.int (nI 0) :: st) h) ∧
  (∀ (x0 x1 x2 x3 : Option Value) (v : Int32) (t : eL) (st : List Value) (h : eH), ru 118 1 (x0 :: x1 :: x2 :: x3 :: t) (.int v :: st) h = ru 118 2 (x0 :: x1 :: eKl x2 :: some (.int v) :: t) st h) ∧
  (∀ (ls : eL) (st : List Value) (h : eH), ru 118 2 ls st h = ru 118 3 ls (.int (nI 0) :: st) h) ∧
  (∀ (x0 x1 x2 x3 x4 : Option Value) (v : Int32) (t : eL) (st : List Value) (h : eH), ru 118 3 (x0 :: x1 :: x2 :: x3 :: x4 :: t) (.int v :: st) h = ru 118 5 (x0 :: x1 :: x2 :: eKl x3 :: some (.int v) :: t) st h) ∧
  (∀ (v : Nat) (t : eL) (st : List Value) (h : eH), ru 118 7 (some (.ref v) :: t) st h = ru 118 8 (some (.ref v) :: t) (.ref v :: st) h) ∧
  (∀ (a : Nat) (ls : eL) (st : List Value) (h : eH), ru 118 8 ls (.ref a :: st) h = gF (h.1 a) 2 1 (fun v => ru 118 11 ls (v :: st) h)) ∧
  (∀ (a : Nat) (ls : eL) (st : List Value) (h : eH), ru 118 11 ls (.ref a :: st) h = gF (h.1 a) 9 1 (fun v => ru 118 14 ls (v :: st) h)) ∧
  (∀ (x y : Int32) (ls : eL) (st : List Value) (h : eH), ru 118 14 ls (.int y :: .int x :: st) h = if y ≤ x then ru 118 70 ls st h else ru 118 17 ls st h) ∧
  (∀ (x0 : Option Value) (v : Nat) (t : eL) (st : List Value) (h : eH), ru 118 17 (x0 :: some (.ref v) :: t) st h = ru 118 18 (x0 :: some (.ref v) :: t) (.ref v :: st) h) ∧
  (∀ (x0 x1 : Option Value) (v : Int32) (t : eL) (st : List Value) (h : eH), ru 118 18 (x0 :: x1 :: some (.int v) :: t) st h = ru 118 19 (x0 :: x1 :: some (.int v) :: t) (.int v :: st) h) ∧
  (∀ (x0 x1 x2 x3 : Option Value) (v : Int32) (t : eL) (st : List Value) (h : eH), ru 118 19 (x0 :: x1 :: x2 :: x3 :: some (.int v) :: t) st h = ru 118 21 (x0 :: x1 :: x2 :: x3 :: some (.int v) :: t) (.int v :: st) h) ∧
  (∀ (x y : Int32) (ls : eL) (st : List Value) (h : eH), ru 118 21 ls (.int y :: .int x :: st) h = ru 118 22 ls (.int (x + y) :: st) h) ∧
  (∀ (i : Int32) (a : Nat) (ls : eL) (st : List Value) (h : eH), ru 118 22 ls (.int i :: .ref a :: st) h = aI (h.1 a) 0 i (fun v => ru 118 23 ls (.int v :: st) h)) ∧
  (∀ (v : Nat) (t : eL) (st : List Value) (h : eH), ru 118 23 (some (.ref v) :: t) st h = ru 118 24 (some (.ref v) :: t) (.ref v :: st) h) ∧
  (∀ (a : Nat) (ls : eL) (st : List Value) (h : eH), ru 118 24 ls (.ref a :: st) h = gF (h.1 a) 2 1 (fun v => ru 118 27 ls (v :: st) h)) ∧
  (∀ (a : Nat) (ls : eL) (st : List Value) (h : eH), ru 118 27 ls (.ref a :: st) h = gF (h.1 a) 9 0 (fun v => ru 118 30 ls (v :: st) h)) ∧
  (∀ (x0 x1 x2 x3 : Option Value) (v : Int32) (t : eL) (st : List Value) (h : eH), ru 118 30 (x0 :: x1 :: x2 :: x3 :: some (.int v) :: t) st h = ru 118 32 (x0 :: x1 :: x2 :: x3 :: some (.int v) :: t) (.int v :: st) h) ∧
  (∀ (i : Int32) (a : Nat) (ls : eL) (st : List Value) (h : eH), ru 118 32 ls (.int i :: .ref a :: st) h = aI (h.1 a) 0 i (fun v => ru 118 33 ls (.int v :: st) h)) ∧
  (∀ (x y : Int32) (ls : eL) (st : List Value) (h : eH), ru 118 33 ls (.int y :: .int x :: st) h = ru 118 34 ls (.int (x + y) :: st) h) ∧
  (∀ (x0 x1 x2 : Option Value) (v : Int32) (t : eL) (st : List Value) (h : eH), ru 118 34 (x0 :: x1 :: x2 :: some (.int v) :: t) st h = ru 118 35 (x0 :: x1 :: x2 :: some (.int v) :: t) (.int v :: st) h) ∧
  (∀ (x y : Int32) (ls : eL) (st : List Value) (h : eH), ru 118 35 ls (.int y :: .int x :: st) h = ru 118 36 ls (.int (x + y) :: st) h) ∧
  (∀ (x0 x1 x2 x3 x4 x5 : Option Value) (v : Int32) (t : eL) (st : List Value) (h : eH), ru 118 36 (x0 :: x1 :: x2 :: x3 :: x4 :: x5 :: t) (.int v :: st) h = ru 118 38 (x0 :: x1 :: x2 :: x3 :: eKl x4 :: some (.int v) :: t) st h) ∧
  (∀ (x0 x1 x2 x3 x4 : Option Value) (v : Int32) (t : eL) (st : List Value) (h : eH), ru 118 38 (x0 :: x1 :: x2 :: x3 :: x4 :: some (.int v) :: t) st h = ru 118 40 (x0 :: x1 :: x2 :: x3 :: x4 :: some (.int v) :: t) (.int v :: st) h) ∧
  (∀ (ls : eL) (st : List Value) (h : eH), ru 118 40 ls st h = ru 118 42 ls (.int (nI 1000000000) :: st) h) ∧
  (∀ (x y : Int32) (ls : eL) (st : List Value) (h : eH), ru 118 42 ls (.int y :: .int x :: st) h = if x < y then ru 118 49 ls st h else ru 118 45 ls st h) ∧
  (∀ (ls : eL) (st : List Value) (h : eH), ru 118 45 ls st h = ru 118 46 ls (.int (nI 1) :: st) h) ∧
  (∀ (ls : eL) (st : List Value) (h : eH), ru 118 46 ls st h = ru 118 50 ls st h) ∧
  (∀ (ls : eL) (st : List Value) (h : eH), ru 118 49 ls st h = ru 118 50 ls (.int (nI 0) :: st) h) ∧
  (∀ (x0 x1 x2 x3 : Option Value) (v : Int32) (t : eL) (st : List Value) (h : eH), ru 118 50 (x0 :: x1 :: x2 :: x3 :: t) (.int v :: st) h = ru 118 51 (x0 :: x1 :: eKl x2 :: some (.int v) :: t) st h) ∧
  (∀ (x0 : Option Value) (v : Nat) (t : eL) (st : List Value) (h : eH), ru 118 51 (x0 :: some (.ref v) :: t) st h = ru 118 52 (x0 :: some (.ref v) :: t) (.ref v :: st) h) ∧
  (∀ (x0 x1 : Option Value) (v : Int32) (t : eL) (st : List Value) (h : eH), ru 118 52 (x0 :: x1 :: some (.int v) :: t) st h = ru 118 53 (x0 :: x1 :: some (.int v) :: t) (.int v :: st) h) ∧
  (∀ (x0 x1 x2 x3 : Option Value) (v : Int32) (t : eL) (st : List Value) (h : eH), ru 118 53 (x0 :: x1 :: x2 :: x3 :: some (.int v) :: t) st h = ru 118 55 (x0 :: x1 :: x2 :: x3 :: some (.int v) :: t) (.int v :: st) h) ∧
  (∀ (x y : Int32) (ls : eL) (st : List Value) (h : eH), ru 118 55 ls (.int y :: .int x :: st) h = ru 118 56 ls (.int (x + y) :: st) h) ∧
  (∀ (x0 x1 x2 x3 x4 : Option Value) (v : Int32) (t : eL) (st : List Value) (h : eH), ru 118 56 (x0 :: x1 :: x2 :: x3 :: x4 :: some (.int v) :: t) st h = ru 118 58 (x0 :: x1 :: x2 :: x3 :: x4 :: some (.int v) :: t) (.int v :: st) h) ∧
  (∀ (x0 x1 x2 : Option Value) (v : Int32) (t : eL) (st : List Value) (h : eH), ru 118 58 (x0 :: x1 :: x2 :: some (.int v) :: t) st h = ru 118 59 (x0 :: x1 :: x2 :: some (.int v) :: t) (.int v :: st) h) ∧
  (∀ (ls : eL) (st : List Value) (h : eH), ru 118 59 ls st h = ru 118 61 ls (.int (nI 1000000000) :: st) h) ∧
  (∀ (x y : Int32) (ls : eL) (st : List Value) (h : eH), ru 118 61 ls (.int y :: .int x :: st) h = ru 118 62 ls (.int (x * y) :: st) h) ∧
  (∀ (x y : Int32) (ls : eL) (st : List Value) (h : eH), ru 118 62 ls (.int y :: .int x :: st) h = ru 118 63 ls (.int (x - y) :: st) h) ∧
  (∀ (x : Int32) (i : Int32) (a : Nat) (ls : eL) (st : List Value) (h : eH), ru 118 63 ls (.int x :: .int i :: .ref a :: st) h = wI (h.1 a) i x (fun e => ru 118 64 ls st (eUp h a e))) ∧
  (∀ (x0 x1 x2 x3 : Option Value) (v : Int32) (t : eL) (st : List Value) (h : eH), ru 118 64 (x0 :: x1 :: x2 :: x3 :: some (.int v) :: t) st h = ru 118 67 (x0 :: x1 :: x2 :: eKl x3 :: some (.int (v + 1)) :: t) st h) ∧
  (∀ (ls : eL) (st : List Value) (h : eH), ru 118 67 ls st h = ru 118 5 ls st h) ∧
  (∀ (x0 x1 : Option Value) (v : Int32) (t : eL) (st : List Value) (h : eH), ru 118 71 (x0 :: x1 :: some (.int v) :: t) st h = ru 118 72 (x0 :: x1 :: some (.int v) :: t) (.int v :: st) h) ∧
  (∀ (v : Nat) (t : eL) (st : List Value) (h : eH), ru 118 72 (some (.ref v) :: t) st h = ru 118 73 (some (.ref v) :: t) (.ref v :: st) h) ∧
  (∀ (a : Nat) (ls : eL) (st : List Value) (h : eH), ru 118 73 ls (.ref a :: st) h = gF (h.1 a) 2 1 (fun v => ru 118 76 ls (v :: st) h)) ∧
  (∀ (a : Nat) (ls : eL) (st : List Value) (h : eH), ru 118 76 ls (.ref a :: st) h = gF (h.1 a) 9 1 (fun v => ru 118 79 ls (v :: st) h)) ∧
  (∀ (x y : Int32) (ls : eL) (st : List Value) (h : eH), ru 118 79 ls (.int y :: .int x :: st) h = ru 118 80 ls (.int (x + y) :: st) h) ∧
  (∀ (x : Int32) (a : Nat) (ls : eL) (st : List Value) (h : eH), ru 118 80 ls (.int x :: .ref a :: st) h = ru 118 81 ls (.int x :: .ref a :: .int x :: .ref a :: st) h) ∧
  (∀ (i : Int32) (a : Nat) (ls : eL) (st : List Value) (h : eH), ru 118 81 ls (.int i :: .ref a :: st) h = aI (h.1 a) 0 i (fun v => ru 118 82 ls (.int v :: st) h)) ∧
  (∀ (x0 x1 x2 : Option Value) (v : Int32) (t : eL) (st : List Value) (h : eH), ru 118 82 (x0 :: x1 :: x2 :: some (.int v) :: t) st h = ru 118 83 (x0 :: x1 :: x2 :: some (.int v) :: t) (.int v :: st) h) ∧
  (∀ (x y : Int32) (ls : eL) (st : List Value) (h : eH), ru 118 83 ls (.int y :: .int x :: st) h = ru 118 84 ls (.int (x + y) :: st) h) ∧
  (∀ (x : Int32) (i : Int32) (a : Nat) (ls : eL) (st : List Value) (h : eH), ru 118 84 ls (.int x :: .int i :: .ref a :: st) h = wI (h.1 a) i x (fun e => ru 118 85 ls st (eUp h a e))) ∧
  (∀ (ls : eL) (h : eH), ru 118 85 ls [] h = some (none, h)) := ⟨fun ls st h => ru_go rfl rfl,
  fun x0 x1 x2 x3 v t st h => ru_go rfl rfl,
  fun ls st h => ru_go rfl rfl,
  fun x0 x1 x2 x3 x4 v t st h => ru_go rfl rfl,
  fun v t st h => ru_go rfl rfl,
  fun a ls st h => ru_getf rfl,
  fun a ls st h => ru_getf rfl,
  fun x y ls st h => ru_if rfl rfl,
  fun x0 v t st h => ru_go rfl rfl,
  fun x0 x1 v t st h => ru_go rfl rfl,
  fun x0 x1 x2 x3 v t st h => ru_go rfl rfl,
  fun x y ls st h => ru_go rfl rfl,
  fun i a ls st h => ru_iald rfl,
  fun v t st h => ru_go rfl rfl,
  fun a ls st h => ru_getf rfl,
  fun a ls st h => ru_getf rfl,
  fun x0 x1 x2 x3 v t st h => ru_go rfl rfl,
  fun i a ls st h => ru_iald rfl,
  fun x y ls st h => ru_go rfl rfl,
  fun x0 x1 x2 v t st h => ru_go rfl rfl,
  fun x y ls st h => ru_go rfl rfl,
  fun x0 x1 x2 x3 x4 x5 v t st h => ru_go rfl rfl,
  fun x0 x1 x2 x3 x4 v t st h => ru_go rfl rfl,
  fun ls st h => ru_go rfl rfl,
  fun x y ls st h => ru_if rfl rfl,
  fun ls st h => ru_go rfl rfl,
  fun ls st h => ru_go rfl rfl,
  fun ls st h => ru_go rfl rfl,
  fun x0 x1 x2 x3 v t st h => ru_go rfl rfl,
  fun x0 v t st h => ru_go rfl rfl,
  fun x0 x1 v t st h => ru_go rfl rfl,
  fun x0 x1 x2 x3 v t st h => ru_go rfl rfl,
  fun x y ls st h => ru_go rfl rfl,
  fun x0 x1 x2 x3 x4 v t st h => ru_go rfl rfl,
  fun x0 x1 x2 v t st h => ru_go rfl rfl,
  fun ls st h => ru_go rfl rfl,
  fun x y ls st h => ru_go rfl rfl,
  fun x y ls st h => ru_go rfl rfl,
  fun x i a ls st h => ru_iast rfl,
  fun x0 x1 x2 x3 v t st h => ru_go rfl rfl,
  fun ls st h => ru_go rfl rfl,
  fun x0 x1 v t st h => ru_go rfl rfl,
  fun v t st h => ru_go rfl rfl,
  fun a ls st h => ru_getf rfl,
  fun a ls st h => ru_getf rfl,
  fun x y ls st h => ru_go rfl rfl,
  fun x a ls st h => ru_go rfl rfl,
  fun i a ls st h => ru_iald rfl,
  fun x0 x1 x2 v t st h => ru_go rfl rfl,
  fun x y ls st h => ru_go rfl rfl,
  fun x i a ls st h => ru_iast rfl,
  fun ls h => ru_ret rfl rfl⟩
theorem E118 (a0 : Nat) (a1 : Nat) (a2 : Int32) {h : eH} {fs : List Value} (ha : h.1 a0 = .inr (2, fs)) : den 118 [.ref a0, .ref a1, .int a2] h = ru 118 0 [some (.ref a0), some (.ref a1), some (.int a2), none, none, none] [] h := den_ob (Nat.le_of_ble_eq_true rfl) ha
/-! 119 X2_takeDigit -/
set_option maxRecDepth 100000 in
theorem H119_90 : (∀ (x0 x1 x2 x3 x4 x5 x6 x7 x8 x9 x10 : Option Value) (v : Int32) (t : eL) (st : List Value) (h : eH), ru 119 90 (x0 :: x1 :: x2 :: x3 :: x4 :: x5 :: x6 :: x7 :: x8 :: x9 :: x10 :: some (.int v) :: t) st h = ru 119 92 (x0 :: x1 :: x2 :: x3 :: x4 :: x5 :: x6 :: x7 :: x8 :: x9 :: x10 :: some (.int v) :: t) (.int v :: st) h) := fun x0 x1 x2 x3 x4 x5 x6 x7 x8 x9 x10 v t st h => ru_go rfl rfl
set_option maxRecDepth 100000 in
theorem H119_168 : (∀ (x0 : Option Value) (v : Nat) (t : eL) (st : List Value) (h : eH), ru 119 168 (x0 :: some (.ref v) :: t) st h = ru 119 169 (x0 :: some (.ref v) :: t) (.ref v :: st) h) := fun x0 v t st h => ru_go rfl rfl
set_option maxRecDepth 100000 in
theorem H119_181 : (∀ (x0 x1 x2 x3 x4 x5 x6 x7 x8 x9 x10 : Option Value) (v : Int32) (t : eL) (st : List Value) (h : eH), ru 119 181 (x0 :: x1 :: x2 :: x3 :: x4 :: x5 :: x6 :: x7 :: x8 :: x9 :: x10 :: some (.int v) :: t) st h = ru 119 183 (x0 :: x1 :: x2 :: x3 :: x4 :: x5 :: x6 :: x7 :: x8 :: x9 :: x10 :: some (.int v) :: t) (.int v :: st) h) := fun x0 x1 x2 x3 x4 x5 x6 x7 x8 x9 x10 v t st h => ru_go rfl rfl
set_option maxRecDepth 100000 in
theorem H119_212 : (∀ (x0 x1 x2 x3 x4 x5 x6 : Option Value) (v : Int64) (t : eL) (st : List Value) (h : eH), ru 119 212 (x0 :: x1 :: x2 :: x3 :: x4 :: x5 :: x6 :: some (.long v) :: t) st h = ru 119 214 (x0 :: x1 :: x2 :: x3 :: x4 :: x5 :: x6 :: some (.long v) :: t) (.long v :: st) h) := fun x0 x1 x2 x3 x4 x5 x6 v t st h => ru_go rfl rfl
set_option maxRecDepth 100000 in
theorem S119 : (∀ (v : Nat) (t : eL) (st : List Value) (h : eH), ru 119 0 (some (.ref v) :: t) st h = ru 119 1 (some (.ref v) :: t) (.ref v :: st) h) ∧
  (∀ (a : Nat) (ls : eL) (st : List Value) (h : eH), ru 119 1 ls (.ref a :: st) h = gF (h.1 a) 2 1 (fun v => ru 119 4 ls (v :: st) h)) ∧
  (∀ (a : Nat) (ls : eL) (st : List Value) (h : eH), ru 119 4 ls (.ref a :: st) h = gF (h.1 a) 9 1 (fun v => ru 119 7 ls (v :: st) h)) ∧
  (∀ (x0 x1 x2 x3 : Option Value) (v : Int32) (t : eL) (st : List Value) (h : eH), ru 119 7 (x0 :: x1 :: x2 :: x3 :: t) (.int v :: st) h = ru 119 8 (x0 :: x1 :: eKl x2 :: some (.int v) :: t) st h) ∧
  (∀ (x0 x1 : Option Value) (v : Int32) (t : eL) (st : List Value) (h : eH), ru 119 8 (x0 :: x1 :: some (.int v) :: t) st h = ru 119 9 (x0 :: x1 :: some (.int v) :: t) (.int v :: st) h) ∧
  (∀ (x0 x1 x2 : Option Value) (v : Int32) (t : eL) (st : List Value) (h : eH), ru 119 9 (x0 :: x1 :: x2 :: some (.int v) :: t) st h = ru 119 10 (x0 :: x1 :: x2 :: some (.int v) :: t) (.int v :: st) h) ∧
  (∀ (x y : Int32) (ls : eL) (st : List Value) (h : eH), ru 119 10 ls (.int y :: .int x :: st) h = ru 119 11 ls (.int (x + y) :: st) h) ∧
  (∀ (x0 x1 x2 x3 x4 : Option Value) (v : Int32) (t : eL) (st : List Value) (h : eH), ru 119 11 (x0 :: x1 :: x2 :: x3 :: x4 :: t) (.int v :: st) h = ru 119 13 (x0 :: x1 :: x2 :: eKl x3 :: some (.int v) :: t) st h) ∧
  (∀ (x0 x1 x2 : Option Value) (v : Int32) (t : eL) (st : List Value) (h : eH), ru 119 13 (x0 :: x1 :: x2 :: some (.int v) :: t) st h = ru 119 14 (x0 :: x1 :: x2 :: some (.int v) :: t) (.int v :: st) h) ∧
  (∀ (ls : eL) (st : List Value) (h : eH), ru 119 14 ls st h = ru 119 15 ls (.int (nI 1) :: st) h) ∧
  (∀ (x y : Int32) (ls : eL) (st : List Value) (h : eH), ru 119 15 ls (.int y :: .int x :: st) h = if x < y then ru 119 40 ls st h else ru 119 18 ls st h) ∧
  (∀ (v : Nat) (t : eL) (st : List Value) (h : eH), ru 119 18 (some (.ref v) :: t) st h = ru 119 19 (some (.ref v) :: t) (.ref v :: st) h) ∧
  (∀ (a : Nat) (ls : eL) (st : List Value) (h : eH), ru 119 19 ls (.ref a :: st) h = gF (h.1 a) 2 1 (fun v => ru 119 22 ls (v :: st) h)) ∧
  (∀ (a : Nat) (ls : eL) (st : List Value) (h : eH), ru 119 22 ls (.ref a :: st) h = gF (h.1 a) 9 0 (fun v => ru 119 25 ls (v :: st) h)) ∧
  (∀ (x0 x1 x2 : Option Value) (v : Int32) (t : eL) (st : List Value) (h : eH), ru 119 25 (x0 :: x1 :: x2 :: some (.int v) :: t) st h = ru 119 26 (x0 :: x1 :: x2 :: some (.int v) :: t) (.int v :: st) h) ∧
  (∀ (ls : eL) (st : List Value) (h : eH), ru 119 26 ls st h = ru 119 27 ls (.int (nI 1) :: st) h) ∧
  (∀ (x y : Int32) (ls : eL) (st : List Value) (h : eH), ru 119 27 ls (.int y :: .int x :: st) h = ru 119 28 ls (.int (x - y) :: st) h) ∧
  (∀ (i : Int32) (a : Nat) (ls : eL) (st : List Value) (h : eH), ru 119 28 ls (.int i :: .ref a :: st) h = aI (h.1 a) 0 i (fun v => ru 119 29 ls (.int v :: st) h)) ∧
  (∀ (ls : eL) (st : List Value) (h : eH), ru 119 29 ls st h = ru 119 30 ls (.int (nI 1) :: st) h) ∧
  (∀ (x y : Int32) (ls : eL) (st : List Value) (h : eH), ru 119 30 ls (.int y :: .int x :: st) h = if x < y then ru 119 40 ls st h else ru 119 33 ls st h) ∧
  (∀ (x0 x1 x2 x3 : Option Value) (v : Int32) (t : eL) (st : List Value) (h : eH), ru 119 33 (x0 :: x1 :: x2 :: x3 :: some (.int v) :: t) st h = ru 119 35 (x0 :: x1 :: x2 :: x3 :: some (.int v) :: t) (.int v :: st) h) ∧
  (∀ (x0 : Option Value) (v : Nat) (t : eL) (st : List Value) (h : eH), ru 119 35 (x0 :: some (.ref v) :: t) st h = ru 119 36 (x0 :: some (.ref v) :: t) (.ref v :: st) h) ∧
  (∀ (a : Nat) (ls : eL) (st : List Value) (h : eH), ru 119 36 ls (.ref a :: st) h = aN (h.1 a) (fun v => ru 119 37 ls (.int v :: st) h)) ∧
  (∀ (x y : Int32) (ls : eL) (st : List Value) (h : eH), ru 119 37 ls (.int y :: .int x :: st) h = if x < y then ru 119 42 ls st h else ru 119 40 ls st h) ∧
  (∀ (ls : eL) (st : List Value) (h : eH), ru 119 40 ls st h = ru 119 41 ls (.int (nI 0) :: st) h) ∧
  (∀ (x : Int32) (ls : eL) (h : eH), ru 119 41 ls [.int x] h = some (some (.int x), h)) ∧
  (∀ (x0 : Option Value) (v : Nat) (t : eL) (st : List Value) (h : eH), ru 119 42 (x0 :: some (.ref v) :: t) st h = ru 119 43 (x0 :: some (.ref v) :: t) (.ref v :: st) h) ∧
  (∀ (x0 x1 x2 x3 : Option Value) (v : Int32) (t : eL) (st : List Value) (h : eH), ru 119 43 (x0 :: x1 :: x2 :: x3 :: some (.int v) :: t) st h = ru 119 45 (x0 :: x1 :: x2 :: x3 :: some (.int v) :: t) (.int v :: st) h) ∧
  (∀ (i : Int32) (a : Nat) (ls : eL) (st : List Value) (h : eH), ru 119 45 ls (.int i :: .ref a :: st) h = aI (h.1 a) 0 i (fun v => ru 119 46 ls (.int v :: st) h)) ∧
  (∀ (x : Int32) (ls : eL) (st : List Value) (h : eH), ru 119 46 ls (.int x :: st) h = ru 119 47 ls (.long (x.toInt64) :: st) h) ∧
  (∀ (ls : eL) (st : List Value) (h : eH), ru 119 47 ls st h = ru 119 50 ls (.long (lN 1000000000) :: st) h) ∧
  (∀ (x y : Int64) (ls : eL) (st : List Value) (h : eH), ru 119 50 ls (.long y :: .long x :: st) h = ru 119 51 ls (.long (x * y) :: st) h) ∧
  (∀ (x0 : Option Value) (v : Nat) (t : eL) (st : List Value) (h : eH), ru 119 51 (x0 :: some (.ref v) :: t) st h = ru 119 52 (x0 :: some (.ref v) :: t) (.ref v :: st) h) ∧
  (∀ (x0 x1 x2 x3 : Option Value) (v : Int32) (t : eL) (st : List Value) (h : eH), ru 119 52 (x0 :: x1 :: x2 :: x3 :: some (.int v) :: t) st h = ru 119 54 (x0 :: x1 :: x2 :: x3 :: some (.int v) :: t) (.int v :: st) h) ∧
  (∀ (ls : eL) (st : List Value) (h : eH), ru 119 54 ls st h = ru 119 55 ls (.int (nI 1) :: st) h) ∧
  (∀ (x y : Int32) (ls : eL) (st : List Value) (h : eH), ru 119 55 ls (.int y :: .int x :: st) h = ru 119 56 ls (.int (x - y) :: st) h) ∧
  (∀ (i : Int32) (a : Nat) (ls : eL) (st : List Value) (h : eH), ru 119 56 ls (.int i :: .ref a :: st) h = aI (h.1 a) 0 i (fun v => ru 119 57 ls (.int v :: st) h)) ∧
  (∀ (x : Int32) (ls : eL) (st : List Value) (h : eH), ru 119 57 ls (.int x :: st) h = ru 119 58 ls (.long (x.toInt64) :: st) h) ∧
  (∀ (x y : Int64) (ls : eL) (st : List Value) (h : eH), ru 119 58 ls (.long y :: .long x :: st) h = ru 119 59 ls (.long (x + y) :: st) h) ∧
  (∀ (x0 x1 x2 x3 x4 x5 x6 : Option Value) (v : Int64) (t : eL) (st : List Value) (h : eH), ru 119 59 (x0 :: x1 :: x2 :: x3 :: x4 :: x5 :: x6 :: t) (.long v :: st) h = ru 119 61 (x0 :: x1 :: x2 :: x3 :: eKl x4 :: some (.long v) :: none :: t) st h) ∧
  (∀ (x0 x1 x2 x3 x4 : Option Value) (v : Int64) (t : eL) (st : List Value) (h : eH), ru 119 61 (x0 :: x1 :: x2 :: x3 :: x4 :: some (.long v) :: t) st h = ru 119 63 (x0 :: x1 :: x2 :: x3 :: x4 :: some (.long v) :: t) (.long v :: st) h) ∧
  (∀ (v : Nat) (t : eL) (st : List Value) (h : eH), ru 119 63 (some (.ref v) :: t) st h = ru 119 64 (some (.ref v) :: t) (.ref v :: st) h) ∧
  (∀ (a : Nat) (ls : eL) (st : List Value) (h : eH), ru 119 64 ls (.ref a :: st) h = gF (h.1 a) 2 1 (fun v => ru 119 67 ls (v :: st) h)) ∧
  (∀ (a : Nat) (ls : eL) (st : List Value) (h : eH), ru 119 67 ls (.ref a :: st) h = gF (h.1 a) 9 0 (fun v => ru 119 70 ls (v :: st) h)) ∧
  (∀ (x0 x1 x2 : Option Value) (v : Int32) (t : eL) (st : List Value) (h : eH), ru 119 70 (x0 :: x1 :: x2 :: some (.int v) :: t) st h = ru 119 71 (x0 :: x1 :: x2 :: some (.int v) :: t) (.int v :: st) h) ∧
  (∀ (ls : eL) (st : List Value) (h : eH), ru 119 71 ls st h = ru 119 72 ls (.int (nI 1) :: st) h) ∧
  (∀ (x y : Int32) (ls : eL) (st : List Value) (h : eH), ru 119 72 ls (.int y :: .int x :: st) h = ru 119 73 ls (.int (x - y) :: st) h) ∧
  (∀ (i : Int32) (a : Nat) (ls : eL) (st : List Value) (h : eH), ru 119 73 ls (.int i :: .ref a :: st) h = aI (h.1 a) 0 i (fun v => ru 119 74 ls (.int v :: st) h)) ∧
  (∀ (x : Int32) (ls : eL) (st : List Value) (h : eH), ru 119 74 ls (.int x :: st) h = ru 119 75 ls (.long (x.toInt64) :: st) h) ∧
  (∀ (x y : Int64) (ls : eL) (st : List Value) (h : eH), ru 119 75 ls (.long y :: .long x :: st) h = if y = 0 then none else ru 119 76 ls (.long (x / y) :: st) h) ∧
  (∀ (ls : eL) (st : List Value) (h : eH), ru 119 76 ls st h = ru 119 79 ls (.long (lN 999999999) :: st) h) ∧
  (∀ (a0 : Int64) (a1 : Int64) (ls : eL) (h : eH), ru 119 79 ls [.long a1, .long a0] h = cl (den 10 [.long a0, .long a1] h) (fun v h => ru 119 82 ls (v.toList ++ []) h)) ∧
  (∀ (x0 x1 x2 x3 x4 x5 x6 x7 x8 : Option Value) (v : Int64) (t : eL) (st : List Value) (h : eH), ru 119 82 (x0 :: x1 :: x2 :: x3 :: x4 :: x5 :: x6 :: x7 :: x8 :: t) (.long v :: st) h = ru 119 84 (x0 :: x1 :: x2 :: x3 :: x4 :: x5 :: eKl x6 :: some (.long v) :: none :: t) st h) ∧
  (∀ (ls : eL) (st : List Value) (h : eH), ru 119 84 ls st h = ru 119 85 ls (.long (lN 0) :: st) h) ∧
  (∀ (x0 x1 x2 x3 x4 x5 x6 x7 x8 x9 x10 : Option Value) (v : Int64) (t : eL) (st : List Value) (h : eH), ru 119 85 (x0 :: x1 :: x2 :: x3 :: x4 :: x5 :: x6 :: x7 :: x8 :: x9 :: x10 :: t) (.long v :: st) h = ru 119 87 (x0 :: x1 :: x2 :: x3 :: x4 :: x5 :: x6 :: x7 :: eKl x8 :: some (.long v) :: none :: t) st h) ∧
  (∀ (ls : eL) (st : List Value) (h : eH), ru 119 87 ls st h = ru 119 88 ls (.int (nI 0) :: st) h) ∧
  (∀ (x0 x1 x2 x3 x4 x5 x6 x7 x8 x9 x10 x11 : Option Value) (v : Int32) (t : eL) (st : List Value) (h : eH), ru 119 88 (x0 :: x1 :: x2 :: x3 :: x4 :: x5 :: x6 :: x7 :: x8 :: x9 :: x10 :: x11 :: t) (.int v :: st) h = ru 119 90 (x0 :: x1 :: x2 :: x3 :: x4 :: x5 :: x6 :: x7 :: x8 :: x9 :: eKl x10 :: some (.int v) :: t) st h) ∧
  (∀ (x0 x1 x2 : Option Value) (v : Int32) (t : eL) (st : List Value) (h : eH), ru 119 92 (x0 :: x1 :: x2 :: some (.int v) :: t) st h = ru 119 93 (x0 :: x1 :: x2 :: some (.int v) :: t) (.int v :: st) h) ∧
  (∀ (x y : Int32) (ls : eL) (st : List Value) (h : eH), ru 119 93 ls (.int y :: .int x :: st) h = if y ≤ x then ru 119 168 ls st h else ru 119 96 ls st h) ∧
  (∀ (x0 : Option Value) (v : Nat) (t : eL) (st : List Value) (h : eH), ru 119 96 (x0 :: some (.ref v) :: t) st h = ru 119 97 (x0 :: some (.ref v) :: t) (.ref v :: st) h) ∧
  (∀ (x0 x1 : Option Value) (v : Int32) (t : eL) (st : List Value) (h : eH), ru 119 97 (x0 :: x1 :: some (.int v) :: t) st h = ru 119 98 (x0 :: x1 :: some (.int v) :: t) (.int v :: st) h) ∧
  (∀ (x0 x1 x2 x3 x4 x5 x6 x7 x8 x9 x10 : Option Value) (v : Int32) (t : eL) (st : List Value) (h : eH), ru 119 98 (x0 :: x1 :: x2 :: x3 :: x4 :: x5 :: x6 :: x7 :: x8 :: x9 :: x10 :: some (.int v) :: t) st h = ru 119 100 (x0 :: x1 :: x2 :: x3 :: x4 :: x5 :: x6 :: x7 :: x8 :: x9 :: x10 :: some (.int v) :: t) (.int v :: st) h) ∧
  (∀ (x y : Int32) (ls : eL) (st : List Value) (h : eH), ru 119 100 ls (.int y :: .int x :: st) h = ru 119 101 ls (.int (x + y) :: st) h) ∧
  (∀ (i : Int32) (a : Nat) (ls : eL) (st : List Value) (h : eH), ru 119 101 ls (.int i :: .ref a :: st) h = aI (h.1 a) 0 i (fun v => ru 119 102 ls (.int v :: st) h)) ∧
  (∀ (x : Int32) (ls : eL) (st : List Value) (h : eH), ru 119 102 ls (.int x :: st) h = ru 119 103 ls (.long (x.toInt64) :: st) h) ∧
  (∀ (x0 x1 x2 x3 x4 x5 x6 : Option Value) (v : Int64) (t : eL) (st : List Value) (h : eH), ru 119 103 (x0 :: x1 :: x2 :: x3 :: x4 :: x5 :: x6 :: some (.long v) :: t) st h = ru 119 105 (x0 :: x1 :: x2 :: x3 :: x4 :: x5 :: x6 :: some (.long v) :: t) (.long v :: st) h) ∧
  (∀ (v : Nat) (t : eL) (st : List Value) (h : eH), ru 119 105 (some (.ref v) :: t) st h = ru 119 106 (some (.ref v) :: t) (.ref v :: st) h) ∧
  (∀ (a : Nat) (ls : eL) (st : List Value) (h : eH), ru 119 106 ls (.ref a :: st) h = gF (h.1 a) 2 1 (fun v => ru 119 109 ls (v :: st) h)) ∧
  (∀ (a : Nat) (ls : eL) (st : List Value) (h : eH), ru 119 109 ls (.ref a :: st) h = gF (h.1 a) 9 0 (fun v => ru 119 112 ls (v :: st) h)) ∧
  (∀ (x0 x1 x2 x3 x4 x5 x6 x7 x8 x9 x10 : Option Value) (v : Int32) (t : eL) (st : List Value) (h : eH), ru 119 112 (x0 :: x1 :: x2 :: x3 :: x4 :: x5 :: x6 :: x7 :: x8 :: x9 :: x10 :: some (.int v) :: t) st h = ru 119 114 (x0 :: x1 :: x2 :: x3 :: x4 :: x5 :: x6 :: x7 :: x8 :: x9 :: x10 :: some (.int v) :: t) (.int v :: st) h) ∧
  (∀ (i : Int32) (a : Nat) (ls : eL) (st : List Value) (h : eH), ru 119 114 ls (.int i :: .ref a :: st) h = aI (h.1 a) 0 i (fun v => ru 119 115 ls (.int v :: st) h)) ∧
  (∀ (x : Int32) (ls : eL) (st : List Value) (h : eH), ru 119 115 ls (.int x :: st) h = ru 119 116 ls (.long (x.toInt64) :: st) h) ∧
  (∀ (x y : Int64) (ls : eL) (st : List Value) (h : eH), ru 119 116 ls (.long y :: .long x :: st) h = ru 119 117 ls (.long (x * y) :: st) h) ∧
  (∀ (x y : Int64) (ls : eL) (st : List Value) (h : eH), ru 119 117 ls (.long y :: .long x :: st) h = ru 119 118 ls (.long (x - y) :: st) h) ∧
  (∀ (x0 x1 x2 x3 x4 x5 x6 x7 x8 : Option Value) (v : Int64) (t : eL) (st : List Value) (h : eH), ru 119 118 (x0 :: x1 :: x2 :: x3 :: x4 :: x5 :: x6 :: x7 :: x8 :: some (.long v) :: t) st h = ru 119 120 (x0 :: x1 :: x2 :: x3 :: x4 :: x5 :: x6 :: x7 :: x8 :: some (.long v) :: t) (.long v :: st) h) ∧
  (∀ (x y : Int64) (ls : eL) (st : List Value) (h : eH), ru 119 120 ls (.long y :: .long x :: st) h = ru 119 121 ls (.long (x - y) :: st) h) ∧
  (∀ (x0 x1 x2 x3 x4 x5 x6 x7 x8 x9 x10 x11 x12 x13 : Option Value) (v : Int64) (t : eL) (st : List Value) (h : eH), ru 119 121 (x0 :: x1 :: x2 :: x3 :: x4 :: x5 :: x6 :: x7 :: x8 :: x9 :: x10 :: x11 :: x12 :: x13 :: t) (.long v :: st) h = ru 119 123 (x0 :: x1 :: x2 :: x3 :: x4 :: x5 :: x6 :: x7 :: x8 :: x9 :: x10 :: eKl x11 :: some (.long v) :: none :: t) st h) ∧
  (∀ (x0 x1 x2 x3 x4 x5 x6 x7 x8 x9 x10 x11 : Option Value) (v : Int64) (t : eL) (st : List Value) (h : eH), ru 119 123 (x0 :: x1 :: x2 :: x3 :: x4 :: x5 :: x6 :: x7 :: x8 :: x9 :: x10 :: x11 :: some (.long v) :: t) st h = ru 119 125 (x0 :: x1 :: x2 :: x3 :: x4 :: x5 :: x6 :: x7 :: x8 :: x9 :: x10 :: x11 :: some (.long v) :: t) (.long v :: st) h) ∧
  (∀ (ls : eL) (st : List Value) (h : eH), ru 119 125 ls st h = ru 119 126 ls (.long (lN 0) :: st) h) ∧
  (∀ (x y : Int64) (ls : eL) (st : List Value) (h : eH), ru 119 126 ls (.long y :: .long x :: st) h = ru 119 127 ls (.int (lg_cmp x y) :: st) h) ∧
  (∀ (x : Int32) (ls : eL) (st : List Value) (h : eH), ru 119 127 ls (.int x :: st) h = if 0 ≤ x then ru 119 143 ls st h else ru 119 130 ls st h) ∧
  (∀ (ls : eL) (st : List Value) (h : eH), ru 119 130 ls st h = ru 119 133 ls (.long (lN 999999999) :: st) h) ∧
  (∀ (x0 x1 x2 x3 x4 x5 x6 x7 x8 x9 x10 x11 : Option Value) (v : Int64) (t : eL) (st : List Value) (h : eH), ru 119 133 (x0 :: x1 :: x2 :: x3 :: x4 :: x5 :: x6 :: x7 :: x8 :: x9 :: x10 :: x11 :: some (.long v) :: t) st h = ru 119 135 (x0 :: x1 :: x2 :: x3 :: x4 :: x5 :: x6 :: x7 :: x8 :: x9 :: x10 :: x11 :: some (.long v) :: t) (.long v :: st) h) ∧
  (∀ (x y : Int64) (ls : eL) (st : List Value) (h : eH), ru 119 135 ls (.long y :: .long x :: st) h = ru 119 136 ls (.long (x - y) :: st) h) ∧
  (∀ (ls : eL) (st : List Value) (h : eH), ru 119 136 ls st h = ru 119 139 ls (.long (lN 1000000000) :: st) h) ∧
  (∀ (x y : Int64) (ls : eL) (st : List Value) (h : eH), ru 119 139 ls (.long y :: .long x :: st) h = if y = 0 then none else ru 119 140 ls (.long (x / y) :: st) h) ∧
  (∀ (ls : eL) (st : List Value) (h : eH), ru 119 140 ls st h = ru 119 144 ls st h) ∧
  (∀ (ls : eL) (st : List Value) (h : eH), ru 119 143 ls st h = ru 119 144 ls (.long (lN 0) :: st) h) ∧
  (∀ (x0 x1 x2 x3 x4 x5 x6 x7 x8 x9 x10 : Option Value) (v : Int64) (t : eL) (st : List Value) (h : eH), ru 119 144 (x0 :: x1 :: x2 :: x3 :: x4 :: x5 :: x6 :: x7 :: x8 :: x9 :: x10 :: t) (.long v :: st) h = ru 119 146 (x0 :: x1 :: x2 :: x3 :: x4 :: x5 :: x6 :: x7 :: eKl x8 :: some (.long v) :: none :: t) st h) ∧
  (∀ (x0 : Option Value) (v : Nat) (t : eL) (st : List Value) (h : eH), ru 119 146 (x0 :: some (.ref v) :: t) st h = ru 119 147 (x0 :: some (.ref v) :: t) (.ref v :: st) h) ∧
  (∀ (x0 x1 : Option Value) (v : Int32) (t : eL) (st : List Value) (h : eH), ru 119 147 (x0 :: x1 :: some (.int v) :: t) st h = ru 119 148 (x0 :: x1 :: some (.int v) :: t) (.int v :: st) h) ∧
  (∀ (x0 x1 x2 x3 x4 x5 x6 x7 x8 x9 x10 : Option Value) (v : Int32) (t : eL) (st : List Value) (h : eH), ru 119 148 (x0 :: x1 :: x2 :: x3 :: x4 :: x5 :: x6 :: x7 :: x8 :: x9 :: x10 :: some (.int v) :: t) st h = ru 119 150 (x0 :: x1 :: x2 :: x3 :: x4 :: x5 :: x6 :: x7 :: x8 :: x9 :: x10 :: some (.int v) :: t) (.int v :: st) h) ∧
  (∀ (x y : Int32) (ls : eL) (st : List Value) (h : eH), ru 119 150 ls (.int y :: .int x :: st) h = ru 119 151 ls (.int (x + y) :: st) h) ∧
  (∀ (x0 x1 x2 x3 x4 x5 x6 x7 x8 x9 x10 x11 : Option Value) (v : Int64) (t : eL) (st : List Value) (h : eH), ru 119 151 (x0 :: x1 :: x2 :: x3 :: x4 :: x5 :: x6 :: x7 :: x8 :: x9 :: x10 :: x11 :: some (.long v) :: t) st h = ru 119 153 (x0 :: x1 :: x2 :: x3 :: x4 :: x5 :: x6 :: x7 :: x8 :: x9 :: x10 :: x11 :: some (.long v) :: t) (.long v :: st) h) ∧
  (∀ (x0 x1 x2 x3 x4 x5 x6 x7 x8 : Option Value) (v : Int64) (t : eL) (st : List Value) (h : eH), ru 119 153 (x0 :: x1 :: x2 :: x3 :: x4 :: x5 :: x6 :: x7 :: x8 :: some (.long v) :: t) st h = ru 119 155 (x0 :: x1 :: x2 :: x3 :: x4 :: x5 :: x6 :: x7 :: x8 :: some (.long v) :: t) (.long v :: st) h) ∧
  (∀ (ls : eL) (st : List Value) (h : eH), ru 119 155 ls st h = ru 119 158 ls (.long (lN 1000000000) :: st) h) ∧
  (∀ (x y : Int64) (ls : eL) (st : List Value) (h : eH), ru 119 158 ls (.long y :: .long x :: st) h = ru 119 159 ls (.long (x * y) :: st) h) ∧
  (∀ (x y : Int64) (ls : eL) (st : List Value) (h : eH), ru 119 159 ls (.long y :: .long x :: st) h = ru 119 160 ls (.long (x + y) :: st) h) ∧
  (∀ (x : Int64) (ls : eL) (st : List Value) (h : eH), ru 119 160 ls (.long x :: st) h = ru 119 161 ls (.int (x.toInt32) :: st) h) ∧
  (∀ (x : Int32) (i : Int32) (a : Nat) (ls : eL) (st : List Value) (h : eH), ru 119 161 ls (.int x :: .int i :: .ref a :: st) h = wI (h.1 a) i x (fun e => ru 119 162 ls st (eUp h a e))) ∧
  (∀ (x0 x1 x2 x3 x4 x5 x6 x7 x8 x9 x10 : Option Value) (v : Int32) (t : eL) (st : List Value) (h : eH), ru 119 162 (x0 :: x1 :: x2 :: x3 :: x4 :: x5 :: x6 :: x7 :: x8 :: x9 :: x10 :: some (.int v) :: t) st h = ru 119 165 (x0 :: x1 :: x2 :: x3 :: x4 :: x5 :: x6 :: x7 :: x8 :: x9 :: eKl x10 :: some (.int (v + 1)) :: t) st h) ∧
  (∀ (ls : eL) (st : List Value) (h : eH), ru 119 165 ls st h = ru 119 90 ls st h) ∧
  (∀ (x0 x1 x2 x3 : Option Value) (v : Int32) (t : eL) (st : List Value) (h : eH), ru 119 169 (x0 :: x1 :: x2 :: x3 :: some (.int v) :: t) st h = ru 119 171 (x0 :: x1 :: x2 :: x3 :: some (.int v) :: t) (.int v :: st) h) ∧
  (∀ (x : Int32) (a : Nat) (ls : eL) (st : List Value) (h : eH), ru 119 171 ls (.int x :: .ref a :: st) h = ru 119 172 ls (.int x :: .ref a :: .int x :: .ref a :: st) h) ∧
  (∀ (i : Int32) (a : Nat) (ls : eL) (st : List Value) (h : eH), ru 119 172 ls (.int i :: .ref a :: st) h = aI (h.1 a) 0 i (fun v => ru 119 173 ls (.int v :: st) h)) ∧
  (∀ (x0 x1 x2 x3 x4 x5 x6 x7 x8 : Option Value) (v : Int64) (t : eL) (st : List Value) (h : eH), ru 119 173 (x0 :: x1 :: x2 :: x3 :: x4 :: x5 :: x6 :: x7 :: x8 :: some (.long v) :: t) st h = ru 119 175 (x0 :: x1 :: x2 :: x3 :: x4 :: x5 :: x6 :: x7 :: x8 :: some (.long v) :: t) (.long v :: st) h) ∧
  (∀ (x : Int64) (ls : eL) (st : List Value) (h : eH), ru 119 175 ls (.long x :: st) h = ru 119 176 ls (.int (x.toInt32) :: st) h) ∧
  (∀ (x y : Int32) (ls : eL) (st : List Value) (h : eH), ru 119 176 ls (.int y :: .int x :: st) h = ru 119 177 ls (.int (x - y) :: st) h) ∧
  (∀ (x : Int32) (i : Int32) (a : Nat) (ls : eL) (st : List Value) (h : eH), ru 119 177 ls (.int x :: .int i :: .ref a :: st) h = wI (h.1 a) i x (fun e => ru 119 178 ls st (eUp h a e))) ∧
  (∀ (ls : eL) (st : List Value) (h : eH), ru 119 178 ls st h = ru 119 179 ls (.int (nI 0) :: st) h) ∧
  (∀ (x0 x1 x2 x3 x4 x5 x6 x7 x8 x9 x10 x11 : Option Value) (v : Int32) (t : eL) (st : List Value) (h : eH), ru 119 179 (x0 :: x1 :: x2 :: x3 :: x4 :: x5 :: x6 :: x7 :: x8 :: x9 :: x10 :: x11 :: t) (.int v :: st) h = ru 119 181 (x0 :: x1 :: x2 :: x3 :: x4 :: x5 :: x6 :: x7 :: x8 :: x9 :: eKl x10 :: some (.int v) :: t) st h) ∧
  (∀ (ls : eL) (st : List Value) (h : eH), ru 119 183 ls st h = ru 119 184 ls (.int (nI 2) :: st) h) ∧
  (∀ (x y : Int32) (ls : eL) (st : List Value) (h : eH), ru 119 184 ls (.int y :: .int x :: st) h = if y ≤ x then ru 119 212 ls st h else ru 119 187 ls st h) ∧
  (∀ (x0 : Option Value) (v : Nat) (t : eL) (st : List Value) (h : eH), ru 119 187 (x0 :: some (.ref v) :: t) st h = ru 119 188 (x0 :: some (.ref v) :: t) (.ref v :: st) h) ∧
  (∀ (x0 x1 x2 x3 : Option Value) (v : Int32) (t : eL) (st : List Value) (h : eH), ru 119 188 (x0 :: x1 :: x2 :: x3 :: some (.int v) :: t) st h = ru 119 190 (x0 :: x1 :: x2 :: x3 :: some (.int v) :: t) (.int v :: st) h) ∧
  (∀ (i : Int32) (a : Nat) (ls : eL) (st : List Value) (h : eH), ru 119 190 ls (.int i :: .ref a :: st) h = aI (h.1 a) 0 i (fun v => ru 119 191 ls (.int v :: st) h)) ∧
  (∀ (x : Int32) (ls : eL) (st : List Value) (h : eH), ru 119 191 ls (.int x :: st) h = if 0 ≤ x then ru 119 212 ls st h else ru 119 194 ls st h) ∧
  (∀ (v : Nat) (t : eL) (st : List Value) (h : eH), ru 119 194 (some (.ref v) :: t) st h = ru 119 195 (some (.ref v) :: t) (.ref v :: st) h) ∧
  (∀ (x0 : Option Value) (v : Nat) (t : eL) (st : List Value) (h : eH), ru 119 195 (x0 :: some (.ref v) :: t) st h = ru 119 196 (x0 :: some (.ref v) :: t) (.ref v :: st) h) ∧
  (∀ (x0 x1 : Option Value) (v : Int32) (t : eL) (st : List Value) (h : eH), ru 119 196 (x0 :: x1 :: some (.int v) :: t) st h = ru 119 197 (x0 :: x1 :: some (.int v) :: t) (.int v :: st) h) ∧
  (∀ (a0 : Nat) (a1 : Nat) (a2 : Int32) (ls : eL) (h : eH), ru 119 197 ls [.int a2, .ref a1, .ref a0] h = cl (den 118 [.ref a0, .ref a1, .int a2] h) (fun v h => ru 119 200 ls (v.toList ++ []) h)) ∧
  (∀ (x0 x1 x2 x3 x4 x5 x6 : Option Value) (v : Int64) (t : eL) (st : List Value) (h : eH), ru 119 200 (x0 :: x1 :: x2 :: x3 :: x4 :: x5 :: x6 :: some (.long v) :: t) st h = ru 119 202 (x0 :: x1 :: x2 :: x3 :: x4 :: x5 :: x6 :: some (.long v) :: t) (.long v :: st) h) ∧
  (∀ (ls : eL) (st : List Value) (h : eH), ru 119 202 ls st h = ru 119 203 ls (.long (lN 1) :: st) h) ∧
  (∀ (x y : Int64) (ls : eL) (st : List Value) (h : eH), ru 119 203 ls (.long y :: .long x :: st) h = ru 119 204 ls (.long (x - y) :: st) h) ∧
  (∀ (x0 x1 x2 x3 x4 x5 x6 x7 x8 : Option Value) (v : Int64) (t : eL) (st : List Value) (h : eH), ru 119 204 (x0 :: x1 :: x2 :: x3 :: x4 :: x5 :: x6 :: x7 :: x8 :: t) (.long v :: st) h = ru 119 206 (x0 :: x1 :: x2 :: x3 :: x4 :: x5 :: eKl x6 :: some (.long v) :: none :: t) st h) ∧
  (∀ (x0 x1 x2 x3 x4 x5 x6 x7 x8 x9 x10 : Option Value) (v : Int32) (t : eL) (st : List Value) (h : eH), ru 119 206 (x0 :: x1 :: x2 :: x3 :: x4 :: x5 :: x6 :: x7 :: x8 :: x9 :: x10 :: some (.int v) :: t) st h = ru 119 209 (x0 :: x1 :: x2 :: x3 :: x4 :: x5 :: x6 :: x7 :: x8 :: x9 :: eKl x10 :: some (.int (v + 1)) :: t) st h) ∧
  (∀ (ls : eL) (st : List Value) (h : eH), ru 119 209 ls st h = ru 119 181 ls st h) ∧
  (∀ (x : Int64) (ls : eL) (st : List Value) (h : eH), ru 119 214 ls (.long x :: st) h = ru 119 215 ls (.int (x.toInt32) :: st) h) ∧
  (∀ (x : Int32) (ls : eL) (h : eH), ru 119 215 ls [.int x] h = some (some (.int x), h)) := ⟨fun v t st h => ru_go rfl rfl,
  fun a ls st h => ru_getf rfl,
  fun a ls st h => ru_getf rfl,
  fun x0 x1 x2 x3 v t st h => ru_go rfl rfl,
  fun x0 x1 v t st h => ru_go rfl rfl,
  fun x0 x1 x2 v t st h => ru_go rfl rfl,
  fun x y ls st h => ru_go rfl rfl,
  fun x0 x1 x2 x3 x4 v t st h => ru_go rfl rfl,
  fun x0 x1 x2 v t st h => ru_go rfl rfl,
  fun ls st h => ru_go rfl rfl,
  fun x y ls st h => ru_if rfl rfl,
  fun v t st h => ru_go rfl rfl,
  fun a ls st h => ru_getf rfl,
  fun a ls st h => ru_getf rfl,
  fun x0 x1 x2 v t st h => ru_go rfl rfl,
  fun ls st h => ru_go rfl rfl,
  fun x y ls st h => ru_go rfl rfl,
  fun i a ls st h => ru_iald rfl,
  fun ls st h => ru_go rfl rfl,
  fun x y ls st h => ru_if rfl rfl,
  fun x0 x1 x2 x3 v t st h => ru_go rfl rfl,
  fun x0 v t st h => ru_go rfl rfl,
  fun a ls st h => ru_alen rfl,
  fun x y ls st h => ru_if rfl rfl,
  fun ls st h => ru_go rfl rfl,
  fun x ls h => ru_ret rfl rfl,
  fun x0 v t st h => ru_go rfl rfl,
  fun x0 x1 x2 x3 v t st h => ru_go rfl rfl,
  fun i a ls st h => ru_iald rfl,
  fun x ls st h => ru_go rfl rfl,
  fun ls st h => ru_go rfl rfl,
  fun x y ls st h => ru_go rfl rfl,
  fun x0 v t st h => ru_go rfl rfl,
  fun x0 x1 x2 x3 v t st h => ru_go rfl rfl,
  fun ls st h => ru_go rfl rfl,
  fun x y ls st h => ru_go rfl rfl,
  fun i a ls st h => ru_iald rfl,
  fun x ls st h => ru_go rfl rfl,
  fun x y ls st h => ru_go rfl rfl,
  fun x0 x1 x2 x3 x4 x5 x6 v t st h => ru_go rfl rfl,
  fun x0 x1 x2 x3 x4 v t st h => ru_go rfl rfl,
  fun v t st h => ru_go rfl rfl,
  fun a ls st h => ru_getf rfl,
  fun a ls st h => ru_getf rfl,
  fun x0 x1 x2 v t st h => ru_go rfl rfl,
  fun ls st h => ru_go rfl rfl,
  fun x y ls st h => ru_go rfl rfl,
  fun i a ls st h => ru_iald rfl,
  fun x ls st h => ru_go rfl rfl,
  fun x y ls st h => ru_guard rfl rfl,
  fun ls st h => ru_go rfl rfl,
  fun a0 a1 ls h => ru_inv rfl (by decide) rfl (Nat.le_of_ble_eq_true rfl),
  fun x0 x1 x2 x3 x4 x5 x6 x7 x8 v t st h => ru_go rfl rfl,
  fun ls st h => ru_go rfl rfl,
  fun x0 x1 x2 x3 x4 x5 x6 x7 x8 x9 x10 v t st h => ru_go rfl rfl,
  fun ls st h => ru_go rfl rfl,
  fun x0 x1 x2 x3 x4 x5 x6 x7 x8 x9 x10 x11 v t st h => ru_go rfl rfl,
  fun x0 x1 x2 v t st h => ru_go rfl rfl,
  fun x y ls st h => ru_if rfl rfl,
  fun x0 v t st h => ru_go rfl rfl,
  fun x0 x1 v t st h => ru_go rfl rfl,
  fun x0 x1 x2 x3 x4 x5 x6 x7 x8 x9 x10 v t st h => ru_go rfl rfl,
  fun x y ls st h => ru_go rfl rfl,
  fun i a ls st h => ru_iald rfl,
  fun x ls st h => ru_go rfl rfl,
  fun x0 x1 x2 x3 x4 x5 x6 v t st h => ru_go rfl rfl,
  fun v t st h => ru_go rfl rfl,
  fun a ls st h => ru_getf rfl,
  fun a ls st h => ru_getf rfl,
  fun x0 x1 x2 x3 x4 x5 x6 x7 x8 x9 x10 v t st h => ru_go rfl rfl,
  fun i a ls st h => ru_iald rfl,
  fun x ls st h => ru_go rfl rfl,
  fun x y ls st h => ru_go rfl rfl,
  fun x y ls st h => ru_go rfl rfl,
  fun x0 x1 x2 x3 x4 x5 x6 x7 x8 v t st h => ru_go rfl rfl,
  fun x y ls st h => ru_go rfl rfl,
  fun x0 x1 x2 x3 x4 x5 x6 x7 x8 x9 x10 x11 x12 x13 v t st h => ru_go rfl rfl,
  fun x0 x1 x2 x3 x4 x5 x6 x7 x8 x9 x10 x11 v t st h => ru_go rfl rfl,
  fun ls st h => ru_go rfl rfl,
  fun x y ls st h => ru_go rfl rfl,
  fun x ls st h => ru_if rfl rfl,
  fun ls st h => ru_go rfl rfl,
  fun x0 x1 x2 x3 x4 x5 x6 x7 x8 x9 x10 x11 v t st h => ru_go rfl rfl,
  fun x y ls st h => ru_go rfl rfl,
  fun ls st h => ru_go rfl rfl,
  fun x y ls st h => ru_guard rfl rfl,
  fun ls st h => ru_go rfl rfl,
  fun ls st h => ru_go rfl rfl,
  fun x0 x1 x2 x3 x4 x5 x6 x7 x8 x9 x10 v t st h => ru_go rfl rfl,
  fun x0 v t st h => ru_go rfl rfl,
  fun x0 x1 v t st h => ru_go rfl rfl,
  fun x0 x1 x2 x3 x4 x5 x6 x7 x8 x9 x10 v t st h => ru_go rfl rfl,
  fun x y ls st h => ru_go rfl rfl,
  fun x0 x1 x2 x3 x4 x5 x6 x7 x8 x9 x10 x11 v t st h => ru_go rfl rfl,
  fun x0 x1 x2 x3 x4 x5 x6 x7 x8 v t st h => ru_go rfl rfl,
  fun ls st h => ru_go rfl rfl,
  fun x y ls st h => ru_go rfl rfl,
  fun x y ls st h => ru_go rfl rfl,
  fun x ls st h => ru_go rfl rfl,
  fun x i a ls st h => ru_iast rfl,
  fun x0 x1 x2 x3 x4 x5 x6 x7 x8 x9 x10 v t st h => ru_go rfl rfl,
  fun ls st h => ru_go rfl rfl,
  fun x0 x1 x2 x3 v t st h => ru_go rfl rfl,
  fun x a ls st h => ru_go rfl rfl,
  fun i a ls st h => ru_iald rfl,
  fun x0 x1 x2 x3 x4 x5 x6 x7 x8 v t st h => ru_go rfl rfl,
  fun x ls st h => ru_go rfl rfl,
  fun x y ls st h => ru_go rfl rfl,
  fun x i a ls st h => ru_iast rfl,
  fun ls st h => ru_go rfl rfl,
  fun x0 x1 x2 x3 x4 x5 x6 x7 x8 x9 x10 x11 v t st h => ru_go rfl rfl,
  fun ls st h => ru_go rfl rfl,
  fun x y ls st h => ru_if rfl rfl,
  fun x0 v t st h => ru_go rfl rfl,
  fun x0 x1 x2 x3 v t st h => ru_go rfl rfl,
  fun i a ls st h => ru_iald rfl,
  fun x ls st h => ru_if rfl rfl,
  fun v t st h => ru_go rfl rfl,
  fun x0 v t st h => ru_go rfl rfl,
  fun x0 x1 v t st h => ru_go rfl rfl,
  fun a0 a1 a2 ls h => ru_inv rfl (by decide) rfl (Nat.le_of_ble_eq_true rfl),
  fun x0 x1 x2 x3 x4 x5 x6 v t st h => ru_go rfl rfl,
  fun ls st h => ru_go rfl rfl,
  fun x y ls st h => ru_go rfl rfl,
  fun x0 x1 x2 x3 x4 x5 x6 x7 x8 v t st h => ru_go rfl rfl,
  fun x0 x1 x2 x3 x4 x5 x6 x7 x8 x9 x10 v t st h => ru_go rfl rfl,
  fun ls st h => ru_go rfl rfl,
  fun x ls st h => ru_go rfl rfl,
  fun x ls h => ru_ret rfl rfl⟩
theorem E119 (a0 : Nat) (a1 : Nat) (a2 : Int32) {h : eH} {fs : List Value} (ha : h.1 a0 = .inr (2, fs)) : den 119 [.ref a0, .ref a1, .int a2] h = ru 119 0 [some (.ref a0), some (.ref a1), some (.int a2), none, none, none, none, none, none, none, none, none, none, none] [] h := den_ob (Nat.le_of_ble_eq_true rfl) ha
/-! 120 X2_divide -/
set_option maxRecDepth 100000 in
theorem H120_167 : (∀ (x0 x1 x2 x3 x4 x5 x6 : Option Value) (v : Int32) (t : eL) (st : List Value) (h : eH), ru 120 167 (x0 :: x1 :: x2 :: x3 :: x4 :: x5 :: x6 :: some (.int v) :: t) st h = ru 120 169 (x0 :: x1 :: x2 :: x3 :: x4 :: x5 :: x6 :: some (.int v) :: t) (.int v :: st) h) := fun x0 x1 x2 x3 x4 x5 x6 v t st h => ru_go rfl rfl
set_option maxRecDepth 100000 in
theorem H120_198 : (∀ (v : Nat) (t : eL) (st : List Value) (h : eH), ru 120 198 (some (.ref v) :: t) st h = ru 120 199 (some (.ref v) :: t) (.ref v :: st) h) := fun v t st h => ru_go rfl rfl
set_option maxRecDepth 100000 in
theorem S120 : (∀ (v : Nat) (t : eL) (st : List Value) (h : eH), ru 120 0 (some (.ref v) :: t) st h = ru 120 1 (some (.ref v) :: t) (.ref v :: st) h) ∧
  (∀ (a : Nat) (ls : eL) (st : List Value) (h : eH), ru 120 1 ls (.ref a :: st) h = gF (h.1 a) 2 0 (fun v => ru 120 4 ls (v :: st) h)) ∧
  (∀ (a0 : Nat) (ls : eL) (h : eH), ru 120 4 ls [.ref a0] h = cl (den 82 [.ref a0] h) (fun v h => ru 120 7 ls (v.toList ++ []) h)) ∧
  (∀ (x0 x1 : Option Value) (v : Nat) (t : eL) (st : List Value) (h : eH), ru 120 7 (x0 :: x1 :: some (.ref v) :: t) st h = ru 120 8 (x0 :: x1 :: some (.ref v) :: t) (.ref v :: st) h) ∧
  (∀ (a : Nat) (ls : eL) (st : List Value) (h : eH), ru 120 8 ls (.ref a :: st) h = gF (h.1 a) 9 1 (fun v => ru 120 11 ls (v :: st) h)) ∧
  (∀ (x : Int32) (ls : eL) (st : List Value) (h : eH), ru 120 11 ls (.int x :: st) h = if x = 0 then ru 120 22 ls st h else ru 120 14 ls st h) ∧
  (∀ (x0 : Option Value) (v : Nat) (t : eL) (st : List Value) (h : eH), ru 120 14 (x0 :: some (.ref v) :: t) st h = ru 120 15 (x0 :: some (.ref v) :: t) (.ref v :: st) h) ∧
  (∀ (x0 x1 : Option Value) (v : Nat) (t : eL) (st : List Value) (h : eH), ru 120 15 (x0 :: x1 :: some (.ref v) :: t) st h = ru 120 16 (x0 :: x1 :: some (.ref v) :: t) (.ref v :: st) h) ∧
  (∀ (a0 : Nat) (a1 : Nat) (ls : eL) (h : eH), ru 120 16 ls [.ref a1, .ref a0] h = cl (den 97 [.ref a0, .ref a1] h) (fun v h => ru 120 19 ls (v.toList ++ []) h)) ∧
  (∀ (x : Int32) (ls : eL) (st : List Value) (h : eH), ru 120 19 ls (.int x :: st) h = if 0 ≤ x then ru 120 23 ls st h else ru 120 22 ls st h) ∧
  (∀ (ls : eL) (h : eH), ru 120 22 ls [] h = some (none, h)) ∧
  (∀ (x0 : Option Value) (v : Nat) (t : eL) (st : List Value) (h : eH), ru 120 23 (x0 :: some (.ref v) :: t) st h = ru 120 24 (x0 :: some (.ref v) :: t) (.ref v :: st) h) ∧
  (∀ (a : Nat) (ls : eL) (st : List Value) (h : eH), ru 120 24 ls (.ref a :: st) h = gF (h.1 a) 9 2 (fun v => ru 120 27 ls (v :: st) h)) ∧
  (∀ (x0 x1 : Option Value) (v : Nat) (t : eL) (st : List Value) (h : eH), ru 120 27 (x0 :: x1 :: some (.ref v) :: t) st h = ru 120 28 (x0 :: x1 :: some (.ref v) :: t) (.ref v :: st) h) ∧
  (∀ (a : Nat) (ls : eL) (st : List Value) (h : eH), ru 120 28 ls (.ref a :: st) h = gF (h.1 a) 9 2 (fun v => ru 120 31 ls (v :: st) h)) ∧
  (∀ (x y : Int32) (ls : eL) (st : List Value) (h : eH), ru 120 31 ls (.int y :: .int x :: st) h = if x = y then ru 120 38 ls st h else ru 120 34 ls st h) ∧
  (∀ (ls : eL) (st : List Value) (h : eH), ru 120 34 ls st h = ru 120 35 ls (.int (nI 1) :: st) h) ∧
  (∀ (ls : eL) (st : List Value) (h : eH), ru 120 35 ls st h = ru 120 39 ls st h) ∧
  (∀ (ls : eL) (st : List Value) (h : eH), ru 120 38 ls st h = ru 120 39 ls (.int (nI 0) :: st) h) ∧
  (∀ (x0 x1 x2 x3 : Option Value) (v : Int32) (t : eL) (st : List Value) (h : eH), ru 120 39 (x0 :: x1 :: x2 :: x3 :: t) (.int v :: st) h = ru 120 40 (x0 :: x1 :: eKl x2 :: some (.int v) :: t) st h) ∧
  (∀ (x0 x1 : Option Value) (v : Nat) (t : eL) (st : List Value) (h : eH), ru 120 40 (x0 :: x1 :: some (.ref v) :: t) st h = ru 120 41 (x0 :: x1 :: some (.ref v) :: t) (.ref v :: st) h) ∧
  (∀ (a : Nat) (ls : eL) (st : List Value) (h : eH), ru 120 41 ls (.ref a :: st) h = gF (h.1 a) 9 1 (fun v => ru 120 44 ls (v :: st) h)) ∧
  (∀ (ls : eL) (st : List Value) (h : eH), ru 120 44 ls st h = ru 120 45 ls (.int (nI 1) :: st) h) ∧
  (∀ (x y : Int32) (ls : eL) (st : List Value) (h : eH), ru 120 45 ls (.int y :: .int x :: st) h = if x = y then ru 120 48 ls st h else ru 120 82 ls st h) ∧
  (∀ (v : Nat) (t : eL) (st : List Value) (h : eH), ru 120 48 (some (.ref v) :: t) st h = ru 120 49 (some (.ref v) :: t) (.ref v :: st) h) ∧
  (∀ (a : Nat) (ls : eL) (st : List Value) (h : eH), ru 120 49 ls (.ref a :: st) h = gF (h.1 a) 2 0 (fun v => ru 120 52 ls (v :: st) h)) ∧
  (∀ (x0 : Option Value) (v : Nat) (t : eL) (st : List Value) (h : eH), ru 120 52 (x0 :: some (.ref v) :: t) st h = ru 120 53 (x0 :: some (.ref v) :: t) (.ref v :: st) h) ∧
  (∀ (a0 : Nat) (a1 : Nat) (ls : eL) (h : eH), ru 120 53 ls [.ref a1, .ref a0] h = cl (den 84 [.ref a0, .ref a1] h) (fun v h => ru 120 56 ls (v.toList ++ []) h)) ∧
  (∀ (x0 : Option Value) (v : Nat) (t : eL) (st : List Value) (h : eH), ru 120 56 (x0 :: some (.ref v) :: t) st h = ru 120 57 (x0 :: some (.ref v) :: t) (.ref v :: st) h) ∧
  (∀ (v : Nat) (t : eL) (st : List Value) (h : eH), ru 120 57 (some (.ref v) :: t) st h = ru 120 58 (some (.ref v) :: t) (.ref v :: st) h) ∧
  (∀ (a : Nat) (ls : eL) (st : List Value) (h : eH), ru 120 58 ls (.ref a :: st) h = gF (h.1 a) 2 0 (fun v => ru 120 61 ls (v :: st) h)) ∧
  (∀ (x0 x1 : Option Value) (v : Nat) (t : eL) (st : List Value) (h : eH), ru 120 61 (x0 :: x1 :: some (.ref v) :: t) st h = ru 120 62 (x0 :: x1 :: some (.ref v) :: t) (.ref v :: st) h) ∧
  (∀ (a : Nat) (ls : eL) (st : List Value) (h : eH), ru 120 62 ls (.ref a :: st) h = gF (h.1 a) 9 0 (fun v => ru 120 65 ls (v :: st) h)) ∧
  (∀ (ls : eL) (st : List Value) (h : eH), ru 120 65 ls st h = ru 120 66 ls (.int (nI 0) :: st) h) ∧
  (∀ (i : Int32) (a : Nat) (ls : eL) (st : List Value) (h : eH), ru 120 66 ls (.int i :: .ref a :: st) h = aI (h.1 a) 0 i (fun v => ru 120 67 ls (.int v :: st) h)) ∧
  (∀ (a0 : Nat) (a1 : Int32) (u0 : Nat) (ls : eL) (h : eH), ru 120 67 ls [.int a1, .ref a0, .ref u0] h = cl (den 116 [.ref a0, .int a1] h) (fun v h => ru 120 70 ls (v.toList ++ [.ref u0]) h)) ∧
  (∀ (a0 : Nat) (a1 : Int32) (ls : eL) (h : eH), ru 120 70 ls [.int a1, .ref a0] h = cl (den 112 [.ref a0, .int a1] h) (fun v h => ru 120 73 ls (v.toList ++ []) h)) ∧
  (∀ (v : Nat) (t : eL) (st : List Value) (h : eH), ru 120 73 (some (.ref v) :: t) st h = ru 120 74 (some (.ref v) :: t) (.ref v :: st) h) ∧
  (∀ (a : Nat) (ls : eL) (st : List Value) (h : eH), ru 120 74 ls (.ref a :: st) h = gF (h.1 a) 2 0 (fun v => ru 120 77 ls (v :: st) h)) ∧
  (∀ (x0 x1 x2 : Option Value) (v : Int32) (t : eL) (st : List Value) (h : eH), ru 120 77 (x0 :: x1 :: x2 :: some (.int v) :: t) st h = ru 120 78 (x0 :: x1 :: x2 :: some (.int v) :: t) (.int v :: st) h) ∧
  (∀ (v : Int32) (a : Nat) (ls : eL) (st : List Value) (h : eH), ru 120 78 ls (.int v :: .ref a :: st) h = pF (h.1 a) 9 2 (.int v) (fun e => ru 120 81 ls st (eUp h a e))) ∧
  (∀ (ls : eL) (h : eH), ru 120 81 ls [] h = some (none, h)) ∧
  (∀ (ls : eL) (st : List Value) (h : eH), ru 120 82 ls st h = ru 120 84 ls (.int (nI 1000000000) :: st) h) ∧
  (∀ (x0 x1 : Option Value) (v : Nat) (t : eL) (st : List Value) (h : eH), ru 120 84 (x0 :: x1 :: some (.ref v) :: t) st h = ru 120 85 (x0 :: x1 :: some (.ref v) :: t) (.ref v :: st) h) ∧
  (∀ (a : Nat) (ls : eL) (st : List Value) (h : eH), ru 120 85 ls (.ref a :: st) h = gF (h.1 a) 9 0 (fun v => ru 120 88 ls (v :: st) h)) ∧
  (∀ (x0 x1 : Option Value) (v : Nat) (t : eL) (st : List Value) (h : eH), ru 120 88 (x0 :: x1 :: some (.ref v) :: t) st h = ru 120 89 (x0 :: x1 :: some (.ref v) :: t) (.ref v :: st) h) ∧
  (∀ (a : Nat) (ls : eL) (st : List Value) (h : eH), ru 120 89 ls (.ref a :: st) h = gF (h.1 a) 9 1 (fun v => ru 120 92 ls (v :: st) h)) ∧
  (∀ (ls : eL) (st : List Value) (h : eH), ru 120 92 ls st h = ru 120 93 ls (.int (nI 1) :: st) h) ∧
  (∀ (x y : Int32) (ls : eL) (st : List Value) (h : eH), ru 120 93 ls (.int y :: .int x :: st) h = ru 120 94 ls (.int (x - y) :: st) h) ∧
  (∀ (i : Int32) (a : Nat) (ls : eL) (st : List Value) (h : eH), ru 120 94 ls (.int i :: .ref a :: st) h = aI (h.1 a) 0 i (fun v => ru 120 95 ls (.int v :: st) h)) ∧
  (∀ (ls : eL) (st : List Value) (h : eH), ru 120 95 ls st h = ru 120 96 ls (.int (nI 1) :: st) h) ∧
  (∀ (x y : Int32) (ls : eL) (st : List Value) (h : eH), ru 120 96 ls (.int y :: .int x :: st) h = ru 120 97 ls (.int (x + y) :: st) h) ∧
  (∀ (x y : Int32) (ls : eL) (st : List Value) (h : eH), ru 120 97 ls (.int y :: .int x :: st) h = if y = 0 then none else ru 120 98 ls (.int (x / y) :: st) h) ∧
  (∀ (x0 x1 x2 x3 x4 : Option Value) (v : Int32) (t : eL) (st : List Value) (h : eH), ru 120 98 (x0 :: x1 :: x2 :: x3 :: x4 :: t) (.int v :: st) h = ru 120 100 (x0 :: x1 :: x2 :: eKl x3 :: some (.int v) :: t) st h) ∧
  (∀ (v : Nat) (t : eL) (st : List Value) (h : eH), ru 120 100 (some (.ref v) :: t) st h = ru 120 101 (some (.ref v) :: t) (.ref v :: st) h) ∧
  (∀ (a : Nat) (ls : eL) (st : List Value) (h : eH), ru 120 101 ls (.ref a :: st) h = gF (h.1 a) 2 1 (fun v => ru 120 104 ls (v :: st) h)) ∧
  (∀ (x0 x1 : Option Value) (v : Nat) (t : eL) (st : List Value) (h : eH), ru 120 104 (x0 :: x1 :: some (.ref v) :: t) st h = ru 120 105 (x0 :: x1 :: some (.ref v) :: t) (.ref v :: st) h) ∧
  (∀ (a0 : Nat) (a1 : Nat) (ls : eL) (h : eH), ru 120 105 ls [.ref a1, .ref a0] h = cl (den 84 [.ref a0, .ref a1] h) (fun v h => ru 120 108 ls (v.toList ++ []) h)) ∧
  (∀ (v : Nat) (t : eL) (st : List Value) (h : eH), ru 120 108 (some (.ref v) :: t) st h = ru 120 109 (some (.ref v) :: t) (.ref v :: st) h) ∧
  (∀ (a : Nat) (ls : eL) (st : List Value) (h : eH), ru 120 109 ls (.ref a :: st) h = gF (h.1 a) 2 1 (fun v => ru 120 112 ls (v :: st) h)) ∧
  (∀ (x0 x1 x2 x3 : Option Value) (v : Int32) (t : eL) (st : List Value) (h : eH), ru 120 112 (x0 :: x1 :: x2 :: x3 :: some (.int v) :: t) st h = ru 120 114 (x0 :: x1 :: x2 :: x3 :: some (.int v) :: t) (.int v :: st) h) ∧
  (∀ (a0 : Nat) (a1 : Int32) (ls : eL) (h : eH), ru 120 114 ls [.int a1, .ref a0] h = cl (den 117 [.ref a0, .int a1] h) (fun v h => ru 120 117 ls (v.toList ++ []) h)) ∧
  (∀ (x0 : Option Value) (v : Nat) (t : eL) (st : List Value) (h : eH), ru 120 117 (x0 :: some (.ref v) :: t) st h = ru 120 118 (x0 :: some (.ref v) :: t) (.ref v :: st) h) ∧
  (∀ (x0 x1 x2 x3 : Option Value) (v : Int32) (t : eL) (st : List Value) (h : eH), ru 120 118 (x0 :: x1 :: x2 :: x3 :: some (.int v) :: t) st h = ru 120 120 (x0 :: x1 :: x2 :: x3 :: some (.int v) :: t) (.int v :: st) h) ∧
  (∀ (a0 : Nat) (a1 : Int32) (ls : eL) (h : eH), ru 120 120 ls [.int a1, .ref a0] h = cl (den 117 [.ref a0, .int a1] h) (fun v h => ru 120 123 ls (v.toList ++ []) h)) ∧
  (∀ (x0 : Option Value) (v : Nat) (t : eL) (st : List Value) (h : eH), ru 120 123 (x0 :: some (.ref v) :: t) st h = ru 120 124 (x0 :: some (.ref v) :: t) (.ref v :: st) h) ∧
  (∀ (a : Nat) (ls : eL) (st : List Value) (h : eH), ru 120 124 ls (.ref a :: st) h = gF (h.1 a) 9 1 (fun v => ru 120 127 ls (v :: st) h)) ∧
  (∀ (x0 : Option Value) (v : Nat) (t : eL) (st : List Value) (h : eH), ru 120 127 (x0 :: some (.ref v) :: t) st h = ru 120 128 (x0 :: some (.ref v) :: t) (.ref v :: st) h) ∧
  (∀ (a : Nat) (ls : eL) (st : List Value) (h : eH), ru 120 128 ls (.ref a :: st) h = gF (h.1 a) 9 0 (fun v => ru 120 131 ls (v :: st) h)) ∧
  (∀ (a : Nat) (ls : eL) (st : List Value) (h : eH), ru 120 131 ls (.ref a :: st) h = aN (h.1 a) (fun v => ru 120 132 ls (.int v :: st) h)) ∧
  (∀ (ls : eL) (st : List Value) (h : eH), ru 120 132 ls st h = ru 120 133 ls (.int (nI 1) :: st) h) ∧
  (∀ (x y : Int32) (ls : eL) (st : List Value) (h : eH), ru 120 133 ls (.int y :: .int x :: st) h = ru 120 134 ls (.int (x - y) :: st) h) ∧
  (∀ (a0 : Int32) (a1 : Int32) (ls : eL) (h : eH), ru 120 134 ls [.int a1, .int a0] h = cl (den 9 [.int a0, .int a1] h) (fun v h => ru 120 137 ls (v.toList ++ []) h)) ∧
  (∀ (x0 x1 x2 x3 x4 x5 : Option Value) (v : Int32) (t : eL) (st : List Value) (h : eH), ru 120 137 (x0 :: x1 :: x2 :: x3 :: x4 :: x5 :: t) (.int v :: st) h = ru 120 139 (x0 :: x1 :: x2 :: x3 :: eKl x4 :: some (.int v) :: t) st h) ∧
  (∀ (x0 : Option Value) (v : Nat) (t : eL) (st : List Value) (h : eH), ru 120 139 (x0 :: some (.ref v) :: t) st h = ru 120 140 (x0 :: some (.ref v) :: t) (.ref v :: st) h) ∧
  (∀ (a : Nat) (ls : eL) (st : List Value) (h : eH), ru 120 140 ls (.ref a :: st) h = gF (h.1 a) 9 0 (fun v => ru 120 143 ls (v :: st) h)) ∧
  (∀ (x0 x1 x2 x3 x4 : Option Value) (v : Int32) (t : eL) (st : List Value) (h : eH), ru 120 143 (x0 :: x1 :: x2 :: x3 :: x4 :: some (.int v) :: t) st h = ru 120 145 (x0 :: x1 :: x2 :: x3 :: x4 :: some (.int v) :: t) (.int v :: st) h) ∧
  (∀ (ls : eL) (st : List Value) (h : eH), ru 120 145 ls st h = ru 120 146 ls (.int (nI 0) :: st) h) ∧
  (∀ (x : Int32) (i : Int32) (a : Nat) (ls : eL) (st : List Value) (h : eH), ru 120 146 ls (.int x :: .int i :: .ref a :: st) h = wI (h.1 a) i x (fun e => ru 120 147 ls st (eUp h a e))) ∧
  (∀ (x0 x1 x2 x3 x4 : Option Value) (v : Int32) (t : eL) (st : List Value) (h : eH), ru 120 147 (x0 :: x1 :: x2 :: x3 :: x4 :: some (.int v) :: t) st h = ru 120 149 (x0 :: x1 :: x2 :: x3 :: x4 :: some (.int v) :: t) (.int v :: st) h) ∧
  (∀ (v : Nat) (t : eL) (st : List Value) (h : eH), ru 120 149 (some (.ref v) :: t) st h = ru 120 150 (some (.ref v) :: t) (.ref v :: st) h) ∧
  (∀ (a : Nat) (ls : eL) (st : List Value) (h : eH), ru 120 150 ls (.ref a :: st) h = gF (h.1 a) 2 1 (fun v => ru 120 153 ls (v :: st) h)) ∧
  (∀ (a : Nat) (ls : eL) (st : List Value) (h : eH), ru 120 153 ls (.ref a :: st) h = gF (h.1 a) 9 1 (fun v => ru 120 156 ls (v :: st) h)) ∧
  (∀ (x y : Int32) (ls : eL) (st : List Value) (h : eH), ru 120 156 ls (.int y :: .int x :: st) h = ru 120 157 ls (.int (x - y) :: st) h) ∧
  (∀ (ls : eL) (st : List Value) (h : eH), ru 120 157 ls st h = ru 120 158 ls (.int (nI 1) :: st) h) ∧
  (∀ (x y : Int32) (ls : eL) (st : List Value) (h : eH), ru 120 158 ls (.int y :: .int x :: st) h = ru 120 159 ls (.int (x + y) :: st) h) ∧
  (∀ (x0 x1 x2 x3 x4 x5 x6 : Option Value) (v : Int32) (t : eL) (st : List Value) (h : eH), ru 120 159 (x0 :: x1 :: x2 :: x3 :: x4 :: x5 :: x6 :: t) (.int v :: st) h = ru 120 161 (x0 :: x1 :: x2 :: x3 :: x4 :: eKl x5 :: some (.int v) :: t) st h) ∧
  (∀ (x0 x1 x2 x3 x4 x5 : Option Value) (v : Int32) (t : eL) (st : List Value) (h : eH), ru 120 161 (x0 :: x1 :: x2 :: x3 :: x4 :: x5 :: some (.int v) :: t) st h = ru 120 163 (x0 :: x1 :: x2 :: x3 :: x4 :: x5 :: some (.int v) :: t) (.int v :: st) h) ∧
  (∀ (ls : eL) (st : List Value) (h : eH), ru 120 163 ls st h = ru 120 164 ls (.int (nI 1) :: st) h) ∧
  (∀ (x y : Int32) (ls : eL) (st : List Value) (h : eH), ru 120 164 ls (.int y :: .int x :: st) h = ru 120 165 ls (.int (x - y) :: st) h) ∧
  (∀ (x0 x1 x2 x3 x4 x5 x6 x7 : Option Value) (v : Int32) (t : eL) (st : List Value) (h : eH), ru 120 165 (x0 :: x1 :: x2 :: x3 :: x4 :: x5 :: x6 :: x7 :: t) (.int v :: st) h = ru 120 167 (x0 :: x1 :: x2 :: x3 :: x4 :: x5 :: eKl x6 :: some (.int v) :: t) st h) ∧
  (∀ (x : Int32) (ls : eL) (st : List Value) (h : eH), ru 120 169 ls (.int x :: st) h = if x < 0 then ru 120 198 ls st h else ru 120 172 ls st h) ∧
  (∀ (v : Nat) (t : eL) (st : List Value) (h : eH), ru 120 172 (some (.ref v) :: t) st h = ru 120 173 (some (.ref v) :: t) (.ref v :: st) h) ∧
  (∀ (a : Nat) (ls : eL) (st : List Value) (h : eH), ru 120 173 ls (.ref a :: st) h = gF (h.1 a) 2 0 (fun v => ru 120 176 ls (v :: st) h)) ∧
  (∀ (a : Nat) (ls : eL) (st : List Value) (h : eH), ru 120 176 ls (.ref a :: st) h = gF (h.1 a) 9 0 (fun v => ru 120 179 ls (v :: st) h)) ∧
  (∀ (x0 x1 x2 x3 x4 x5 x6 : Option Value) (v : Int32) (t : eL) (st : List Value) (h : eH), ru 120 179 (x0 :: x1 :: x2 :: x3 :: x4 :: x5 :: x6 :: some (.int v) :: t) st h = ru 120 181 (x0 :: x1 :: x2 :: x3 :: x4 :: x5 :: x6 :: some (.int v) :: t) (.int v :: st) h) ∧
  (∀ (v : Nat) (t : eL) (st : List Value) (h : eH), ru 120 181 (some (.ref v) :: t) st h = ru 120 182 (some (.ref v) :: t) (.ref v :: st) h) ∧
  (∀ (x0 : Option Value) (v : Nat) (t : eL) (st : List Value) (h : eH), ru 120 182 (x0 :: some (.ref v) :: t) st h = ru 120 183 (x0 :: some (.ref v) :: t) (.ref v :: st) h) ∧
  (∀ (a : Nat) (ls : eL) (st : List Value) (h : eH), ru 120 183 ls (.ref a :: st) h = gF (h.1 a) 9 0 (fun v => ru 120 186 ls (v :: st) h)) ∧
  (∀ (x0 x1 x2 x3 x4 x5 x6 : Option Value) (v : Int32) (t : eL) (st : List Value) (h : eH), ru 120 186 (x0 :: x1 :: x2 :: x3 :: x4 :: x5 :: x6 :: some (.int v) :: t) st h = ru 120 188 (x0 :: x1 :: x2 :: x3 :: x4 :: x5 :: x6 :: some (.int v) :: t) (.int v :: st) h) ∧
  (∀ (a0 : Nat) (a1 : Nat) (a2 : Int32) (u0 : Int32) (u1 : Nat) (ls : eL) (h : eH), ru 120 188 ls [.int a2, .ref a1, .ref a0, .int u0, .ref u1] h = cl (den 119 [.ref a0, .ref a1, .int a2] h) (fun v h => ru 120 191 ls (v.toList ++ [.int u0, .ref u1]) h)) ∧
  (∀ (x : Int32) (i : Int32) (a : Nat) (ls : eL) (st : List Value) (h : eH), ru 120 191 ls (.int x :: .int i :: .ref a :: st) h = wI (h.1 a) i x (fun e => ru 120 192 ls st (eUp h a e))) ∧
  (∀ (x0 x1 x2 x3 x4 x5 x6 : Option Value) (v : Int32) (t : eL) (st : List Value) (h : eH), ru 120 192 (x0 :: x1 :: x2 :: x3 :: x4 :: x5 :: x6 :: some (.int v) :: t) st h = ru 120 195 (x0 :: x1 :: x2 :: x3 :: x4 :: x5 :: eKl x6 :: some (.int (v + (-1))) :: t) st h) ∧
  (∀ (ls : eL) (st : List Value) (h : eH), ru 120 195 ls st h = ru 120 167 ls st h) ∧
  (∀ (a : Nat) (ls : eL) (st : List Value) (h : eH), ru 120 199 ls (.ref a :: st) h = gF (h.1 a) 2 0 (fun v => ru 120 202 ls (v :: st) h)) ∧
  (∀ (x0 x1 x2 x3 x4 x5 : Option Value) (v : Int32) (t : eL) (st : List Value) (h : eH), ru 120 202 (x0 :: x1 :: x2 :: x3 :: x4 :: x5 :: some (.int v) :: t) st h = ru 120 204 (x0 :: x1 :: x2 :: x3 :: x4 :: x5 :: some (.int v) :: t) (.int v :: st) h) ∧
  (∀ (a0 : Nat) (a1 : Int32) (ls : eL) (h : eH), ru 120 204 ls [.int a1, .ref a0] h = cl (den 95 [.ref a0, .int a1] h) (fun v h => ru 120 207 ls (v.toList ++ []) h)) ∧
  (∀ (v : Nat) (t : eL) (st : List Value) (h : eH), ru 120 207 (some (.ref v) :: t) st h = ru 120 208 (some (.ref v) :: t) (.ref v :: st) h) ∧
  (∀ (a : Nat) (ls : eL) (st : List Value) (h : eH), ru 120 208 ls (.ref a :: st) h = gF (h.1 a) 2 0 (fun v => ru 120 211 ls (v :: st) h)) ∧
  (∀ (x0 x1 x2 : Option Value) (v : Int32) (t : eL) (st : List Value) (h : eH), ru 120 211 (x0 :: x1 :: x2 :: some (.int v) :: t) st h = ru 120 212 (x0 :: x1 :: x2 :: some (.int v) :: t) (.int v :: st) h) ∧
  (∀ (v : Int32) (a : Nat) (ls : eL) (st : List Value) (h : eH), ru 120 212 ls (.int v :: .ref a :: st) h = pF (h.1 a) 9 2 (.int v) (fun e => ru 120 215 ls st (eUp h a e))) ∧
  (∀ (x0 : Option Value) (v : Nat) (t : eL) (st : List Value) (h : eH), ru 120 215 (x0 :: some (.ref v) :: t) st h = ru 120 216 (x0 :: some (.ref v) :: t) (.ref v :: st) h) ∧
  (∀ (x0 x1 x2 x3 x4 : Option Value) (v : Int32) (t : eL) (st : List Value) (h : eH), ru 120 216 (x0 :: x1 :: x2 :: x3 :: x4 :: some (.int v) :: t) st h = ru 120 218 (x0 :: x1 :: x2 :: x3 :: x4 :: some (.int v) :: t) (.int v :: st) h) ∧
  (∀ (a0 : Nat) (a1 : Int32) (ls : eL) (h : eH), ru 120 218 ls [.int a1, .ref a0] h = cl (den 95 [.ref a0, .int a1] h) (fun v h => ru 120 221 ls (v.toList ++ []) h)) ∧
  (∀ (x0 : Option Value) (v : Nat) (t : eL) (st : List Value) (h : eH), ru 120 221 (x0 :: some (.ref v) :: t) st h = ru 120 222 (x0 :: some (.ref v) :: t) (.ref v :: st) h) ∧
  (∀ (x0 x1 x2 x3 : Option Value) (v : Int32) (t : eL) (st : List Value) (h : eH), ru 120 222 (x0 :: x1 :: x2 :: x3 :: some (.int v) :: t) st h = ru 120 224 (x0 :: x1 :: x2 :: x3 :: some (.int v) :: t) (.int v :: st) h) ∧
  (∀ (a0 : Nat) (a1 : Int32) (ls : eL) (h : eH), ru 120 224 ls [.int a1, .ref a0] h = cl (den 116 [.ref a0, .int a1] h) (fun v h => ru 120 227 ls (v.toList ++ []) h)) ∧
  (∀ (x : Int32) (ls : eL) (st : List Value) (h : eH), ru 120 227 ls (.int x :: st) h = ru 120 228 ls st h) ∧
  (∀ (ls : eL) (h : eH), ru 120 228 ls [] h = some (none, h)) := ⟨fun v t st h => ru_go rfl rfl,
  fun a ls st h => ru_getf rfl,
  fun a0 ls h => ru_inv rfl (by decide) rfl (Nat.le_of_ble_eq_true rfl),
  fun x0 x1 v t st h => ru_go rfl rfl,
  fun a ls st h => ru_getf rfl,
  fun x ls st h => ru_if rfl rfl,
  fun x0 v t st h => ru_go rfl rfl,
  fun x0 x1 v t st h => ru_go rfl rfl,
  fun a0 a1 ls h => ru_inv rfl (by decide) rfl (Nat.le_of_ble_eq_true rfl),
  fun x ls st h => ru_if rfl rfl,
  fun ls h => ru_ret rfl rfl,
  fun x0 v t st h => ru_go rfl rfl,
  fun a ls st h => ru_getf rfl,
  fun x0 x1 v t st h => ru_go rfl rfl,
  fun a ls st h => ru_getf rfl,
  fun x y ls st h => ru_if rfl rfl,
  fun ls st h => ru_go rfl rfl,
  fun ls st h => ru_go rfl rfl,
  fun ls st h => ru_go rfl rfl,
  fun x0 x1 x2 x3 v t st h => ru_go rfl rfl,
  fun x0 x1 v t st h => ru_go rfl rfl,
  fun a ls st h => ru_getf rfl,
  fun ls st h => ru_go rfl rfl,
  fun x y ls st h => ru_if rfl rfl,
  fun v t st h => ru_go rfl rfl,
  fun a ls st h => ru_getf rfl,
  fun x0 v t st h => ru_go rfl rfl,
  fun a0 a1 ls h => ru_inv rfl (by decide) rfl (Nat.le_of_ble_eq_true rfl),
  fun x0 v t st h => ru_go rfl rfl,
  fun v t st h => ru_go rfl rfl,
  fun a ls st h => ru_getf rfl,
  fun x0 x1 v t st h => ru_go rfl rfl,
  fun a ls st h => ru_getf rfl,
  fun ls st h => ru_go rfl rfl,
  fun i a ls st h => ru_iald rfl,
  fun a0 a1 u0 ls h => ru_inv rfl (by decide) rfl (Nat.le_of_ble_eq_true rfl),
  fun a0 a1 ls h => ru_inv rfl (by decide) rfl (Nat.le_of_ble_eq_true rfl),
  fun v t st h => ru_go rfl rfl,
  fun a ls st h => ru_getf rfl,
  fun x0 x1 x2 v t st h => ru_go rfl rfl,
  fun v a ls st h => ru_putf rfl,
  fun ls h => ru_ret rfl rfl,
  fun ls st h => ru_go rfl rfl,
  fun x0 x1 v t st h => ru_go rfl rfl,
  fun a ls st h => ru_getf rfl,
  fun x0 x1 v t st h => ru_go rfl rfl,
  fun a ls st h => ru_getf rfl,
  fun ls st h => ru_go rfl rfl,
  fun x y ls st h => ru_go rfl rfl,
  fun i a ls st h => ru_iald rfl,
  fun ls st h => ru_go rfl rfl,
  fun x y ls st h => ru_go rfl rfl,
  fun x y ls st h => ru_guard rfl rfl,
  fun x0 x1 x2 x3 x4 v t st h => ru_go rfl rfl,
  fun v t st h => ru_go rfl rfl,
  fun a ls st h => ru_getf rfl,
  fun x0 x1 v t st h => ru_go rfl rfl,
  fun a0 a1 ls h => ru_inv rfl (by decide) rfl (Nat.le_of_ble_eq_true rfl),
  fun v t st h => ru_go rfl rfl,
  fun a ls st h => ru_getf rfl,
  fun x0 x1 x2 x3 v t st h => ru_go rfl rfl,
  fun a0 a1 ls h => ru_inv rfl (by decide) rfl (Nat.le_of_ble_eq_true rfl),
  fun x0 v t st h => ru_go rfl rfl,
  fun x0 x1 x2 x3 v t st h => ru_go rfl rfl,
  fun a0 a1 ls h => ru_inv rfl (by decide) rfl (Nat.le_of_ble_eq_true rfl),
  fun x0 v t st h => ru_go rfl rfl,
  fun a ls st h => ru_getf rfl,
  fun x0 v t st h => ru_go rfl rfl,
  fun a ls st h => ru_getf rfl,
  fun a ls st h => ru_alen rfl,
  fun ls st h => ru_go rfl rfl,
  fun x y ls st h => ru_go rfl rfl,
  fun a0 a1 ls h => ru_inv rfl (by decide) rfl (Nat.le_of_ble_eq_true rfl),
  fun x0 x1 x2 x3 x4 x5 v t st h => ru_go rfl rfl,
  fun x0 v t st h => ru_go rfl rfl,
  fun a ls st h => ru_getf rfl,
  fun x0 x1 x2 x3 x4 v t st h => ru_go rfl rfl,
  fun ls st h => ru_go rfl rfl,
  fun x i a ls st h => ru_iast rfl,
  fun x0 x1 x2 x3 x4 v t st h => ru_go rfl rfl,
  fun v t st h => ru_go rfl rfl,
  fun a ls st h => ru_getf rfl,
  fun a ls st h => ru_getf rfl,
  fun x y ls st h => ru_go rfl rfl,
  fun ls st h => ru_go rfl rfl,
  fun x y ls st h => ru_go rfl rfl,
  fun x0 x1 x2 x3 x4 x5 x6 v t st h => ru_go rfl rfl,
  fun x0 x1 x2 x3 x4 x5 v t st h => ru_go rfl rfl,
  fun ls st h => ru_go rfl rfl,
  fun x y ls st h => ru_go rfl rfl,
  fun x0 x1 x2 x3 x4 x5 x6 x7 v t st h => ru_go rfl rfl,
  fun x ls st h => ru_if rfl rfl,
  fun v t st h => ru_go rfl rfl,
  fun a ls st h => ru_getf rfl,
  fun a ls st h => ru_getf rfl,
  fun x0 x1 x2 x3 x4 x5 x6 v t st h => ru_go rfl rfl,
  fun v t st h => ru_go rfl rfl,
  fun x0 v t st h => ru_go rfl rfl,
  fun a ls st h => ru_getf rfl,
  fun x0 x1 x2 x3 x4 x5 x6 v t st h => ru_go rfl rfl,
  fun a0 a1 a2 u0 u1 ls h => ru_inv rfl (by decide) rfl (Nat.le_of_ble_eq_true rfl),
  fun x i a ls st h => ru_iast rfl,
  fun x0 x1 x2 x3 x4 x5 x6 v t st h => ru_go rfl rfl,
  fun ls st h => ru_go rfl rfl,
  fun a ls st h => ru_getf rfl,
  fun x0 x1 x2 x3 x4 x5 v t st h => ru_go rfl rfl,
  fun a0 a1 ls h => ru_inv rfl (by decide) rfl (Nat.le_of_ble_eq_true rfl),
  fun v t st h => ru_go rfl rfl,
  fun a ls st h => ru_getf rfl,
  fun x0 x1 x2 v t st h => ru_go rfl rfl,
  fun v a ls st h => ru_putf rfl,
  fun x0 v t st h => ru_go rfl rfl,
  fun x0 x1 x2 x3 x4 v t st h => ru_go rfl rfl,
  fun a0 a1 ls h => ru_inv rfl (by decide) rfl (Nat.le_of_ble_eq_true rfl),
  fun x0 v t st h => ru_go rfl rfl,
  fun x0 x1 x2 x3 v t st h => ru_go rfl rfl,
  fun a0 a1 ls h => ru_inv rfl (by decide) rfl (Nat.le_of_ble_eq_true rfl),
  fun x ls st h => ru_go rfl rfl,
  fun ls h => ru_ret rfl rfl⟩
theorem E120 (a0 : Nat) (a1 : Nat) (a2 : Nat) {h : eH} {fs : List Value} (ha : h.1 a0 = .inr (2, fs)) : den 120 [.ref a0, .ref a1, .ref a2] h = ru 120 0 [some (.ref a0), some (.ref a1), some (.ref a2), none, none, none, none, none] [] h := den_ob (Nat.le_of_ble_eq_true rfl) ha
/-! 121 X5_clearCell -/
set_option maxRecDepth 100000 in
theorem H121_15 : (∀ (x0 x1 x2 : Option Value) (v : Int32) (t : eL) (st : List Value) (h : eH), ru 121 15 (x0 :: x1 :: x2 :: some (.int v) :: t) st h = ru 121 16 (x0 :: x1 :: x2 :: some (.int v) :: t) (.int v :: st) h) := fun x0 x1 x2 v t st h => ru_go rfl rfl
set_option maxRecDepth 100000 in
theorem S121 : (∀ (v : Nat) (t : eL) (st : List Value) (h : eH), ru 121 0 (some (.ref v) :: t) st h = ru 121 1 (some (.ref v) :: t) (.ref v :: st) h) ∧
  (∀ (v : Nat) (t : eL) (st : List Value) (h : eH), ru 121 1 (some (.ref v) :: t) st h = ru 121 2 (some (.ref v) :: t) (.ref v :: st) h) ∧
  (∀ (a : Nat) (ls : eL) (st : List Value) (h : eH), ru 121 2 ls (.ref a :: st) h = gF (h.1 a) 5 5 (fun v => ru 121 5 ls (v :: st) h)) ∧
  (∀ (a : Nat) (ls : eL) (st : List Value) (h : eH), ru 121 5 ls (.ref a :: st) h = gF (h.1 a) 1 2 (fun v => ru 121 8 ls (v :: st) h)) ∧
  (∀ (x0 : Option Value) (v : Int32) (t : eL) (st : List Value) (h : eH), ru 121 8 (x0 :: some (.int v) :: t) st h = ru 121 9 (x0 :: some (.int v) :: t) (.int v :: st) h) ∧
  (∀ (x0 x1 : Option Value) (v : Int32) (t : eL) (st : List Value) (h : eH), ru 121 9 (x0 :: x1 :: some (.int v) :: t) st h = ru 121 10 (x0 :: x1 :: some (.int v) :: t) (.int v :: st) h) ∧
  (∀ (a0 : Nat) (a1 : Nat) (a2 : Int32) (a3 : Int32) (ls : eL) (h : eH), ru 121 10 ls [.int a3, .int a2, .ref a1, .ref a0] h = cl (den 86 [.ref a0, .ref a1, .int a2, .int a3] h) (fun v h => ru 121 13 ls (v.toList ++ []) h)) ∧
  (∀ (ls : eL) (st : List Value) (h : eH), ru 121 13 ls st h = ru 121 14 ls (.int (nI 0) :: st) h) ∧
  (∀ (x0 x1 x2 x3 : Option Value) (v : Int32) (t : eL) (st : List Value) (h : eH), ru 121 14 (x0 :: x1 :: x2 :: x3 :: t) (.int v :: st) h = ru 121 15 (x0 :: x1 :: eKl x2 :: some (.int v) :: t) st h) ∧
  (∀ (v : Nat) (t : eL) (st : List Value) (h : eH), ru 121 16 (some (.ref v) :: t) st h = ru 121 17 (some (.ref v) :: t) (.ref v :: st) h) ∧
  (∀ (a : Nat) (ls : eL) (st : List Value) (h : eH), ru 121 17 ls (.ref a :: st) h = gF (h.1 a) 5 8 (fun v => ru 121 20 ls (v :: st) h)) ∧
  (∀ (x y : Int32) (ls : eL) (st : List Value) (h : eH), ru 121 20 ls (.int y :: .int x :: st) h = if y ≤ x then ru 121 208 ls st h else ru 121 23 ls st h) ∧
  (∀ (x0 : Option Value) (v : Int32) (t : eL) (st : List Value) (h : eH), ru 121 23 (x0 :: some (.int v) :: t) st h = ru 121 24 (x0 :: some (.int v) :: t) (.int v :: st) h) ∧
  (∀ (v : Nat) (t : eL) (st : List Value) (h : eH), ru 121 24 (some (.ref v) :: t) st h = ru 121 25 (some (.ref v) :: t) (.ref v :: st) h) ∧
  (∀ (a : Nat) (ls : eL) (st : List Value) (h : eH), ru 121 25 ls (.ref a :: st) h = gF (h.1 a) 5 9 (fun v => ru 121 28 ls (v :: st) h)) ∧
  (∀ (x y : Int32) (ls : eL) (st : List Value) (h : eH), ru 121 28 ls (.int y :: .int x :: st) h = if x = y then ru 121 208 ls st h else ru 121 31 ls st h) ∧
  (∀ (v : Nat) (t : eL) (st : List Value) (h : eH), ru 121 31 (some (.ref v) :: t) st h = ru 121 32 (some (.ref v) :: t) (.ref v :: st) h) ∧
  (∀ (v : Nat) (t : eL) (st : List Value) (h : eH), ru 121 32 (some (.ref v) :: t) st h = ru 121 33 (some (.ref v) :: t) (.ref v :: st) h) ∧
  (∀ (a : Nat) (ls : eL) (st : List Value) (h : eH), ru 121 33 ls (.ref a :: st) h = gF (h.1 a) 5 5 (fun v => ru 121 36 ls (v :: st) h)) ∧
  (∀ (a : Nat) (ls : eL) (st : List Value) (h : eH), ru 121 36 ls (.ref a :: st) h = gF (h.1 a) 1 3 (fun v => ru 121 39 ls (v :: st) h)) ∧
  (∀ (x0 : Option Value) (v : Int32) (t : eL) (st : List Value) (h : eH), ru 121 39 (x0 :: some (.int v) :: t) st h = ru 121 40 (x0 :: some (.int v) :: t) (.int v :: st) h) ∧
  (∀ (x0 x1 x2 : Option Value) (v : Int32) (t : eL) (st : List Value) (h : eH), ru 121 40 (x0 :: x1 :: x2 :: some (.int v) :: t) st h = ru 121 41 (x0 :: x1 :: x2 :: some (.int v) :: t) (.int v :: st) h) ∧
  (∀ (a0 : Nat) (a1 : Nat) (a2 : Int32) (a3 : Int32) (ls : eL) (h : eH), ru 121 41 ls [.int a3, .int a2, .ref a1, .ref a0] h = cl (den 86 [.ref a0, .ref a1, .int a2, .int a3] h) (fun v h => ru 121 44 ls (v.toList ++ []) h)) ∧
  (∀ (v : Nat) (t : eL) (st : List Value) (h : eH), ru 121 44 (some (.ref v) :: t) st h = ru 121 45 (some (.ref v) :: t) (.ref v :: st) h) ∧
  (∀ (v : Nat) (t : eL) (st : List Value) (h : eH), ru 121 45 (some (.ref v) :: t) st h = ru 121 46 (some (.ref v) :: t) (.ref v :: st) h) ∧
  (∀ (a : Nat) (ls : eL) (st : List Value) (h : eH), ru 121 46 ls (.ref a :: st) h = gF (h.1 a) 5 5 (fun v => ru 121 49 ls (v :: st) h)) ∧
  (∀ (a : Nat) (ls : eL) (st : List Value) (h : eH), ru 121 49 ls (.ref a :: st) h = gF (h.1 a) 1 4 (fun v => ru 121 52 ls (v :: st) h)) ∧
  (∀ (v : Nat) (t : eL) (st : List Value) (h : eH), ru 121 52 (some (.ref v) :: t) st h = ru 121 53 (some (.ref v) :: t) (.ref v :: st) h) ∧
  (∀ (a : Nat) (ls : eL) (st : List Value) (h : eH), ru 121 53 ls (.ref a :: st) h = gF (h.1 a) 5 9 (fun v => ru 121 56 ls (v :: st) h)) ∧
  (∀ (x0 x1 x2 : Option Value) (v : Int32) (t : eL) (st : List Value) (h : eH), ru 121 56 (x0 :: x1 :: x2 :: some (.int v) :: t) st h = ru 121 57 (x0 :: x1 :: x2 :: some (.int v) :: t) (.int v :: st) h) ∧
  (∀ (a0 : Nat) (a1 : Nat) (a2 : Int32) (a3 : Int32) (ls : eL) (h : eH), ru 121 57 ls [.int a3, .int a2, .ref a1, .ref a0] h = cl (den 86 [.ref a0, .ref a1, .int a2, .int a3] h) (fun v h => ru 121 60 ls (v.toList ++ []) h)) ∧
  (∀ (v : Nat) (t : eL) (st : List Value) (h : eH), ru 121 60 (some (.ref v) :: t) st h = ru 121 61 (some (.ref v) :: t) (.ref v :: st) h) ∧
  (∀ (a : Nat) (ls : eL) (st : List Value) (h : eH), ru 121 61 ls (.ref a :: st) h = gF (h.1 a) 5 5 (fun v => ru 121 64 ls (v :: st) h)) ∧
  (∀ (a : Nat) (ls : eL) (st : List Value) (h : eH), ru 121 64 ls (.ref a :: st) h = gF (h.1 a) 1 3 (fun v => ru 121 67 ls (v :: st) h)) ∧
  (∀ (a : Nat) (ls : eL) (st : List Value) (h : eH), ru 121 67 ls (.ref a :: st) h = gF (h.1 a) 9 1 (fun v => ru 121 70 ls (v :: st) h)) ∧
  (∀ (x : Int32) (ls : eL) (st : List Value) (h : eH), ru 121 70 ls (.int x :: st) h = if 0 < x then ru 121 99 ls st h else ru 121 73 ls st h) ∧
  (∀ (v : Nat) (t : eL) (st : List Value) (h : eH), ru 121 73 (some (.ref v) :: t) st h = ru 121 74 (some (.ref v) :: t) (.ref v :: st) h) ∧
  (∀ (a : Nat) (ls : eL) (st : List Value) (h : eH), ru 121 74 ls (.ref a :: st) h = gF (h.1 a) 5 5 (fun v => ru 121 77 ls (v :: st) h)) ∧
  (∀ (a : Nat) (ls : eL) (st : List Value) (h : eH), ru 121 77 ls (.ref a :: st) h = gF (h.1 a) 1 4 (fun v => ru 121 80 ls (v :: st) h)) ∧
  (∀ (a : Nat) (ls : eL) (st : List Value) (h : eH), ru 121 80 ls (.ref a :: st) h = gF (h.1 a) 9 1 (fun v => ru 121 83 ls (v :: st) h)) ∧
  (∀ (x : Int32) (ls : eL) (st : List Value) (h : eH), ru 121 83 ls (.int x :: st) h = if x ≤ 0 then ru 121 202 ls st h else ru 121 86 ls st h) ∧
  (∀ (v : Nat) (t : eL) (st : List Value) (h : eH), ru 121 86 (some (.ref v) :: t) st h = ru 121 87 (some (.ref v) :: t) (.ref v :: st) h) ∧
  (∀ (a : Nat) (ls : eL) (st : List Value) (h : eH), ru 121 87 ls (.ref a :: st) h = gF (h.1 a) 5 5 (fun v => ru 121 90 ls (v :: st) h)) ∧
  (∀ (a : Nat) (ls : eL) (st : List Value) (h : eH), ru 121 90 ls (.ref a :: st) h = gF (h.1 a) 1 2 (fun v => ru 121 93 ls (v :: st) h)) ∧
  (∀ (a : Nat) (ls : eL) (st : List Value) (h : eH), ru 121 93 ls (.ref a :: st) h = gF (h.1 a) 9 1 (fun v => ru 121 96 ls (v :: st) h)) ∧
  (∀ (x : Int32) (ls : eL) (st : List Value) (h : eH), ru 121 96 ls (.int x :: st) h = if x ≤ 0 then ru 121 202 ls st h else ru 121 99 ls st h) ∧
  (∀ (v : Nat) (t : eL) (st : List Value) (h : eH), ru 121 99 (some (.ref v) :: t) st h = ru 121 100 (some (.ref v) :: t) (.ref v :: st) h) ∧
  (∀ (a : Nat) (ls : eL) (st : List Value) (h : eH), ru 121 100 ls (.ref a :: st) h = gF (h.1 a) 5 5 (fun v => ru 121 103 ls (v :: st) h)) ∧
  (∀ (a : Nat) (ls : eL) (st : List Value) (h : eH), ru 121 103 ls (.ref a :: st) h = gF (h.1 a) 1 5 (fun v => ru 121 106 ls (v :: st) h)) ∧
  (∀ (v : Nat) (t : eL) (st : List Value) (h : eH), ru 121 106 (some (.ref v) :: t) st h = ru 121 107 (some (.ref v) :: t) (.ref v :: st) h) ∧
  (∀ (a : Nat) (ls : eL) (st : List Value) (h : eH), ru 121 107 ls (.ref a :: st) h = gF (h.1 a) 5 5 (fun v => ru 121 110 ls (v :: st) h)) ∧
  (∀ (a : Nat) (ls : eL) (st : List Value) (h : eH), ru 121 110 ls (.ref a :: st) h = gF (h.1 a) 1 1 (fun v => ru 121 113 ls (v :: st) h)) ∧
  (∀ (v : Nat) (t : eL) (st : List Value) (h : eH), ru 121 113 (some (.ref v) :: t) st h = ru 121 114 (some (.ref v) :: t) (.ref v :: st) h) ∧
  (∀ (a : Nat) (ls : eL) (st : List Value) (h : eH), ru 121 114 ls (.ref a :: st) h = gF (h.1 a) 5 5 (fun v => ru 121 117 ls (v :: st) h)) ∧
  (∀ (a : Nat) (ls : eL) (st : List Value) (h : eH), ru 121 117 ls (.ref a :: st) h = gF (h.1 a) 1 3 (fun v => ru 121 120 ls (v :: st) h)) ∧
  (∀ (a0 : Nat) (a1 : Nat) (a2 : Nat) (ls : eL) (h : eH), ru 121 120 ls [.ref a2, .ref a1, .ref a0] h = cl (den 96 [.ref a0, .ref a1, .ref a2] h) (fun v h => ru 121 123 ls (v.toList ++ []) h)) ∧
  (∀ (v : Nat) (t : eL) (st : List Value) (h : eH), ru 121 123 (some (.ref v) :: t) st h = ru 121 124 (some (.ref v) :: t) (.ref v :: st) h) ∧
  (∀ (a : Nat) (ls : eL) (st : List Value) (h : eH), ru 121 124 ls (.ref a :: st) h = gF (h.1 a) 5 5 (fun v => ru 121 127 ls (v :: st) h)) ∧
  (∀ (a : Nat) (ls : eL) (st : List Value) (h : eH), ru 121 127 ls (.ref a :: st) h = gF (h.1 a) 1 6 (fun v => ru 121 130 ls (v :: st) h)) ∧
  (∀ (v : Nat) (t : eL) (st : List Value) (h : eH), ru 121 130 (some (.ref v) :: t) st h = ru 121 131 (some (.ref v) :: t) (.ref v :: st) h) ∧
  (∀ (a : Nat) (ls : eL) (st : List Value) (h : eH), ru 121 131 ls (.ref a :: st) h = gF (h.1 a) 5 5 (fun v => ru 121 134 ls (v :: st) h)) ∧
  (∀ (a : Nat) (ls : eL) (st : List Value) (h : eH), ru 121 134 ls (.ref a :: st) h = gF (h.1 a) 1 2 (fun v => ru 121 137 ls (v :: st) h)) ∧
  (∀ (v : Nat) (t : eL) (st : List Value) (h : eH), ru 121 137 (some (.ref v) :: t) st h = ru 121 138 (some (.ref v) :: t) (.ref v :: st) h) ∧
  (∀ (a : Nat) (ls : eL) (st : List Value) (h : eH), ru 121 138 ls (.ref a :: st) h = gF (h.1 a) 5 5 (fun v => ru 121 141 ls (v :: st) h)) ∧
  (∀ (a : Nat) (ls : eL) (st : List Value) (h : eH), ru 121 141 ls (.ref a :: st) h = gF (h.1 a) 1 4 (fun v => ru 121 144 ls (v :: st) h)) ∧
  (∀ (a0 : Nat) (a1 : Nat) (a2 : Nat) (ls : eL) (h : eH), ru 121 144 ls [.ref a2, .ref a1, .ref a0] h = cl (den 96 [.ref a0, .ref a1, .ref a2] h) (fun v h => ru 121 147 ls (v.toList ++ []) h)) ∧
  (∀ (v : Nat) (t : eL) (st : List Value) (h : eH), ru 121 147 (some (.ref v) :: t) st h = ru 121 148 (some (.ref v) :: t) (.ref v :: st) h) ∧
  (∀ (a : Nat) (ls : eL) (st : List Value) (h : eH), ru 121 148 ls (.ref a :: st) h = gF (h.1 a) 5 5 (fun v => ru 121 151 ls (v :: st) h)) ∧
  (∀ (a : Nat) (ls : eL) (st : List Value) (h : eH), ru 121 151 ls (.ref a :: st) h = gF (h.1 a) 1 5 (fun v => ru 121 154 ls (v :: st) h)) ∧
  (∀ (v : Nat) (t : eL) (st : List Value) (h : eH), ru 121 154 (some (.ref v) :: t) st h = ru 121 155 (some (.ref v) :: t) (.ref v :: st) h) ∧
  (∀ (a : Nat) (ls : eL) (st : List Value) (h : eH), ru 121 155 ls (.ref a :: st) h = gF (h.1 a) 5 5 (fun v => ru 121 158 ls (v :: st) h)) ∧
  (∀ (a : Nat) (ls : eL) (st : List Value) (h : eH), ru 121 158 ls (.ref a :: st) h = gF (h.1 a) 1 6 (fun v => ru 121 161 ls (v :: st) h)) ∧
  (∀ (ls : eL) (st : List Value) (h : eH), ru 121 161 ls st h = ru 121 162 ls (.int (nI 1) :: st) h) ∧
  (∀ (a0 : Nat) (a1 : Nat) (a2 : Int32) (ls : eL) (h : eH), ru 121 162 ls [.int a2, .ref a1, .ref a0] h = cl (den 99 [.ref a0, .ref a1, .int a2] h) (fun v h => ru 121 165 ls (v.toList ++ []) h)) ∧
  (∀ (v : Nat) (t : eL) (st : List Value) (h : eH), ru 121 165 (some (.ref v) :: t) st h = ru 121 166 (some (.ref v) :: t) (.ref v :: st) h) ∧
  (∀ (a : Nat) (ls : eL) (st : List Value) (h : eH), ru 121 166 ls (.ref a :: st) h = gF (h.1 a) 5 5 (fun v => ru 121 169 ls (v :: st) h)) ∧
  (∀ (a : Nat) (ls : eL) (st : List Value) (h : eH), ru 121 169 ls (.ref a :: st) h = gF (h.1 a) 1 0 (fun v => ru 121 172 ls (v :: st) h)) ∧
  (∀ (v : Nat) (t : eL) (st : List Value) (h : eH), ru 121 172 (some (.ref v) :: t) st h = ru 121 173 (some (.ref v) :: t) (.ref v :: st) h) ∧
  (∀ (a : Nat) (ls : eL) (st : List Value) (h : eH), ru 121 173 ls (.ref a :: st) h = gF (h.1 a) 5 5 (fun v => ru 121 176 ls (v :: st) h)) ∧
  (∀ (a : Nat) (ls : eL) (st : List Value) (h : eH), ru 121 176 ls (.ref a :: st) h = gF (h.1 a) 1 5 (fun v => ru 121 179 ls (v :: st) h)) ∧
  (∀ (v : Nat) (t : eL) (st : List Value) (h : eH), ru 121 179 (some (.ref v) :: t) st h = ru 121 180 (some (.ref v) :: t) (.ref v :: st) h) ∧
  (∀ (a : Nat) (ls : eL) (st : List Value) (h : eH), ru 121 180 ls (.ref a :: st) h = gF (h.1 a) 5 11 (fun v => ru 121 183 ls (v :: st) h)) ∧
  (∀ (a0 : Nat) (a1 : Nat) (a2 : Nat) (ls : eL) (h : eH), ru 121 183 ls [.ref a2, .ref a1, .ref a0] h = cl (den 120 [.ref a0, .ref a1, .ref a2] h) (fun v h => ru 121 186 ls (v.toList ++ []) h)) ∧
  (∀ (v : Nat) (t : eL) (st : List Value) (h : eH), ru 121 186 (some (.ref v) :: t) st h = ru 121 187 (some (.ref v) :: t) (.ref v :: st) h) ∧
  (∀ (x0 : Option Value) (v : Int32) (t : eL) (st : List Value) (h : eH), ru 121 187 (x0 :: some (.int v) :: t) st h = ru 121 188 (x0 :: some (.int v) :: t) (.int v :: st) h) ∧
  (∀ (x0 x1 x2 : Option Value) (v : Int32) (t : eL) (st : List Value) (h : eH), ru 121 188 (x0 :: x1 :: x2 :: some (.int v) :: t) st h = ru 121 189 (x0 :: x1 :: x2 :: some (.int v) :: t) (.int v :: st) h) ∧
  (∀ (v : Nat) (t : eL) (st : List Value) (h : eH), ru 121 189 (some (.ref v) :: t) st h = ru 121 190 (some (.ref v) :: t) (.ref v :: st) h) ∧
  (∀ (a : Nat) (ls : eL) (st : List Value) (h : eH), ru 121 190 ls (.ref a :: st) h = gF (h.1 a) 5 5 (fun v => ru 121 193 ls (v :: st) h)) ∧
  (∀ (a : Nat) (ls : eL) (st : List Value) (h : eH), ru 121 193 ls (.ref a :: st) h = gF (h.1 a) 1 0 (fun v => ru 121 196 ls (v :: st) h)) ∧
  (∀ (a : Nat) (ls : eL) (st : List Value) (h : eH), ru 121 196 ls (.ref a :: st) h = gF (h.1 a) 2 0 (fun v => ru 121 199 ls (v :: st) h)) ∧
  (∀ (a0 : Nat) (a1 : Int32) (a2 : Int32) (a3 : Nat) (ls : eL) (h : eH), ru 121 199 ls [.ref a3, .int a2, .int a1, .ref a0] h = cl (den 114 [.ref a0, .int a1, .int a2, .ref a3] h) (fun v h => ru 121 202 ls (v.toList ++ []) h)) ∧
  (∀ (x0 x1 x2 : Option Value) (v : Int32) (t : eL) (st : List Value) (h : eH), ru 121 202 (x0 :: x1 :: x2 :: some (.int v) :: t) st h = ru 121 205 (x0 :: x1 :: eKl x2 :: some (.int (v + 1)) :: t) st h) ∧
  (∀ (ls : eL) (st : List Value) (h : eH), ru 121 205 ls st h = ru 121 15 ls st h) ∧
  (∀ (ls : eL) (h : eH), ru 121 208 ls [] h = some (none, h)) := ⟨fun v t st h => ru_go rfl rfl,
  fun v t st h => ru_go rfl rfl,
  fun a ls st h => ru_getf rfl,
  fun a ls st h => ru_getf rfl,
  fun x0 v t st h => ru_go rfl rfl,
  fun x0 x1 v t st h => ru_go rfl rfl,
  fun a0 a1 a2 a3 ls h => ru_inv rfl (by decide) rfl (Nat.le_of_ble_eq_true rfl),
  fun ls st h => ru_go rfl rfl,
  fun x0 x1 x2 x3 v t st h => ru_go rfl rfl,
  fun v t st h => ru_go rfl rfl,
  fun a ls st h => ru_getf rfl,
  fun x y ls st h => ru_if rfl rfl,
  fun x0 v t st h => ru_go rfl rfl,
  fun v t st h => ru_go rfl rfl,
  fun a ls st h => ru_getf rfl,
  fun x y ls st h => ru_if rfl rfl,
  fun v t st h => ru_go rfl rfl,
  fun v t st h => ru_go rfl rfl,
  fun a ls st h => ru_getf rfl,
  fun a ls st h => ru_getf rfl,
  fun x0 v t st h => ru_go rfl rfl,
  fun x0 x1 x2 v t st h => ru_go rfl rfl,
  fun a0 a1 a2 a3 ls h => ru_inv rfl (by decide) rfl (Nat.le_of_ble_eq_true rfl),
  fun v t st h => ru_go rfl rfl,
  fun v t st h => ru_go rfl rfl,
  fun a ls st h => ru_getf rfl,
  fun a ls st h => ru_getf rfl,
  fun v t st h => ru_go rfl rfl,
  fun a ls st h => ru_getf rfl,
  fun x0 x1 x2 v t st h => ru_go rfl rfl,
  fun a0 a1 a2 a3 ls h => ru_inv rfl (by decide) rfl (Nat.le_of_ble_eq_true rfl),
  fun v t st h => ru_go rfl rfl,
  fun a ls st h => ru_getf rfl,
  fun a ls st h => ru_getf rfl,
  fun a ls st h => ru_getf rfl,
  fun x ls st h => ru_if rfl rfl,
  fun v t st h => ru_go rfl rfl,
  fun a ls st h => ru_getf rfl,
  fun a ls st h => ru_getf rfl,
  fun a ls st h => ru_getf rfl,
  fun x ls st h => ru_if rfl rfl,
  fun v t st h => ru_go rfl rfl,
  fun a ls st h => ru_getf rfl,
  fun a ls st h => ru_getf rfl,
  fun a ls st h => ru_getf rfl,
  fun x ls st h => ru_if rfl rfl,
  fun v t st h => ru_go rfl rfl,
  fun a ls st h => ru_getf rfl,
  fun a ls st h => ru_getf rfl,
  fun v t st h => ru_go rfl rfl,
  fun a ls st h => ru_getf rfl,
  fun a ls st h => ru_getf rfl,
  fun v t st h => ru_go rfl rfl,
  fun a ls st h => ru_getf rfl,
  fun a ls st h => ru_getf rfl,
  fun a0 a1 a2 ls h => ru_inv rfl (by decide) rfl (Nat.le_of_ble_eq_true rfl),
  fun v t st h => ru_go rfl rfl,
  fun a ls st h => ru_getf rfl,
  fun a ls st h => ru_getf rfl,
  fun v t st h => ru_go rfl rfl,
  fun a ls st h => ru_getf rfl,
  fun a ls st h => ru_getf rfl,
  fun v t st h => ru_go rfl rfl,
  fun a ls st h => ru_getf rfl,
  fun a ls st h => ru_getf rfl,
  fun a0 a1 a2 ls h => ru_inv rfl (by decide) rfl (Nat.le_of_ble_eq_true rfl),
  fun v t st h => ru_go rfl rfl,
  fun a ls st h => ru_getf rfl,
  fun a ls st h => ru_getf rfl,
  fun v t st h => ru_go rfl rfl,
  fun a ls st h => ru_getf rfl,
  fun a ls st h => ru_getf rfl,
  fun ls st h => ru_go rfl rfl,
  fun a0 a1 a2 ls h => ru_inv rfl (by decide) rfl (Nat.le_of_ble_eq_true rfl),
  fun v t st h => ru_go rfl rfl,
  fun a ls st h => ru_getf rfl,
  fun a ls st h => ru_getf rfl,
  fun v t st h => ru_go rfl rfl,
  fun a ls st h => ru_getf rfl,
  fun a ls st h => ru_getf rfl,
  fun v t st h => ru_go rfl rfl,
  fun a ls st h => ru_getf rfl,
  fun a0 a1 a2 ls h => ru_inv rfl (by decide) rfl (Nat.le_of_ble_eq_true rfl),
  fun v t st h => ru_go rfl rfl,
  fun x0 v t st h => ru_go rfl rfl,
  fun x0 x1 x2 v t st h => ru_go rfl rfl,
  fun v t st h => ru_go rfl rfl,
  fun a ls st h => ru_getf rfl,
  fun a ls st h => ru_getf rfl,
  fun a ls st h => ru_getf rfl,
  fun a0 a1 a2 a3 ls h => ru_inv rfl (by decide) rfl (Nat.le_of_ble_eq_true rfl),
  fun x0 x1 x2 v t st h => ru_go rfl rfl,
  fun ls st h => ru_go rfl rfl,
  fun ls h => ru_ret rfl rfl⟩
theorem E121 (a0 : Nat) (a1 : Int32) (a2 : Int32) {h : eH} {fs : List Value} (ha : h.1 a0 = .inr (5, fs)) : den 121 [.ref a0, .int a1, .int a2] h = ru 121 0 [some (.ref a0), some (.int a1), some (.int a2), none] [] h := den_ob (Nat.le_of_ble_eq_true rfl) ha
/-! 122 X5_reduce -/
set_option maxRecDepth 100000 in
theorem H122_20 : (∀ (x0 : Option Value) (v : Int32) (t : eL) (st : List Value) (h : eH), ru 122 20 (x0 :: some (.int v) :: t) st h = ru 122 21 (x0 :: some (.int v) :: t) (.int v :: st) h) := fun x0 v t st h => ru_go rfl rfl
set_option maxRecDepth 100000 in
theorem H122_119 : (∀ (x0 x1 x2 : Option Value) (v : Int32) (t : eL) (st : List Value) (h : eH), ru 122 119 (x0 :: x1 :: x2 :: some (.int v) :: t) st h = ru 122 120 (x0 :: x1 :: x2 :: some (.int v) :: t) (.int v :: st) h) := fun x0 x1 x2 v t st h => ru_go rfl rfl
set_option maxRecDepth 100000 in
theorem H122_139 : (∀ (v : Nat) (t : eL) (st : List Value) (h : eH), ru 122 139 (some (.ref v) :: t) st h = ru 122 140 (some (.ref v) :: t) (.ref v :: st) h) := fun v t st h => ru_go rfl rfl
set_option maxRecDepth 100000 in
theorem S122 : (∀ (v : Nat) (t : eL) (st : List Value) (h : eH), ru 122 0 (some (.ref v) :: t) st h = ru 122 1 (some (.ref v) :: t) (.ref v :: st) h) ∧
  (∀ (ls : eL) (st : List Value) (h : eH), ru 122 1 ls st h = ru 122 2 ls (.int (nI 0) :: st) h) ∧
  (∀ (v : Int32) (a : Nat) (ls : eL) (st : List Value) (h : eH), ru 122 2 ls (.int v :: .ref a :: st) h = pF (h.1 a) 5 9 (.int v) (fun e => ru 122 5 ls st (eUp h a e))) ∧
  (∀ (v : Nat) (t : eL) (st : List Value) (h : eH), ru 122 5 (some (.ref v) :: t) st h = ru 122 6 (some (.ref v) :: t) (.ref v :: st) h) ∧
  (∀ (a : Nat) (ls : eL) (st : List Value) (h : eH), ru 122 6 ls (.ref a :: st) h = gF (h.1 a) 5 11 (fun v => ru 122 9 ls (v :: st) h)) ∧
  (∀ (ls : eL) (st : List Value) (h : eH), ru 122 9 ls st h = ru 122 10 ls (.int (nI 1) :: st) h) ∧
  (∀ (a0 : Nat) (a1 : Int32) (ls : eL) (h : eH), ru 122 10 ls [.int a1, .ref a0] h = cl (den 112 [.ref a0, .int a1] h) (fun v h => ru 122 13 ls (v.toList ++ []) h)) ∧
  (∀ (v : Nat) (t : eL) (st : List Value) (h : eH), ru 122 13 (some (.ref v) :: t) st h = ru 122 14 (some (.ref v) :: t) (.ref v :: st) h) ∧
  (∀ (ls : eL) (st : List Value) (h : eH), ru 122 14 ls st h = ru 122 15 ls (.int (nI 1) :: st) h) ∧
  (∀ (v : Int32) (a : Nat) (ls : eL) (st : List Value) (h : eH), ru 122 15 ls (.int v :: .ref a :: st) h = pF (h.1 a) 5 12 (.int v) (fun e => ru 122 18 ls st (eUp h a e))) ∧
  (∀ (ls : eL) (st : List Value) (h : eH), ru 122 18 ls st h = ru 122 19 ls (.int (nI 0) :: st) h) ∧
  (∀ (x0 x1 : Option Value) (v : Int32) (t : eL) (st : List Value) (h : eH), ru 122 19 (x0 :: x1 :: t) (.int v :: st) h = ru 122 20 (eKl x0 :: some (.int v) :: t) st h) ∧
  (∀ (v : Nat) (t : eL) (st : List Value) (h : eH), ru 122 21 (some (.ref v) :: t) st h = ru 122 22 (some (.ref v) :: t) (.ref v :: st) h) ∧
  (∀ (a : Nat) (ls : eL) (st : List Value) (h : eH), ru 122 22 ls (.ref a :: st) h = gF (h.1 a) 5 7 (fun v => ru 122 25 ls (v :: st) h)) ∧
  (∀ (x y : Int32) (ls : eL) (st : List Value) (h : eH), ru 122 25 ls (.int y :: .int x :: st) h = if y ≤ x then ru 122 169 ls st h else ru 122 28 ls st h) ∧
  (∀ (v : Nat) (t : eL) (st : List Value) (h : eH), ru 122 28 (some (.ref v) :: t) st h = ru 122 29 (some (.ref v) :: t) (.ref v :: st) h) ∧
  (∀ (x0 : Option Value) (v : Int32) (t : eL) (st : List Value) (h : eH), ru 122 29 (x0 :: some (.int v) :: t) st h = ru 122 30 (x0 :: some (.int v) :: t) (.int v :: st) h) ∧
  (∀ (a0 : Nat) (a1 : Int32) (ls : eL) (h : eH), ru 122 30 ls [.int a1, .ref a0] h = cl (den 113 [.ref a0, .int a1] h) (fun v h => ru 122 33 ls (v.toList ++ []) h)) ∧
  (∀ (x0 x1 x2 : Option Value) (v : Int32) (t : eL) (st : List Value) (h : eH), ru 122 33 (x0 :: x1 :: x2 :: t) (.int v :: st) h = ru 122 34 (x0 :: eKl x1 :: some (.int v) :: t) st h) ∧
  (∀ (v : Nat) (t : eL) (st : List Value) (h : eH), ru 122 34 (some (.ref v) :: t) st h = ru 122 35 (some (.ref v) :: t) (.ref v :: st) h) ∧
  (∀ (a : Nat) (ls : eL) (st : List Value) (h : eH), ru 122 35 ls (.ref a :: st) h = gF (h.1 a) 5 10 (fun v => ru 122 38 ls (v :: st) h)) ∧
  (∀ (x0 : Option Value) (v : Int32) (t : eL) (st : List Value) (h : eH), ru 122 38 (x0 :: some (.int v) :: t) st h = ru 122 39 (x0 :: some (.int v) :: t) (.int v :: st) h) ∧
  (∀ (x0 x1 : Option Value) (v : Int32) (t : eL) (st : List Value) (h : eH), ru 122 39 (x0 :: x1 :: some (.int v) :: t) st h = ru 122 40 (x0 :: x1 :: some (.int v) :: t) (.int v :: st) h) ∧
  (∀ (ls : eL) (st : List Value) (h : eH), ru 122 40 ls st h = ru 122 41 ls (.int ((-1)) :: st) h) ∧
  (∀ (x y : Int32) (ls : eL) (st : List Value) (h : eH), ru 122 41 ls (.int y :: .int x :: st) h = if x = y then ru 122 44 ls st h else ru 122 48 ls st h) ∧
  (∀ (ls : eL) (st : List Value) (h : eH), ru 122 44 ls st h = ru 122 45 ls (.int ((-1)) :: st) h) ∧
  (∀ (ls : eL) (st : List Value) (h : eH), ru 122 45 ls st h = ru 122 52 ls st h) ∧
  (∀ (v : Nat) (t : eL) (st : List Value) (h : eH), ru 122 48 (some (.ref v) :: t) st h = ru 122 49 (some (.ref v) :: t) (.ref v :: st) h) ∧
  (∀ (a : Nat) (ls : eL) (st : List Value) (h : eH), ru 122 49 ls (.ref a :: st) h = gF (h.1 a) 5 9 (fun v => ru 122 52 ls (v :: st) h)) ∧
  (∀ (x : Int32) (i : Int32) (a : Nat) (ls : eL) (st : List Value) (h : eH), ru 122 52 ls (.int x :: .int i :: .ref a :: st) h = wI (h.1 a) i x (fun e => ru 122 53 ls st (eUp h a e))) ∧
  (∀ (v : Nat) (t : eL) (st : List Value) (h : eH), ru 122 53 (some (.ref v) :: t) st h = ru 122 54 (some (.ref v) :: t) (.ref v :: st) h) ∧
  (∀ (v : Nat) (t : eL) (st : List Value) (h : eH), ru 122 54 (some (.ref v) :: t) st h = ru 122 55 (some (.ref v) :: t) (.ref v :: st) h) ∧
  (∀ (a : Nat) (ls : eL) (st : List Value) (h : eH), ru 122 55 ls (.ref a :: st) h = gF (h.1 a) 5 5 (fun v => ru 122 58 ls (v :: st) h)) ∧
  (∀ (a : Nat) (ls : eL) (st : List Value) (h : eH), ru 122 58 ls (.ref a :: st) h = gF (h.1 a) 1 1 (fun v => ru 122 61 ls (v :: st) h)) ∧
  (∀ (x0 x1 : Option Value) (v : Int32) (t : eL) (st : List Value) (h : eH), ru 122 61 (x0 :: x1 :: some (.int v) :: t) st h = ru 122 62 (x0 :: x1 :: some (.int v) :: t) (.int v :: st) h) ∧
  (∀ (x0 : Option Value) (v : Int32) (t : eL) (st : List Value) (h : eH), ru 122 62 (x0 :: some (.int v) :: t) st h = ru 122 63 (x0 :: some (.int v) :: t) (.int v :: st) h) ∧
  (∀ (a0 : Nat) (a1 : Nat) (a2 : Int32) (a3 : Int32) (ls : eL) (h : eH), ru 122 63 ls [.int a3, .int a2, .ref a1, .ref a0] h = cl (den 86 [.ref a0, .ref a1, .int a2, .int a3] h) (fun v h => ru 122 66 ls (v.toList ++ []) h)) ∧
  (∀ (v : Nat) (t : eL) (st : List Value) (h : eH), ru 122 66 (some (.ref v) :: t) st h = ru 122 67 (some (.ref v) :: t) (.ref v :: st) h) ∧
  (∀ (v : Nat) (t : eL) (st : List Value) (h : eH), ru 122 67 (some (.ref v) :: t) st h = ru 122 68 (some (.ref v) :: t) (.ref v :: st) h) ∧
  (∀ (a : Nat) (ls : eL) (st : List Value) (h : eH), ru 122 68 ls (.ref a :: st) h = gF (h.1 a) 5 12 (fun v => ru 122 71 ls (v :: st) h)) ∧
  (∀ (x : Int32) (ls : eL) (st : List Value) (h : eH), ru 122 71 ls (.int x :: st) h = if x = 0 then ru 122 99 ls st h else ru 122 74 ls st h) ∧
  (∀ (x0 x1 : Option Value) (v : Int32) (t : eL) (st : List Value) (h : eH), ru 122 74 (x0 :: x1 :: some (.int v) :: t) st h = ru 122 75 (x0 :: x1 :: some (.int v) :: t) (.int v :: st) h) ∧
  (∀ (v : Nat) (t : eL) (st : List Value) (h : eH), ru 122 75 (some (.ref v) :: t) st h = ru 122 76 (some (.ref v) :: t) (.ref v :: st) h) ∧
  (∀ (a : Nat) (ls : eL) (st : List Value) (h : eH), ru 122 76 ls (.ref a :: st) h = gF (h.1 a) 5 9 (fun v => ru 122 79 ls (v :: st) h)) ∧
  (∀ (x y : Int32) (ls : eL) (st : List Value) (h : eH), ru 122 79 ls (.int y :: .int x :: st) h = if x = y then ru 122 82 ls st h else ru 122 99 ls st h) ∧
  (∀ (v : Nat) (t : eL) (st : List Value) (h : eH), ru 122 82 (some (.ref v) :: t) st h = ru 122 83 (some (.ref v) :: t) (.ref v :: st) h) ∧
  (∀ (a : Nat) (ls : eL) (st : List Value) (h : eH), ru 122 83 ls (.ref a :: st) h = gF (h.1 a) 5 5 (fun v => ru 122 86 ls (v :: st) h)) ∧
  (∀ (a : Nat) (ls : eL) (st : List Value) (h : eH), ru 122 86 ls (.ref a :: st) h = gF (h.1 a) 1 1 (fun v => ru 122 89 ls (v :: st) h)) ∧
  (∀ (a0 : Nat) (u0 : Nat) (ls : eL) (h : eH), ru 122 89 ls [.ref a0, .ref u0] h = cl (den 100 [.ref a0] h) (fun v h => ru 122 92 ls (v.toList ++ [.ref u0]) h)) ∧
  (∀ (x : Int32) (ls : eL) (st : List Value) (h : eH), ru 122 92 ls (.int x :: st) h = if x ≤ 0 then ru 122 99 ls st h else ru 122 95 ls st h) ∧
  (∀ (ls : eL) (st : List Value) (h : eH), ru 122 95 ls st h = ru 122 96 ls (.int (nI 1) :: st) h) ∧
  (∀ (ls : eL) (st : List Value) (h : eH), ru 122 96 ls st h = ru 122 100 ls st h) ∧
  (∀ (ls : eL) (st : List Value) (h : eH), ru 122 99 ls st h = ru 122 100 ls (.int (nI 0) :: st) h) ∧
  (∀ (v : Int32) (a : Nat) (ls : eL) (st : List Value) (h : eH), ru 122 100 ls (.int v :: .ref a :: st) h = pF (h.1 a) 5 12 (.int v) (fun e => ru 122 103 ls st (eUp h a e))) ∧
  (∀ (x0 x1 : Option Value) (v : Int32) (t : eL) (st : List Value) (h : eH), ru 122 103 (x0 :: x1 :: some (.int v) :: t) st h = ru 122 104 (x0 :: x1 :: some (.int v) :: t) (.int v :: st) h) ∧
  (∀ (ls : eL) (st : List Value) (h : eH), ru 122 104 ls st h = ru 122 105 ls (.int ((-1)) :: st) h) ∧
  (∀ (x y : Int32) (ls : eL) (st : List Value) (h : eH), ru 122 105 ls (.int y :: .int x :: st) h = if x = y then ru 122 163 ls st h else ru 122 108 ls st h) ∧
  (∀ (v : Nat) (t : eL) (st : List Value) (h : eH), ru 122 108 (some (.ref v) :: t) st h = ru 122 109 (some (.ref v) :: t) (.ref v :: st) h) ∧
  (∀ (x0 x1 : Option Value) (v : Int32) (t : eL) (st : List Value) (h : eH), ru 122 109 (x0 :: x1 :: some (.int v) :: t) st h = ru 122 110 (x0 :: x1 :: some (.int v) :: t) (.int v :: st) h) ∧
  (∀ (v : Nat) (t : eL) (st : List Value) (h : eH), ru 122 110 (some (.ref v) :: t) st h = ru 122 111 (some (.ref v) :: t) (.ref v :: st) h) ∧
  (∀ (a : Nat) (ls : eL) (st : List Value) (h : eH), ru 122 111 ls (.ref a :: st) h = gF (h.1 a) 5 9 (fun v => ru 122 114 ls (v :: st) h)) ∧
  (∀ (a0 : Nat) (a1 : Int32) (a2 : Int32) (ls : eL) (h : eH), ru 122 114 ls [.int a2, .int a1, .ref a0] h = cl (den 115 [.ref a0, .int a1, .int a2] h) (fun v h => ru 122 117 ls (v.toList ++ []) h)) ∧
  (∀ (ls : eL) (st : List Value) (h : eH), ru 122 117 ls st h = ru 122 118 ls (.int (nI 0) :: st) h) ∧
  (∀ (x0 x1 x2 x3 : Option Value) (v : Int32) (t : eL) (st : List Value) (h : eH), ru 122 118 (x0 :: x1 :: x2 :: x3 :: t) (.int v :: st) h = ru 122 119 (x0 :: x1 :: eKl x2 :: some (.int v) :: t) st h) ∧
  (∀ (v : Nat) (t : eL) (st : List Value) (h : eH), ru 122 120 (some (.ref v) :: t) st h = ru 122 121 (some (.ref v) :: t) (.ref v :: st) h) ∧
  (∀ (a : Nat) (ls : eL) (st : List Value) (h : eH), ru 122 121 ls (.ref a :: st) h = gF (h.1 a) 5 6 (fun v => ru 122 124 ls (v :: st) h)) ∧
  (∀ (x y : Int32) (ls : eL) (st : List Value) (h : eH), ru 122 124 ls (.int y :: .int x :: st) h = if y ≤ x then ru 122 139 ls st h else ru 122 127 ls st h) ∧
  (∀ (v : Nat) (t : eL) (st : List Value) (h : eH), ru 122 127 (some (.ref v) :: t) st h = ru 122 128 (some (.ref v) :: t) (.ref v :: st) h) ∧
  (∀ (x0 x1 x2 : Option Value) (v : Int32) (t : eL) (st : List Value) (h : eH), ru 122 128 (x0 :: x1 :: x2 :: some (.int v) :: t) st h = ru 122 129 (x0 :: x1 :: x2 :: some (.int v) :: t) (.int v :: st) h) ∧
  (∀ (x0 : Option Value) (v : Int32) (t : eL) (st : List Value) (h : eH), ru 122 129 (x0 :: some (.int v) :: t) st h = ru 122 130 (x0 :: some (.int v) :: t) (.int v :: st) h) ∧
  (∀ (a0 : Nat) (a1 : Int32) (a2 : Int32) (ls : eL) (h : eH), ru 122 130 ls [.int a2, .int a1, .ref a0] h = cl (den 121 [.ref a0, .int a1, .int a2] h) (fun v h => ru 122 133 ls (v.toList ++ []) h)) ∧
  (∀ (x0 x1 x2 : Option Value) (v : Int32) (t : eL) (st : List Value) (h : eH), ru 122 133 (x0 :: x1 :: x2 :: some (.int v) :: t) st h = ru 122 136 (x0 :: x1 :: eKl x2 :: some (.int (v + 1)) :: t) st h) ∧
  (∀ (ls : eL) (st : List Value) (h : eH), ru 122 136 ls st h = ru 122 119 ls st h) ∧
  (∀ (a : Nat) (ls : eL) (st : List Value) (h : eH), ru 122 140 ls (.ref a :: st) h = gF (h.1 a) 5 11 (fun v => ru 122 143 ls (v :: st) h)) ∧
  (∀ (v : Nat) (t : eL) (st : List Value) (h : eH), ru 122 143 (some (.ref v) :: t) st h = ru 122 144 (some (.ref v) :: t) (.ref v :: st) h) ∧
  (∀ (a : Nat) (ls : eL) (st : List Value) (h : eH), ru 122 144 ls (.ref a :: st) h = gF (h.1 a) 5 5 (fun v => ru 122 147 ls (v :: st) h)) ∧
  (∀ (a : Nat) (ls : eL) (st : List Value) (h : eH), ru 122 147 ls (.ref a :: st) h = gF (h.1 a) 1 1 (fun v => ru 122 150 ls (v :: st) h)) ∧
  (∀ (a0 : Nat) (a1 : Nat) (ls : eL) (h : eH), ru 122 150 ls [.ref a1, .ref a0] h = cl (den 84 [.ref a0, .ref a1] h) (fun v h => ru 122 153 ls (v.toList ++ []) h)) ∧
  (∀ (v : Nat) (t : eL) (st : List Value) (h : eH), ru 122 153 (some (.ref v) :: t) st h = ru 122 154 (some (.ref v) :: t) (.ref v :: st) h) ∧
  (∀ (x : Nat) (ls : eL) (st : List Value) (h : eH), ru 122 154 ls (.ref x :: st) h = ru 122 155 ls (.ref x :: .ref x :: st) h) ∧
  (∀ (a : Nat) (ls : eL) (st : List Value) (h : eH), ru 122 155 ls (.ref a :: st) h = gF (h.1 a) 5 9 (fun v => ru 122 158 ls (v :: st) h)) ∧
  (∀ (ls : eL) (st : List Value) (h : eH), ru 122 158 ls st h = ru 122 159 ls (.int (nI 1) :: st) h) ∧
  (∀ (x y : Int32) (ls : eL) (st : List Value) (h : eH), ru 122 159 ls (.int y :: .int x :: st) h = ru 122 160 ls (.int (x + y) :: st) h) ∧
  (∀ (v : Int32) (a : Nat) (ls : eL) (st : List Value) (h : eH), ru 122 160 ls (.int v :: .ref a :: st) h = pF (h.1 a) 5 9 (.int v) (fun e => ru 122 163 ls st (eUp h a e))) ∧
  (∀ (x0 : Option Value) (v : Int32) (t : eL) (st : List Value) (h : eH), ru 122 163 (x0 :: some (.int v) :: t) st h = ru 122 166 (eKl x0 :: some (.int (v + 1)) :: t) st h) ∧
  (∀ (ls : eL) (st : List Value) (h : eH), ru 122 166 ls st h = ru 122 20 ls st h) ∧
  (∀ (ls : eL) (h : eH), ru 122 169 ls [] h = some (none, h)) := ⟨fun v t st h => ru_go rfl rfl,
  fun ls st h => ru_go rfl rfl,
  fun v a ls st h => ru_putf rfl,
  fun v t st h => ru_go rfl rfl,
  fun a ls st h => ru_getf rfl,
  fun ls st h => ru_go rfl rfl,
  fun a0 a1 ls h => ru_inv rfl (by decide) rfl (Nat.le_of_ble_eq_true rfl),
  fun v t st h => ru_go rfl rfl,
  fun ls st h => ru_go rfl rfl,
  fun v a ls st h => ru_putf rfl,
  fun ls st h => ru_go rfl rfl,
  fun x0 x1 v t st h => ru_go rfl rfl,
  fun v t st h => ru_go rfl rfl,
  fun a ls st h => ru_getf rfl,
  fun x y ls st h => ru_if rfl rfl,
  fun v t st h => ru_go rfl rfl,
  fun x0 v t st h => ru_go rfl rfl,
  fun a0 a1 ls h => ru_inv rfl (by decide) rfl (Nat.le_of_ble_eq_true rfl),
  fun x0 x1 x2 v t st h => ru_go rfl rfl,
  fun v t st h => ru_go rfl rfl,
  fun a ls st h => ru_getf rfl,
  fun x0 v t st h => ru_go rfl rfl,
  fun x0 x1 v t st h => ru_go rfl rfl,
  fun ls st h => ru_go rfl rfl,
  fun x y ls st h => ru_if rfl rfl,
  fun ls st h => ru_go rfl rfl,
  fun ls st h => ru_go rfl rfl,
  fun v t st h => ru_go rfl rfl,
  fun a ls st h => ru_getf rfl,
  fun x i a ls st h => ru_iast rfl,
  fun v t st h => ru_go rfl rfl,
  fun v t st h => ru_go rfl rfl,
  fun a ls st h => ru_getf rfl,
  fun a ls st h => ru_getf rfl,
  fun x0 x1 v t st h => ru_go rfl rfl,
  fun x0 v t st h => ru_go rfl rfl,
  fun a0 a1 a2 a3 ls h => ru_inv rfl (by decide) rfl (Nat.le_of_ble_eq_true rfl),
  fun v t st h => ru_go rfl rfl,
  fun v t st h => ru_go rfl rfl,
  fun a ls st h => ru_getf rfl,
  fun x ls st h => ru_if rfl rfl,
  fun x0 x1 v t st h => ru_go rfl rfl,
  fun v t st h => ru_go rfl rfl,
  fun a ls st h => ru_getf rfl,
  fun x y ls st h => ru_if rfl rfl,
  fun v t st h => ru_go rfl rfl,
  fun a ls st h => ru_getf rfl,
  fun a ls st h => ru_getf rfl,
  fun a0 u0 ls h => ru_inv rfl (by decide) rfl (Nat.le_of_ble_eq_true rfl),
  fun x ls st h => ru_if rfl rfl,
  fun ls st h => ru_go rfl rfl,
  fun ls st h => ru_go rfl rfl,
  fun ls st h => ru_go rfl rfl,
  fun v a ls st h => ru_putf rfl,
  fun x0 x1 v t st h => ru_go rfl rfl,
  fun ls st h => ru_go rfl rfl,
  fun x y ls st h => ru_if rfl rfl,
  fun v t st h => ru_go rfl rfl,
  fun x0 x1 v t st h => ru_go rfl rfl,
  fun v t st h => ru_go rfl rfl,
  fun a ls st h => ru_getf rfl,
  fun a0 a1 a2 ls h => ru_inv rfl (by decide) rfl (Nat.le_of_ble_eq_true rfl),
  fun ls st h => ru_go rfl rfl,
  fun x0 x1 x2 x3 v t st h => ru_go rfl rfl,
  fun v t st h => ru_go rfl rfl,
  fun a ls st h => ru_getf rfl,
  fun x y ls st h => ru_if rfl rfl,
  fun v t st h => ru_go rfl rfl,
  fun x0 x1 x2 v t st h => ru_go rfl rfl,
  fun x0 v t st h => ru_go rfl rfl,
  fun a0 a1 a2 ls h => ru_inv rfl (by decide) rfl (Nat.le_of_ble_eq_true rfl),
  fun x0 x1 x2 v t st h => ru_go rfl rfl,
  fun ls st h => ru_go rfl rfl,
  fun a ls st h => ru_getf rfl,
  fun v t st h => ru_go rfl rfl,
  fun a ls st h => ru_getf rfl,
  fun a ls st h => ru_getf rfl,
  fun a0 a1 ls h => ru_inv rfl (by decide) rfl (Nat.le_of_ble_eq_true rfl),
  fun v t st h => ru_go rfl rfl,
  fun x ls st h => ru_go rfl rfl,
  fun a ls st h => ru_getf rfl,
  fun ls st h => ru_go rfl rfl,
  fun x y ls st h => ru_go rfl rfl,
  fun v a ls st h => ru_putf rfl,
  fun x0 v t st h => ru_go rfl rfl,
  fun ls st h => ru_go rfl rfl,
  fun ls h => ru_ret rfl rfl⟩
theorem E122 (a0 : Nat) {h : eH} {fs : List Value} (ha : h.1 a0 = .inr (5, fs)) : den 122 [.ref a0] h = ru 122 0 [some (.ref a0), none, none, none] [] h := den_ob (Nat.le_of_ble_eq_true rfl) ha
/-! 123 X10_knowForces -/
set_option maxRecDepth 100000 in
theorem S123 : (∀ (v : Nat) (t : eL) (st : List Value) (h : eH), ru 123 0 (some (.ref v) :: t) st h = ru 123 1 (some (.ref v) :: t) (.ref v :: st) h) ∧
  (∀ (a : Nat) (ls : eL) (st : List Value) (h : eH), ru 123 1 ls (.ref a :: st) h = gF (h.1 a) 10 11 (fun v => ru 123 4 ls (v :: st) h)) ∧
  (∀ (x : Int32) (ls : eL) (st : List Value) (h : eH), ru 123 4 ls (.int x :: st) h = if x = 0 then ru 123 18 ls st h else ru 123 7 ls st h) ∧
  (∀ (x0 : Option Value) (v : Int32) (t : eL) (st : List Value) (h : eH), ru 123 7 (x0 :: some (.int v) :: t) st h = ru 123 8 (x0 :: some (.int v) :: t) (.int v :: st) h) ∧
  (∀ (x : Int32) (ls : eL) (st : List Value) (h : eH), ru 123 8 ls (.int x :: st) h = if x = 0 then ru 123 46 ls st h else ru 123 11 ls st h) ∧
  (∀ (v : Nat) (t : eL) (st : List Value) (h : eH), ru 123 11 (some (.ref v) :: t) st h = ru 123 12 (some (.ref v) :: t) (.ref v :: st) h) ∧
  (∀ (a : Nat) (ls : eL) (st : List Value) (h : eH), ru 123 12 ls (.ref a :: st) h = gF (h.1 a) 10 12 (fun v => ru 123 15 ls (v :: st) h)) ∧
  (∀ (x : Int32) (ls : eL) (st : List Value) (h : eH), ru 123 15 ls (.int x :: st) h = if x = 0 then ru 123 18 ls st h else ru 123 46 ls st h) ∧
  (∀ (v : Nat) (t : eL) (st : List Value) (h : eH), ru 123 18 (some (.ref v) :: t) st h = ru 123 19 (some (.ref v) :: t) (.ref v :: st) h) ∧
  (∀ (a : Nat) (ls : eL) (st : List Value) (h : eH), ru 123 19 ls (.ref a :: st) h = gF (h.1 a) 10 9 (fun v => ru 123 22 ls (v :: st) h)) ∧
  (∀ (v : Nat) (t : eL) (st : List Value) (h : eH), ru 123 22 (some (.ref v) :: t) st h = ru 123 23 (some (.ref v) :: t) (.ref v :: st) h) ∧
  (∀ (a : Nat) (ls : eL) (st : List Value) (h : eH), ru 123 23 ls (.ref a :: st) h = gF (h.1 a) 10 3 (fun v => ru 123 26 ls (v :: st) h)) ∧
  (∀ (a0 : Nat) (a1 : Nat) (ls : eL) (h : eH), ru 123 26 ls [.ref a1, .ref a0] h = cl (den 111 [.ref a0, .ref a1] h) (fun v h => ru 123 29 ls (v.toList ++ []) h)) ∧
  (∀ (v : Nat) (t : eL) (st : List Value) (h : eH), ru 123 29 (some (.ref v) :: t) st h = ru 123 30 (some (.ref v) :: t) (.ref v :: st) h) ∧
  (∀ (a : Nat) (ls : eL) (st : List Value) (h : eH), ru 123 30 ls (.ref a :: st) h = gF (h.1 a) 10 3 (fun v => ru 123 33 ls (v :: st) h)) ∧
  (∀ (a0 : Nat) (ls : eL) (h : eH), ru 123 33 ls [.ref a0] h = cl (den 122 [.ref a0] h) (fun v h => ru 123 36 ls (v.toList ++ []) h)) ∧
  (∀ (v : Nat) (t : eL) (st : List Value) (h : eH), ru 123 36 (some (.ref v) :: t) st h = ru 123 37 (some (.ref v) :: t) (.ref v :: st) h) ∧
  (∀ (ls : eL) (st : List Value) (h : eH), ru 123 37 ls st h = ru 123 38 ls (.int (nI 1) :: st) h) ∧
  (∀ (v : Int32) (a : Nat) (ls : eL) (st : List Value) (h : eH), ru 123 38 ls (.int v :: .ref a :: st) h = pF (h.1 a) 10 11 (.int v) (fun e => ru 123 41 ls st (eUp h a e))) ∧
  (∀ (v : Nat) (t : eL) (st : List Value) (h : eH), ru 123 41 (some (.ref v) :: t) st h = ru 123 42 (some (.ref v) :: t) (.ref v :: st) h) ∧
  (∀ (ls : eL) (st : List Value) (h : eH), ru 123 42 ls st h = ru 123 43 ls (.int (nI 1) :: st) h) ∧
  (∀ (v : Int32) (a : Nat) (ls : eL) (st : List Value) (h : eH), ru 123 43 ls (.int v :: .ref a :: st) h = pF (h.1 a) 10 12 (.int v) (fun e => ru 123 46 ls st (eUp h a e))) ∧
  (∀ (ls : eL) (h : eH), ru 123 46 ls [] h = some (none, h)) := ⟨fun v t st h => ru_go rfl rfl,
  fun a ls st h => ru_getf rfl,
  fun x ls st h => ru_if rfl rfl,
  fun x0 v t st h => ru_go rfl rfl,
  fun x ls st h => ru_if rfl rfl,
  fun v t st h => ru_go rfl rfl,
  fun a ls st h => ru_getf rfl,
  fun x ls st h => ru_if rfl rfl,
  fun v t st h => ru_go rfl rfl,
  fun a ls st h => ru_getf rfl,
  fun v t st h => ru_go rfl rfl,
  fun a ls st h => ru_getf rfl,
  fun a0 a1 ls h => ru_inv rfl (by decide) rfl (Nat.le_of_ble_eq_true rfl),
  fun v t st h => ru_go rfl rfl,
  fun a ls st h => ru_getf rfl,
  fun a0 ls h => ru_inv rfl (by decide) rfl (Nat.le_of_ble_eq_true rfl),
  fun v t st h => ru_go rfl rfl,
  fun ls st h => ru_go rfl rfl,
  fun v a ls st h => ru_putf rfl,
  fun v t st h => ru_go rfl rfl,
  fun ls st h => ru_go rfl rfl,
  fun v a ls st h => ru_putf rfl,
  fun ls h => ru_ret rfl rfl⟩
theorem E123 (a0 : Nat) (a1 : Int32) {h : eH} {fs : List Value} (ha : h.1 a0 = .inr (10, fs)) : den 123 [.ref a0, .int a1] h = ru 123 0 [some (.ref a0), some (.int a1)] [] h := den_ob (Nat.le_of_ble_eq_true rfl) ha
/-! 124 X6_hasMember -/
set_option maxRecDepth 100000 in
theorem S124 : (∀ (x0 : Option Value) (v : Int32) (t : eL) (st : List Value) (h : eH), ru 124 0 (x0 :: some (.int v) :: t) st h = ru 124 1 (x0 :: some (.int v) :: t) (.int v :: st) h) ∧
  (∀ (x : Int32) (ls : eL) (st : List Value) (h : eH), ru 124 1 ls (.int x :: st) h = if x < 0 then ru 124 16 ls st h else ru 124 4 ls st h) ∧
  (∀ (x0 : Option Value) (v : Int32) (t : eL) (st : List Value) (h : eH), ru 124 4 (x0 :: some (.int v) :: t) st h = ru 124 5 (x0 :: some (.int v) :: t) (.int v :: st) h) ∧
  (∀ (v : Nat) (t : eL) (st : List Value) (h : eH), ru 124 5 (some (.ref v) :: t) st h = ru 124 6 (some (.ref v) :: t) (.ref v :: st) h) ∧
  (∀ (a : Nat) (ls : eL) (st : List Value) (h : eH), ru 124 6 ls (.ref a :: st) h = gF (h.1 a) 6 2 (fun v => ru 124 9 ls (v :: st) h)) ∧
  (∀ (x y : Int32) (ls : eL) (st : List Value) (h : eH), ru 124 9 ls (.int y :: .int x :: st) h = if y ≤ x then ru 124 16 ls st h else ru 124 12 ls st h) ∧
  (∀ (ls : eL) (st : List Value) (h : eH), ru 124 12 ls st h = ru 124 13 ls (.int (nI 1) :: st) h) ∧
  (∀ (ls : eL) (st : List Value) (h : eH), ru 124 13 ls st h = ru 124 17 ls st h) ∧
  (∀ (ls : eL) (st : List Value) (h : eH), ru 124 16 ls st h = ru 124 17 ls (.int (nI 0) :: st) h) ∧
  (∀ (x : Int32) (ls : eL) (h : eH), ru 124 17 ls [.int x] h = bo (x == 0 || x == 1) (some (some (.int x), h))) := ⟨fun x0 v t st h => ru_go rfl rfl,
  fun x ls st h => ru_if rfl rfl,
  fun x0 v t st h => ru_go rfl rfl,
  fun v t st h => ru_go rfl rfl,
  fun a ls st h => ru_getf rfl,
  fun x y ls st h => ru_if rfl rfl,
  fun ls st h => ru_go rfl rfl,
  fun ls st h => ru_go rfl rfl,
  fun ls st h => ru_go rfl rfl,
  fun x ls h => ru_bret rfl rfl⟩
theorem E124 (a0 : Nat) (a1 : Int32) {h : eH} {fs : List Value} (ha : h.1 a0 = .inr (6, fs)) : den 124 [.ref a0, .int a1] h = ru 124 0 [some (.ref a0), some (.int a1)] [] h := den_ob (Nat.le_of_ble_eq_true rfl) ha
/-! 125 X5_isSolved -/
set_option maxRecDepth 100000 in
theorem H125_5 : (∀ (x0 x1 : Option Value) (v : Int32) (t : eL) (st : List Value) (h : eH), ru 125 5 (x0 :: x1 :: some (.int v) :: t) st h = ru 125 6 (x0 :: x1 :: some (.int v) :: t) (.int v :: st) h) := fun x0 x1 v t st h => ru_go rfl rfl
set_option maxRecDepth 100000 in
theorem H125_46 : (∀ (ls : eL) (st : List Value) (h : eH), ru 125 46 ls st h = ru 125 47 ls (.int (nI 1) :: st) h) := fun ls st h => ru_go rfl rfl
set_option maxRecDepth 100000 in
theorem S125 : (∀ (v : Nat) (t : eL) (st : List Value) (h : eH), ru 125 0 (some (.ref v) :: t) st h = ru 125 1 (some (.ref v) :: t) (.ref v :: st) h) ∧
  (∀ (a : Nat) (ls : eL) (st : List Value) (h : eH), ru 125 1 ls (.ref a :: st) h = gF (h.1 a) 5 9 (fun v => ru 125 4 ls (v :: st) h)) ∧
  (∀ (x0 x1 x2 : Option Value) (v : Int32) (t : eL) (st : List Value) (h : eH), ru 125 4 (x0 :: x1 :: x2 :: t) (.int v :: st) h = ru 125 5 (x0 :: eKl x1 :: some (.int v) :: t) st h) ∧
  (∀ (v : Nat) (t : eL) (st : List Value) (h : eH), ru 125 6 (some (.ref v) :: t) st h = ru 125 7 (some (.ref v) :: t) (.ref v :: st) h) ∧
  (∀ (a : Nat) (ls : eL) (st : List Value) (h : eH), ru 125 7 ls (.ref a :: st) h = gF (h.1 a) 5 6 (fun v => ru 125 10 ls (v :: st) h)) ∧
  (∀ (x y : Int32) (ls : eL) (st : List Value) (h : eH), ru 125 10 ls (.int y :: .int x :: st) h = if y ≤ x then ru 125 46 ls st h else ru 125 13 ls st h) ∧
  (∀ (v : Nat) (t : eL) (st : List Value) (h : eH), ru 125 13 (some (.ref v) :: t) st h = ru 125 14 (some (.ref v) :: t) (.ref v :: st) h) ∧
  (∀ (x0 x1 : Option Value) (v : Int32) (t : eL) (st : List Value) (h : eH), ru 125 14 (x0 :: x1 :: some (.int v) :: t) st h = ru 125 15 (x0 :: x1 :: some (.int v) :: t) (.int v :: st) h) ∧
  (∀ (x0 : Option Value) (v : Int32) (t : eL) (st : List Value) (h : eH), ru 125 15 (x0 :: some (.int v) :: t) st h = ru 125 16 (x0 :: some (.int v) :: t) (.int v :: st) h) ∧
  (∀ (a0 : Nat) (a1 : Int32) (a2 : Int32) (ls : eL) (h : eH), ru 125 16 ls [.int a2, .int a1, .ref a0] h = cl (den 85 [.ref a0, .int a1, .int a2] h) (fun v h => ru 125 19 ls (v.toList ++ []) h)) ∧
  (∀ (x : Int32) (ls : eL) (st : List Value) (h : eH), ru 125 19 ls (.int x :: st) h = if x = 0 then ru 125 40 ls st h else ru 125 22 ls st h) ∧
  (∀ (v : Nat) (t : eL) (st : List Value) (h : eH), ru 125 22 (some (.ref v) :: t) st h = ru 125 23 (some (.ref v) :: t) (.ref v :: st) h) ∧
  (∀ (a : Nat) (ls : eL) (st : List Value) (h : eH), ru 125 23 ls (.ref a :: st) h = gF (h.1 a) 5 4 (fun v => ru 125 26 ls (v :: st) h)) ∧
  (∀ (x0 x1 : Option Value) (v : Int32) (t : eL) (st : List Value) (h : eH), ru 125 26 (x0 :: x1 :: some (.int v) :: t) st h = ru 125 27 (x0 :: x1 :: some (.int v) :: t) (.int v :: st) h) ∧
  (∀ (v : Nat) (t : eL) (st : List Value) (h : eH), ru 125 27 (some (.ref v) :: t) st h = ru 125 28 (some (.ref v) :: t) (.ref v :: st) h) ∧
  (∀ (a : Nat) (ls : eL) (st : List Value) (h : eH), ru 125 28 ls (.ref a :: st) h = gF (h.1 a) 5 1 (fun v => ru 125 31 ls (v :: st) h)) ∧
  (∀ (x y : Int32) (ls : eL) (st : List Value) (h : eH), ru 125 31 ls (.int y :: .int x :: st) h = ru 125 32 ls (.int (x * y) :: st) h) ∧
  (∀ (x0 : Option Value) (v : Int32) (t : eL) (st : List Value) (h : eH), ru 125 32 (x0 :: some (.int v) :: t) st h = ru 125 33 (x0 :: some (.int v) :: t) (.int v :: st) h) ∧
  (∀ (x y : Int32) (ls : eL) (st : List Value) (h : eH), ru 125 33 ls (.int y :: .int x :: st) h = ru 125 34 ls (.int (x + y) :: st) h) ∧
  (∀ (i : Int32) (a : Nat) (ls : eL) (st : List Value) (h : eH), ru 125 34 ls (.int i :: .ref a :: st) h = aI (h.1 a) 0 i (fun v => ru 125 35 ls (.int v :: st) h)) ∧
  (∀ (x : Int32) (ls : eL) (st : List Value) (h : eH), ru 125 35 ls (.int x :: st) h = if x = 0 then ru 125 40 ls st h else ru 125 38 ls st h) ∧
  (∀ (ls : eL) (st : List Value) (h : eH), ru 125 38 ls st h = ru 125 39 ls (.int (nI 0) :: st) h) ∧
  (∀ (x : Int32) (ls : eL) (h : eH), ru 125 39 ls [.int x] h = bo (x == 0 || x == 1) (some (some (.int x), h))) ∧
  (∀ (x0 x1 : Option Value) (v : Int32) (t : eL) (st : List Value) (h : eH), ru 125 40 (x0 :: x1 :: some (.int v) :: t) st h = ru 125 43 (x0 :: eKl x1 :: some (.int (v + 1)) :: t) st h) ∧
  (∀ (ls : eL) (st : List Value) (h : eH), ru 125 43 ls st h = ru 125 5 ls st h) ∧
  (∀ (x : Int32) (ls : eL) (h : eH), ru 125 47 ls [.int x] h = bo (x == 0 || x == 1) (some (some (.int x), h))) := ⟨fun v t st h => ru_go rfl rfl,
  fun a ls st h => ru_getf rfl,
  fun x0 x1 x2 v t st h => ru_go rfl rfl,
  fun v t st h => ru_go rfl rfl,
  fun a ls st h => ru_getf rfl,
  fun x y ls st h => ru_if rfl rfl,
  fun v t st h => ru_go rfl rfl,
  fun x0 x1 v t st h => ru_go rfl rfl,
  fun x0 v t st h => ru_go rfl rfl,
  fun a0 a1 a2 ls h => ru_inv rfl (by decide) rfl (Nat.le_of_ble_eq_true rfl),
  fun x ls st h => ru_if rfl rfl,
  fun v t st h => ru_go rfl rfl,
  fun a ls st h => ru_getf rfl,
  fun x0 x1 v t st h => ru_go rfl rfl,
  fun v t st h => ru_go rfl rfl,
  fun a ls st h => ru_getf rfl,
  fun x y ls st h => ru_go rfl rfl,
  fun x0 v t st h => ru_go rfl rfl,
  fun x y ls st h => ru_go rfl rfl,
  fun i a ls st h => ru_iald rfl,
  fun x ls st h => ru_if rfl rfl,
  fun ls st h => ru_go rfl rfl,
  fun x ls h => ru_bret rfl rfl,
  fun x0 x1 v t st h => ru_go rfl rfl,
  fun ls st h => ru_go rfl rfl,
  fun x ls h => ru_bret rfl rfl⟩
theorem E125 (a0 : Nat) (a1 : Int32) {h : eH} {fs : List Value} (ha : h.1 a0 = .inr (5, fs)) : den 125 [.ref a0, .int a1] h = ru 125 0 [some (.ref a0), some (.int a1), none] [] h := den_ob (Nat.le_of_ble_eq_true rfl) ha
/-! 126 X5_fetchSolution -/
set_option maxRecDepth 100000 in
theorem S126 : (∀ (x0 : Option Value) (v : Nat) (t : eL) (st : List Value) (h : eH), ru 126 0 (x0 :: some (.ref v) :: t) st h = ru 126 1 (x0 :: some (.ref v) :: t) (.ref v :: st) h) ∧
  (∀ (a0 : Nat) (ls : eL) (h : eH), ru 126 1 ls [.ref a0] h = cl (den 82 [.ref a0] h) (fun v h => ru 126 4 ls (v.toList ++ []) h)) ∧
  (∀ (x0 x1 : Option Value) (v : Int32) (t : eL) (st : List Value) (h : eH), ru 126 4 (x0 :: x1 :: some (.int v) :: t) st h = ru 126 5 (x0 :: x1 :: some (.int v) :: t) (.int v :: st) h) ∧
  (∀ (x : Int32) (ls : eL) (st : List Value) (h : eH), ru 126 5 ls (.int x :: st) h = if x < 0 then ru 126 28 ls st h else ru 126 8 ls st h) ∧
  (∀ (x0 x1 : Option Value) (v : Int32) (t : eL) (st : List Value) (h : eH), ru 126 8 (x0 :: x1 :: some (.int v) :: t) st h = ru 126 9 (x0 :: x1 :: some (.int v) :: t) (.int v :: st) h) ∧
  (∀ (v : Nat) (t : eL) (st : List Value) (h : eH), ru 126 9 (some (.ref v) :: t) st h = ru 126 10 (some (.ref v) :: t) (.ref v :: st) h) ∧
  (∀ (a : Nat) (ls : eL) (st : List Value) (h : eH), ru 126 10 ls (.ref a :: st) h = gF (h.1 a) 5 7 (fun v => ru 126 13 ls (v :: st) h)) ∧
  (∀ (x y : Int32) (ls : eL) (st : List Value) (h : eH), ru 126 13 ls (.int y :: .int x :: st) h = if y ≤ x then ru 126 28 ls st h else ru 126 16 ls st h) ∧
  (∀ (v : Nat) (t : eL) (st : List Value) (h : eH), ru 126 16 (some (.ref v) :: t) st h = ru 126 17 (some (.ref v) :: t) (.ref v :: st) h) ∧
  (∀ (x0 : Option Value) (v : Nat) (t : eL) (st : List Value) (h : eH), ru 126 17 (x0 :: some (.ref v) :: t) st h = ru 126 18 (x0 :: some (.ref v) :: t) (.ref v :: st) h) ∧
  (∀ (v : Nat) (t : eL) (st : List Value) (h : eH), ru 126 18 (some (.ref v) :: t) st h = ru 126 19 (some (.ref v) :: t) (.ref v :: st) h) ∧
  (∀ (a : Nat) (ls : eL) (st : List Value) (h : eH), ru 126 19 ls (.ref a :: st) h = gF (h.1 a) 5 10 (fun v => ru 126 22 ls (v :: st) h)) ∧
  (∀ (x0 x1 : Option Value) (v : Int32) (t : eL) (st : List Value) (h : eH), ru 126 22 (x0 :: x1 :: some (.int v) :: t) st h = ru 126 23 (x0 :: x1 :: some (.int v) :: t) (.int v :: st) h) ∧
  (∀ (i : Int32) (a : Nat) (ls : eL) (st : List Value) (h : eH), ru 126 23 ls (.int i :: .ref a :: st) h = aI (h.1 a) 0 i (fun v => ru 126 24 ls (.int v :: st) h)) ∧
  (∀ (x0 x1 x2 : Option Value) (v : Int32) (t : eL) (st : List Value) (h : eH), ru 126 24 (x0 :: x1 :: x2 :: some (.int v) :: t) st h = ru 126 25 (x0 :: x1 :: x2 :: some (.int v) :: t) (.int v :: st) h) ∧
  (∀ (a0 : Nat) (a1 : Nat) (a2 : Int32) (a3 : Int32) (ls : eL) (h : eH), ru 126 25 ls [.int a3, .int a2, .ref a1, .ref a0] h = cl (den 86 [.ref a0, .ref a1, .int a2, .int a3] h) (fun v h => ru 126 28 ls (v.toList ++ []) h)) ∧
  (∀ (ls : eL) (h : eH), ru 126 28 ls [] h = some (none, h)) := ⟨fun x0 v t st h => ru_go rfl rfl,
  fun a0 ls h => ru_inv rfl (by decide) rfl (Nat.le_of_ble_eq_true rfl),
  fun x0 x1 v t st h => ru_go rfl rfl,
  fun x ls st h => ru_if rfl rfl,
  fun x0 x1 v t st h => ru_go rfl rfl,
  fun v t st h => ru_go rfl rfl,
  fun a ls st h => ru_getf rfl,
  fun x y ls st h => ru_if rfl rfl,
  fun v t st h => ru_go rfl rfl,
  fun x0 v t st h => ru_go rfl rfl,
  fun v t st h => ru_go rfl rfl,
  fun a ls st h => ru_getf rfl,
  fun x0 x1 v t st h => ru_go rfl rfl,
  fun i a ls st h => ru_iald rfl,
  fun x0 x1 x2 v t st h => ru_go rfl rfl,
  fun a0 a1 a2 a3 ls h => ru_inv rfl (by decide) rfl (Nat.le_of_ble_eq_true rfl),
  fun ls h => ru_ret rfl rfl⟩
theorem E126 (a0 : Nat) (a1 : Nat) (a2 : Int32) (a3 : Int32) {h : eH} {fs : List Value} (ha : h.1 a0 = .inr (5, fs)) : den 126 [.ref a0, .ref a1, .int a2, .int a3] h = ru 126 0 [some (.ref a0), some (.ref a1), some (.int a2), some (.int a3)] [] h := den_ob (Nat.le_of_ble_eq_true rfl) ha
/-! 127 X2_commonOf -/
set_option maxRecDepth 100000 in
theorem H127_30 : (∀ (x0 x1 x2 x3 x4 : Option Value) (v : Int32) (t : eL) (st : List Value) (h : eH), ru 127 30 (x0 :: x1 :: x2 :: x3 :: x4 :: some (.int v) :: t) st h = ru 127 32 (x0 :: x1 :: x2 :: x3 :: x4 :: some (.int v) :: t) (.int v :: st) h) := fun x0 x1 x2 x3 x4 v t st h => ru_go rfl rfl
set_option maxRecDepth 100000 in
theorem H127_69 : (∀ (x0 x1 x2 : Option Value) (v : Nat) (t : eL) (st : List Value) (h : eH), ru 127 69 (x0 :: x1 :: x2 :: some (.ref v) :: t) st h = ru 127 70 (x0 :: x1 :: x2 :: some (.ref v) :: t) (.ref v :: st) h) := fun x0 x1 x2 v t st h => ru_go rfl rfl
set_option maxRecDepth 100000 in
theorem S127 : (∀ (v : Nat) (t : eL) (st : List Value) (h : eH), ru 127 0 (some (.ref v) :: t) st h = ru 127 1 (some (.ref v) :: t) (.ref v :: st) h) ∧
  (∀ (a : Nat) (ls : eL) (st : List Value) (h : eH), ru 127 1 ls (.ref a :: st) h = gF (h.1 a) 2 2 (fun v => ru 127 4 ls (v :: st) h)) ∧
  (∀ (x0 : Option Value) (v : Nat) (t : eL) (st : List Value) (h : eH), ru 127 4 (x0 :: some (.ref v) :: t) st h = ru 127 5 (x0 :: some (.ref v) :: t) (.ref v :: st) h) ∧
  (∀ (a0 : Nat) (a1 : Nat) (ls : eL) (h : eH), ru 127 5 ls [.ref a1, .ref a0] h = cl (den 84 [.ref a0, .ref a1] h) (fun v h => ru 127 8 ls (v.toList ++ []) h)) ∧
  (∀ (v : Nat) (t : eL) (st : List Value) (h : eH), ru 127 8 (some (.ref v) :: t) st h = ru 127 9 (some (.ref v) :: t) (.ref v :: st) h) ∧
  (∀ (a : Nat) (ls : eL) (st : List Value) (h : eH), ru 127 9 ls (.ref a :: st) h = gF (h.1 a) 2 3 (fun v => ru 127 12 ls (v :: st) h)) ∧
  (∀ (x0 x1 : Option Value) (v : Nat) (t : eL) (st : List Value) (h : eH), ru 127 12 (x0 :: x1 :: some (.ref v) :: t) st h = ru 127 13 (x0 :: x1 :: some (.ref v) :: t) (.ref v :: st) h) ∧
  (∀ (a0 : Nat) (a1 : Nat) (ls : eL) (h : eH), ru 127 13 ls [.ref a1, .ref a0] h = cl (den 84 [.ref a0, .ref a1] h) (fun v h => ru 127 16 ls (v.toList ++ []) h)) ∧
  (∀ (v : Nat) (t : eL) (st : List Value) (h : eH), ru 127 16 (some (.ref v) :: t) st h = ru 127 17 (some (.ref v) :: t) (.ref v :: st) h) ∧
  (∀ (a : Nat) (ls : eL) (st : List Value) (h : eH), ru 127 17 ls (.ref a :: st) h = gF (h.1 a) 2 2 (fun v => ru 127 20 ls (v :: st) h)) ∧
  (∀ (x0 x1 x2 x3 : Option Value) (v : Nat) (t : eL) (st : List Value) (h : eH), ru 127 20 (x0 :: x1 :: x2 :: x3 :: t) (.ref v :: st) h = ru 127 21 (x0 :: x1 :: eKl x2 :: some (.ref v) :: t) st h) ∧
  (∀ (v : Nat) (t : eL) (st : List Value) (h : eH), ru 127 21 (some (.ref v) :: t) st h = ru 127 22 (some (.ref v) :: t) (.ref v :: st) h) ∧
  (∀ (a : Nat) (ls : eL) (st : List Value) (h : eH), ru 127 22 ls (.ref a :: st) h = gF (h.1 a) 2 3 (fun v => ru 127 25 ls (v :: st) h)) ∧
  (∀ (x0 x1 x2 x3 x4 : Option Value) (v : Nat) (t : eL) (st : List Value) (h : eH), ru 127 25 (x0 :: x1 :: x2 :: x3 :: x4 :: t) (.ref v :: st) h = ru 127 27 (x0 :: x1 :: x2 :: eKl x3 :: some (.ref v) :: t) st h) ∧
  (∀ (ls : eL) (st : List Value) (h : eH), ru 127 27 ls st h = ru 127 28 ls (.int (nI 0) :: st) h) ∧
  (∀ (x0 x1 x2 x3 x4 x5 : Option Value) (v : Int32) (t : eL) (st : List Value) (h : eH), ru 127 28 (x0 :: x1 :: x2 :: x3 :: x4 :: x5 :: t) (.int v :: st) h = ru 127 30 (x0 :: x1 :: x2 :: x3 :: eKl x4 :: some (.int v) :: t) st h) ∧
  (∀ (ls : eL) (st : List Value) (h : eH), ru 127 32 ls st h = ru 127 35 ls (.int (nI 2000) :: st) h) ∧
  (∀ (x y : Int32) (ls : eL) (st : List Value) (h : eH), ru 127 35 ls (.int y :: .int x :: st) h = if y ≤ x then ru 127 69 ls st h else ru 127 38 ls st h) ∧
  (∀ (x0 x1 x2 x3 : Option Value) (v : Nat) (t : eL) (st : List Value) (h : eH), ru 127 38 (x0 :: x1 :: x2 :: x3 :: some (.ref v) :: t) st h = ru 127 40 (x0 :: x1 :: x2 :: x3 :: some (.ref v) :: t) (.ref v :: st) h) ∧
  (∀ (a : Nat) (ls : eL) (st : List Value) (h : eH), ru 127 40 ls (.ref a :: st) h = gF (h.1 a) 9 1 (fun v => ru 127 43 ls (v :: st) h)) ∧
  (∀ (x : Int32) (ls : eL) (st : List Value) (h : eH), ru 127 43 ls (.int x :: st) h = if x ≤ 0 then ru 127 69 ls st h else ru 127 46 ls st h) ∧
  (∀ (v : Nat) (t : eL) (st : List Value) (h : eH), ru 127 46 (some (.ref v) :: t) st h = ru 127 47 (some (.ref v) :: t) (.ref v :: st) h) ∧
  (∀ (x0 x1 x2 : Option Value) (v : Nat) (t : eL) (st : List Value) (h : eH), ru 127 47 (x0 :: x1 :: x2 :: some (.ref v) :: t) st h = ru 127 48 (x0 :: x1 :: x2 :: some (.ref v) :: t) (.ref v :: st) h) ∧
  (∀ (x0 x1 x2 x3 : Option Value) (v : Nat) (t : eL) (st : List Value) (h : eH), ru 127 48 (x0 :: x1 :: x2 :: x3 :: some (.ref v) :: t) st h = ru 127 50 (x0 :: x1 :: x2 :: x3 :: some (.ref v) :: t) (.ref v :: st) h) ∧
  (∀ (a0 : Nat) (a1 : Nat) (a2 : Nat) (ls : eL) (h : eH), ru 127 50 ls [.ref a2, .ref a1, .ref a0] h = cl (den 120 [.ref a0, .ref a1, .ref a2] h) (fun v h => ru 127 53 ls (v.toList ++ []) h)) ∧
  (∀ (x0 x1 x2 : Option Value) (v : Nat) (t : eL) (st : List Value) (h : eH), ru 127 53 (x0 :: x1 :: x2 :: some (.ref v) :: t) st h = ru 127 54 (x0 :: x1 :: x2 :: some (.ref v) :: t) (.ref v :: st) h) ∧
  (∀ (x0 x1 x2 x3 x4 x5 x6 : Option Value) (v : Nat) (t : eL) (st : List Value) (h : eH), ru 127 54 (x0 :: x1 :: x2 :: x3 :: x4 :: x5 :: x6 :: t) (.ref v :: st) h = ru 127 56 (x0 :: x1 :: x2 :: x3 :: x4 :: eKl x5 :: some (.ref v) :: t) st h) ∧
  (∀ (x0 x1 x2 x3 : Option Value) (v : Nat) (t : eL) (st : List Value) (h : eH), ru 127 56 (x0 :: x1 :: x2 :: x3 :: some (.ref v) :: t) st h = ru 127 58 (x0 :: x1 :: x2 :: x3 :: some (.ref v) :: t) (.ref v :: st) h) ∧
  (∀ (x0 x1 x2 x3 : Option Value) (v : Nat) (t : eL) (st : List Value) (h : eH), ru 127 58 (x0 :: x1 :: x2 :: x3 :: t) (.ref v :: st) h = ru 127 59 (x0 :: x1 :: eKl x2 :: some (.ref v) :: t) st h) ∧
  (∀ (x0 x1 x2 x3 x4 x5 : Option Value) (v : Nat) (t : eL) (st : List Value) (h : eH), ru 127 59 (x0 :: x1 :: x2 :: x3 :: x4 :: x5 :: some (.ref v) :: t) st h = ru 127 61 (x0 :: x1 :: x2 :: x3 :: x4 :: x5 :: some (.ref v) :: t) (.ref v :: st) h) ∧
  (∀ (x0 x1 x2 x3 x4 : Option Value) (v : Nat) (t : eL) (st : List Value) (h : eH), ru 127 61 (x0 :: x1 :: x2 :: x3 :: x4 :: t) (.ref v :: st) h = ru 127 63 (x0 :: x1 :: x2 :: eKl x3 :: some (.ref v) :: t) st h) ∧
  (∀ (x0 x1 x2 x3 x4 : Option Value) (v : Int32) (t : eL) (st : List Value) (h : eH), ru 127 63 (x0 :: x1 :: x2 :: x3 :: x4 :: some (.int v) :: t) st h = ru 127 66 (x0 :: x1 :: x2 :: x3 :: eKl x4 :: some (.int (v + 1)) :: t) st h) ∧
  (∀ (ls : eL) (st : List Value) (h : eH), ru 127 66 ls st h = ru 127 30 ls st h) ∧
  (∀ (ls : eL) (st : List Value) (h : eH), ru 127 70 ls st h = ru 127 71 ls (.int (nI 0) :: st) h) ∧
  (∀ (v : Int32) (a : Nat) (ls : eL) (st : List Value) (h : eH), ru 127 71 ls (.int v :: .ref a :: st) h = pF (h.1 a) 9 2 (.int v) (fun e => ru 127 74 ls st (eUp h a e))) ∧
  (∀ (x0 x1 x2 : Option Value) (v : Nat) (t : eL) (st : List Value) (h : eH), ru 127 74 (x0 :: x1 :: x2 :: some (.ref v) :: t) st h = ru 127 75 (x0 :: x1 :: x2 :: some (.ref v) :: t) (.ref v :: st) h) ∧
  (∀ (x : Nat) (ls : eL) (h : eH), ru 127 75 ls [.ref x] h = some (some (.ref x), h)) := ⟨fun v t st h => ru_go rfl rfl,
  fun a ls st h => ru_getf rfl,
  fun x0 v t st h => ru_go rfl rfl,
  fun a0 a1 ls h => ru_inv rfl (by decide) rfl (Nat.le_of_ble_eq_true rfl),
  fun v t st h => ru_go rfl rfl,
  fun a ls st h => ru_getf rfl,
  fun x0 x1 v t st h => ru_go rfl rfl,
  fun a0 a1 ls h => ru_inv rfl (by decide) rfl (Nat.le_of_ble_eq_true rfl),
  fun v t st h => ru_go rfl rfl,
  fun a ls st h => ru_getf rfl,
  fun x0 x1 x2 x3 v t st h => ru_go rfl rfl,
  fun v t st h => ru_go rfl rfl,
  fun a ls st h => ru_getf rfl,
  fun x0 x1 x2 x3 x4 v t st h => ru_go rfl rfl,
  fun ls st h => ru_go rfl rfl,
  fun x0 x1 x2 x3 x4 x5 v t st h => ru_go rfl rfl,
  fun ls st h => ru_go rfl rfl,
  fun x y ls st h => ru_if rfl rfl,
  fun x0 x1 x2 x3 v t st h => ru_go rfl rfl,
  fun a ls st h => ru_getf rfl,
  fun x ls st h => ru_if rfl rfl,
  fun v t st h => ru_go rfl rfl,
  fun x0 x1 x2 v t st h => ru_go rfl rfl,
  fun x0 x1 x2 x3 v t st h => ru_go rfl rfl,
  fun a0 a1 a2 ls h => ru_inv rfl (by decide) rfl (Nat.le_of_ble_eq_true rfl),
  fun x0 x1 x2 v t st h => ru_go rfl rfl,
  fun x0 x1 x2 x3 x4 x5 x6 v t st h => ru_go rfl rfl,
  fun x0 x1 x2 x3 v t st h => ru_go rfl rfl,
  fun x0 x1 x2 x3 v t st h => ru_go rfl rfl,
  fun x0 x1 x2 x3 x4 x5 v t st h => ru_go rfl rfl,
  fun x0 x1 x2 x3 x4 v t st h => ru_go rfl rfl,
  fun x0 x1 x2 x3 x4 v t st h => ru_go rfl rfl,
  fun ls st h => ru_go rfl rfl,
  fun ls st h => ru_go rfl rfl,
  fun v a ls st h => ru_putf rfl,
  fun x0 x1 x2 v t st h => ru_go rfl rfl,
  fun x ls h => ru_ret rfl rfl⟩
theorem E127 (a0 : Nat) (a1 : Nat) (a2 : Nat) {h : eH} {fs : List Value} (ha : h.1 a0 = .inr (2, fs)) : den 127 [.ref a0, .ref a1, .ref a2] h = ru 127 0 [some (.ref a0), some (.ref a1), some (.ref a2), none, none, none, none] [] h := den_ob (Nat.le_of_ble_eq_true rfl) ha
/-! 128 X9_isOne -/
set_option maxRecDepth 100000 in
theorem S128 : (∀ (v : Nat) (t : eL) (st : List Value) (h : eH), ru 128 0 (some (.ref v) :: t) st h = ru 128 1 (some (.ref v) :: t) (.ref v :: st) h) ∧
  (∀ (a : Nat) (ls : eL) (st : List Value) (h : eH), ru 128 1 ls (.ref a :: st) h = gF (h.1 a) 9 1 (fun v => ru 128 4 ls (v :: st) h)) ∧
  (∀ (ls : eL) (st : List Value) (h : eH), ru 128 4 ls st h = ru 128 5 ls (.int (nI 1) :: st) h) ∧
  (∀ (x y : Int32) (ls : eL) (st : List Value) (h : eH), ru 128 5 ls (.int y :: .int x :: st) h = if x = y then ru 128 8 ls st h else ru 128 22 ls st h) ∧
  (∀ (v : Nat) (t : eL) (st : List Value) (h : eH), ru 128 8 (some (.ref v) :: t) st h = ru 128 9 (some (.ref v) :: t) (.ref v :: st) h) ∧
  (∀ (a : Nat) (ls : eL) (st : List Value) (h : eH), ru 128 9 ls (.ref a :: st) h = gF (h.1 a) 9 0 (fun v => ru 128 12 ls (v :: st) h)) ∧
  (∀ (ls : eL) (st : List Value) (h : eH), ru 128 12 ls st h = ru 128 13 ls (.int (nI 0) :: st) h) ∧
  (∀ (i : Int32) (a : Nat) (ls : eL) (st : List Value) (h : eH), ru 128 13 ls (.int i :: .ref a :: st) h = aI (h.1 a) 0 i (fun v => ru 128 14 ls (.int v :: st) h)) ∧
  (∀ (ls : eL) (st : List Value) (h : eH), ru 128 14 ls st h = ru 128 15 ls (.int (nI 1) :: st) h) ∧
  (∀ (x y : Int32) (ls : eL) (st : List Value) (h : eH), ru 128 15 ls (.int y :: .int x :: st) h = if x = y then ru 128 18 ls st h else ru 128 22 ls st h) ∧
  (∀ (ls : eL) (st : List Value) (h : eH), ru 128 18 ls st h = ru 128 19 ls (.int (nI 1) :: st) h) ∧
  (∀ (ls : eL) (st : List Value) (h : eH), ru 128 19 ls st h = ru 128 23 ls st h) ∧
  (∀ (ls : eL) (st : List Value) (h : eH), ru 128 22 ls st h = ru 128 23 ls (.int (nI 0) :: st) h) ∧
  (∀ (x : Int32) (ls : eL) (h : eH), ru 128 23 ls [.int x] h = bo (x == 0 || x == 1) (some (some (.int x), h))) := ⟨fun v t st h => ru_go rfl rfl,
  fun a ls st h => ru_getf rfl,
  fun ls st h => ru_go rfl rfl,
  fun x y ls st h => ru_if rfl rfl,
  fun v t st h => ru_go rfl rfl,
  fun a ls st h => ru_getf rfl,
  fun ls st h => ru_go rfl rfl,
  fun i a ls st h => ru_iald rfl,
  fun ls st h => ru_go rfl rfl,
  fun x y ls st h => ru_if rfl rfl,
  fun ls st h => ru_go rfl rfl,
  fun ls st h => ru_go rfl rfl,
  fun ls st h => ru_go rfl rfl,
  fun x ls h => ru_bret rfl rfl⟩
theorem E128 (a0 : Nat) {h : eH} {fs : List Value} (ha : h.1 a0 = .inr (9, fs)) : den 128 [.ref a0] h = ru 128 0 [some (.ref a0)] [] h := den_ob (Nat.le_of_ble_eq_true rfl) ha
/-! 129 X4_lower -/
set_option maxRecDepth 100000 in
theorem S129 : (∀ (v : Nat) (t : eL) (st : List Value) (h : eH), ru 129 0 (some (.ref v) :: t) st h = ru 129 1 (some (.ref v) :: t) (.ref v :: st) h) ∧
  (∀ (a : Nat) (ls : eL) (st : List Value) (h : eH), ru 129 1 ls (.ref a :: st) h = gF (h.1 a) 4 2 (fun v => ru 129 4 ls (v :: st) h)) ∧
  (∀ (x0 : Option Value) (v : Nat) (t : eL) (st : List Value) (h : eH), ru 129 4 (x0 :: some (.ref v) :: t) st h = ru 129 5 (x0 :: some (.ref v) :: t) (.ref v :: st) h) ∧
  (∀ (a0 : Nat) (a1 : Nat) (ls : eL) (h : eH), ru 129 5 ls [.ref a1, .ref a0] h = cl (den 84 [.ref a0, .ref a1] h) (fun v h => ru 129 8 ls (v.toList ++ []) h)) ∧
  (∀ (x0 x1 x2 : Option Value) (v : Nat) (t : eL) (st : List Value) (h : eH), ru 129 8 (x0 :: x1 :: x2 :: some (.ref v) :: t) st h = ru 129 9 (x0 :: x1 :: x2 :: some (.ref v) :: t) (.ref v :: st) h) ∧
  (∀ (v : Nat) (t : eL) (st : List Value) (h : eH), ru 129 9 (some (.ref v) :: t) st h = ru 129 10 (some (.ref v) :: t) (.ref v :: st) h) ∧
  (∀ (a : Nat) (ls : eL) (st : List Value) (h : eH), ru 129 10 ls (.ref a :: st) h = gF (h.1 a) 4 2 (fun v => ru 129 13 ls (v :: st) h)) ∧
  (∀ (x0 x1 : Option Value) (v : Nat) (t : eL) (st : List Value) (h : eH), ru 129 13 (x0 :: x1 :: some (.ref v) :: t) st h = ru 129 14 (x0 :: x1 :: some (.ref v) :: t) (.ref v :: st) h) ∧
  (∀ (a0 : Nat) (a1 : Nat) (a2 : Nat) (ls : eL) (h : eH), ru 129 14 ls [.ref a2, .ref a1, .ref a0] h = cl (den 120 [.ref a0, .ref a1, .ref a2] h) (fun v h => ru 129 17 ls (v.toList ++ []) h)) ∧
  (∀ (x0 : Option Value) (v : Nat) (t : eL) (st : List Value) (h : eH), ru 129 17 (x0 :: some (.ref v) :: t) st h = ru 129 18 (x0 :: some (.ref v) :: t) (.ref v :: st) h) ∧
  (∀ (x0 x1 x2 : Option Value) (v : Nat) (t : eL) (st : List Value) (h : eH), ru 129 18 (x0 :: x1 :: x2 :: some (.ref v) :: t) st h = ru 129 19 (x0 :: x1 :: x2 :: some (.ref v) :: t) (.ref v :: st) h) ∧
  (∀ (a : Nat) (ls : eL) (st : List Value) (h : eH), ru 129 19 ls (.ref a :: st) h = gF (h.1 a) 2 0 (fun v => ru 129 22 ls (v :: st) h)) ∧
  (∀ (a0 : Nat) (a1 : Nat) (ls : eL) (h : eH), ru 129 22 ls [.ref a1, .ref a0] h = cl (den 84 [.ref a0, .ref a1] h) (fun v h => ru 129 25 ls (v.toList ++ []) h)) ∧
  (∀ (ls : eL) (h : eH), ru 129 25 ls [] h = some (none, h)) := ⟨fun v t st h => ru_go rfl rfl,
  fun a ls st h => ru_getf rfl,
  fun x0 v t st h => ru_go rfl rfl,
  fun a0 a1 ls h => ru_inv rfl (by decide) rfl (Nat.le_of_ble_eq_true rfl),
  fun x0 x1 x2 v t st h => ru_go rfl rfl,
  fun v t st h => ru_go rfl rfl,
  fun a ls st h => ru_getf rfl,
  fun x0 x1 v t st h => ru_go rfl rfl,
  fun a0 a1 a2 ls h => ru_inv rfl (by decide) rfl (Nat.le_of_ble_eq_true rfl),
  fun x0 v t st h => ru_go rfl rfl,
  fun x0 x1 x2 v t st h => ru_go rfl rfl,
  fun a ls st h => ru_getf rfl,
  fun a0 a1 ls h => ru_inv rfl (by decide) rfl (Nat.le_of_ble_eq_true rfl),
  fun ls h => ru_ret rfl rfl⟩
theorem E129 (a0 : Nat) (a1 : Nat) (a2 : Nat) (a3 : Nat) {h : eH} {fs : List Value} (ha : h.1 a0 = .inr (4, fs)) : den 129 [.ref a0, .ref a1, .ref a2, .ref a3] h = ru 129 0 [some (.ref a0), some (.ref a1), some (.ref a2), some (.ref a3)] [] h := den_ob (Nat.le_of_ble_eq_true rfl) ha
/-! 130 X4_become_ -/
set_option maxRecDepth 100000 in
theorem S130 : (∀ (v : Nat) (t : eL) (st : List Value) (h : eH), ru 130 0 (some (.ref v) :: t) st h = ru 130 1 (some (.ref v) :: t) (.ref v :: st) h) ∧
  (∀ (a : Nat) (ls : eL) (st : List Value) (h : eH), ru 130 1 ls (.ref a :: st) h = gF (h.1 a) 4 0 (fun v => ru 130 4 ls (v :: st) h)) ∧
  (∀ (x0 : Option Value) (v : Nat) (t : eL) (st : List Value) (h : eH), ru 130 4 (x0 :: some (.ref v) :: t) st h = ru 130 5 (x0 :: some (.ref v) :: t) (.ref v :: st) h) ∧
  (∀ (a0 : Nat) (a1 : Nat) (ls : eL) (h : eH), ru 130 5 ls [.ref a1, .ref a0] h = cl (den 84 [.ref a0, .ref a1] h) (fun v h => ru 130 8 ls (v.toList ++ []) h)) ∧
  (∀ (v : Nat) (t : eL) (st : List Value) (h : eH), ru 130 8 (some (.ref v) :: t) st h = ru 130 9 (some (.ref v) :: t) (.ref v :: st) h) ∧
  (∀ (a : Nat) (ls : eL) (st : List Value) (h : eH), ru 130 9 ls (.ref a :: st) h = gF (h.1 a) 4 1 (fun v => ru 130 12 ls (v :: st) h)) ∧
  (∀ (x0 x1 : Option Value) (v : Nat) (t : eL) (st : List Value) (h : eH), ru 130 12 (x0 :: x1 :: some (.ref v) :: t) st h = ru 130 13 (x0 :: x1 :: some (.ref v) :: t) (.ref v :: st) h) ∧
  (∀ (a0 : Nat) (a1 : Nat) (ls : eL) (h : eH), ru 130 13 ls [.ref a1, .ref a0] h = cl (den 84 [.ref a0, .ref a1] h) (fun v h => ru 130 16 ls (v.toList ++ []) h)) ∧
  (∀ (v : Nat) (t : eL) (st : List Value) (h : eH), ru 130 16 (some (.ref v) :: t) st h = ru 130 17 (some (.ref v) :: t) (.ref v :: st) h) ∧
  (∀ (a : Nat) (ls : eL) (st : List Value) (h : eH), ru 130 17 ls (.ref a :: st) h = gF (h.1 a) 4 1 (fun v => ru 130 20 ls (v :: st) h)) ∧
  (∀ (a : Nat) (ls : eL) (st : List Value) (h : eH), ru 130 20 ls (.ref a :: st) h = gF (h.1 a) 9 2 (fun v => ru 130 23 ls (v :: st) h)) ∧
  (∀ (x : Int32) (ls : eL) (st : List Value) (h : eH), ru 130 23 ls (.int x :: st) h = if x = 0 then ru 130 40 ls st h else ru 130 26 ls st h) ∧
  (∀ (v : Nat) (t : eL) (st : List Value) (h : eH), ru 130 26 (some (.ref v) :: t) st h = ru 130 27 (some (.ref v) :: t) (.ref v :: st) h) ∧
  (∀ (a : Nat) (ls : eL) (st : List Value) (h : eH), ru 130 27 ls (.ref a :: st) h = gF (h.1 a) 4 0 (fun v => ru 130 30 ls (v :: st) h)) ∧
  (∀ (a0 : Nat) (ls : eL) (h : eH), ru 130 30 ls [.ref a0] h = cl (den 87 [.ref a0] h) (fun v h => ru 130 33 ls (v.toList ++ []) h)) ∧
  (∀ (v : Nat) (t : eL) (st : List Value) (h : eH), ru 130 33 (some (.ref v) :: t) st h = ru 130 34 (some (.ref v) :: t) (.ref v :: st) h) ∧
  (∀ (a : Nat) (ls : eL) (st : List Value) (h : eH), ru 130 34 ls (.ref a :: st) h = gF (h.1 a) 4 1 (fun v => ru 130 37 ls (v :: st) h)) ∧
  (∀ (a0 : Nat) (ls : eL) (h : eH), ru 130 37 ls [.ref a0] h = cl (den 87 [.ref a0] h) (fun v h => ru 130 40 ls (v.toList ++ []) h)) ∧
  (∀ (x0 x1 x2 : Option Value) (v : Nat) (t : eL) (st : List Value) (h : eH), ru 130 40 (x0 :: x1 :: x2 :: some (.ref v) :: t) st h = ru 130 41 (x0 :: x1 :: x2 :: some (.ref v) :: t) (.ref v :: st) h) ∧
  (∀ (v : Nat) (t : eL) (st : List Value) (h : eH), ru 130 41 (some (.ref v) :: t) st h = ru 130 42 (some (.ref v) :: t) (.ref v :: st) h) ∧
  (∀ (a : Nat) (ls : eL) (st : List Value) (h : eH), ru 130 42 ls (.ref a :: st) h = gF (h.1 a) 4 0 (fun v => ru 130 45 ls (v :: st) h)) ∧
  (∀ (v : Nat) (t : eL) (st : List Value) (h : eH), ru 130 45 (some (.ref v) :: t) st h = ru 130 46 (some (.ref v) :: t) (.ref v :: st) h) ∧
  (∀ (a : Nat) (ls : eL) (st : List Value) (h : eH), ru 130 46 ls (.ref a :: st) h = gF (h.1 a) 4 1 (fun v => ru 130 49 ls (v :: st) h)) ∧
  (∀ (a0 : Nat) (a1 : Nat) (a2 : Nat) (ls : eL) (h : eH), ru 130 49 ls [.ref a2, .ref a1, .ref a0] h = cl (den 127 [.ref a0, .ref a1, .ref a2] h) (fun v h => ru 130 52 ls (v.toList ++ []) h)) ∧
  (∀ (x0 x1 x2 x3 x4 : Option Value) (v : Nat) (t : eL) (st : List Value) (h : eH), ru 130 52 (x0 :: x1 :: x2 :: x3 :: x4 :: t) (.ref v :: st) h = ru 130 54 (x0 :: x1 :: x2 :: eKl x3 :: some (.ref v) :: t) st h) ∧
  (∀ (x0 x1 x2 x3 : Option Value) (v : Nat) (t : eL) (st : List Value) (h : eH), ru 130 54 (x0 :: x1 :: x2 :: x3 :: some (.ref v) :: t) st h = ru 130 56 (x0 :: x1 :: x2 :: x3 :: some (.ref v) :: t) (.ref v :: st) h) ∧
  (∀ (a0 : Nat) (ls : eL) (h : eH), ru 130 56 ls [.ref a0] h = cl (den 128 [.ref a0] h) (fun v h => ru 130 59 ls (v.toList ++ []) h)) ∧
  (∀ (x : Int32) (ls : eL) (st : List Value) (h : eH), ru 130 59 ls (.int x :: st) h = if x = 0 then ru 130 62 ls st h else ru 130 84 ls st h) ∧
  (∀ (v : Nat) (t : eL) (st : List Value) (h : eH), ru 130 62 (some (.ref v) :: t) st h = ru 130 63 (some (.ref v) :: t) (.ref v :: st) h) ∧
  (∀ (v : Nat) (t : eL) (st : List Value) (h : eH), ru 130 63 (some (.ref v) :: t) st h = ru 130 64 (some (.ref v) :: t) (.ref v :: st) h) ∧
  (∀ (a : Nat) (ls : eL) (st : List Value) (h : eH), ru 130 64 ls (.ref a :: st) h = gF (h.1 a) 4 0 (fun v => ru 130 67 ls (v :: st) h)) ∧
  (∀ (x0 x1 x2 x3 : Option Value) (v : Nat) (t : eL) (st : List Value) (h : eH), ru 130 67 (x0 :: x1 :: x2 :: x3 :: some (.ref v) :: t) st h = ru 130 69 (x0 :: x1 :: x2 :: x3 :: some (.ref v) :: t) (.ref v :: st) h) ∧
  (∀ (x0 x1 x2 : Option Value) (v : Nat) (t : eL) (st : List Value) (h : eH), ru 130 69 (x0 :: x1 :: x2 :: some (.ref v) :: t) st h = ru 130 70 (x0 :: x1 :: x2 :: some (.ref v) :: t) (.ref v :: st) h) ∧
  (∀ (a0 : Nat) (a1 : Nat) (a2 : Nat) (a3 : Nat) (ls : eL) (h : eH), ru 130 70 ls [.ref a3, .ref a2, .ref a1, .ref a0] h = cl (den 129 [.ref a0, .ref a1, .ref a2, .ref a3] h) (fun v h => ru 130 73 ls (v.toList ++ []) h)) ∧
  (∀ (v : Nat) (t : eL) (st : List Value) (h : eH), ru 130 73 (some (.ref v) :: t) st h = ru 130 74 (some (.ref v) :: t) (.ref v :: st) h) ∧
  (∀ (v : Nat) (t : eL) (st : List Value) (h : eH), ru 130 74 (some (.ref v) :: t) st h = ru 130 75 (some (.ref v) :: t) (.ref v :: st) h) ∧
  (∀ (a : Nat) (ls : eL) (st : List Value) (h : eH), ru 130 75 ls (.ref a :: st) h = gF (h.1 a) 4 1 (fun v => ru 130 78 ls (v :: st) h)) ∧
  (∀ (x0 x1 x2 x3 : Option Value) (v : Nat) (t : eL) (st : List Value) (h : eH), ru 130 78 (x0 :: x1 :: x2 :: x3 :: some (.ref v) :: t) st h = ru 130 80 (x0 :: x1 :: x2 :: x3 :: some (.ref v) :: t) (.ref v :: st) h) ∧
  (∀ (x0 x1 x2 : Option Value) (v : Nat) (t : eL) (st : List Value) (h : eH), ru 130 80 (x0 :: x1 :: x2 :: some (.ref v) :: t) st h = ru 130 81 (x0 :: x1 :: x2 :: some (.ref v) :: t) (.ref v :: st) h) ∧
  (∀ (a0 : Nat) (a1 : Nat) (a2 : Nat) (a3 : Nat) (ls : eL) (h : eH), ru 130 81 ls [.ref a3, .ref a2, .ref a1, .ref a0] h = cl (den 129 [.ref a0, .ref a1, .ref a2, .ref a3] h) (fun v h => ru 130 84 ls (v.toList ++ []) h)) ∧
  (∀ (ls : eL) (h : eH), ru 130 84 ls [] h = some (none, h)) := ⟨fun v t st h => ru_go rfl rfl,
  fun a ls st h => ru_getf rfl,
  fun x0 v t st h => ru_go rfl rfl,
  fun a0 a1 ls h => ru_inv rfl (by decide) rfl (Nat.le_of_ble_eq_true rfl),
  fun v t st h => ru_go rfl rfl,
  fun a ls st h => ru_getf rfl,
  fun x0 x1 v t st h => ru_go rfl rfl,
  fun a0 a1 ls h => ru_inv rfl (by decide) rfl (Nat.le_of_ble_eq_true rfl),
  fun v t st h => ru_go rfl rfl,
  fun a ls st h => ru_getf rfl,
  fun a ls st h => ru_getf rfl,
  fun x ls st h => ru_if rfl rfl,
  fun v t st h => ru_go rfl rfl,
  fun a ls st h => ru_getf rfl,
  fun a0 ls h => ru_inv rfl (by decide) rfl (Nat.le_of_ble_eq_true rfl),
  fun v t st h => ru_go rfl rfl,
  fun a ls st h => ru_getf rfl,
  fun a0 ls h => ru_inv rfl (by decide) rfl (Nat.le_of_ble_eq_true rfl),
  fun x0 x1 x2 v t st h => ru_go rfl rfl,
  fun v t st h => ru_go rfl rfl,
  fun a ls st h => ru_getf rfl,
  fun v t st h => ru_go rfl rfl,
  fun a ls st h => ru_getf rfl,
  fun a0 a1 a2 ls h => ru_inv rfl (by decide) rfl (Nat.le_of_ble_eq_true rfl),
  fun x0 x1 x2 x3 x4 v t st h => ru_go rfl rfl,
  fun x0 x1 x2 x3 v t st h => ru_go rfl rfl,
  fun a0 ls h => ru_inv rfl (by decide) rfl (Nat.le_of_ble_eq_true rfl),
  fun x ls st h => ru_if rfl rfl,
  fun v t st h => ru_go rfl rfl,
  fun v t st h => ru_go rfl rfl,
  fun a ls st h => ru_getf rfl,
  fun x0 x1 x2 x3 v t st h => ru_go rfl rfl,
  fun x0 x1 x2 v t st h => ru_go rfl rfl,
  fun a0 a1 a2 a3 ls h => ru_inv rfl (by decide) rfl (Nat.le_of_ble_eq_true rfl),
  fun v t st h => ru_go rfl rfl,
  fun v t st h => ru_go rfl rfl,
  fun a ls st h => ru_getf rfl,
  fun x0 x1 x2 x3 v t st h => ru_go rfl rfl,
  fun x0 x1 x2 v t st h => ru_go rfl rfl,
  fun a0 a1 a2 a3 ls h => ru_inv rfl (by decide) rfl (Nat.le_of_ble_eq_true rfl),
  fun ls h => ru_ret rfl rfl⟩
theorem E130 (a0 : Nat) (a1 : Nat) (a2 : Nat) (a3 : Nat) {h : eH} {fs : List Value} (ha : h.1 a0 = .inr (4, fs)) : den 130 [.ref a0, .ref a1, .ref a2, .ref a3] h = ru 130 0 [some (.ref a0), some (.ref a1), some (.ref a2), some (.ref a3), none] [] h := den_ob (Nat.le_of_ble_eq_true rfl) ha
/-! 131 X10_bears -/
set_option maxRecDepth 100000 in
theorem S131 : (∀ (v : Nat) (t : eL) (st : List Value) (h : eH), ru 131 0 (some (.ref v) :: t) st h = ru 131 1 (some (.ref v) :: t) (.ref v :: st) h) ∧
  (∀ (ls : eL) (st : List Value) (h : eH), ru 131 1 ls st h = ru 131 2 ls (.int (nI 1) :: st) h) ∧
  (∀ (a0 : Nat) (a1 : Int32) (ls : eL) (h : eH), ru 131 2 ls [.int a1, .ref a0] h = cl (den 123 [.ref a0, .int a1] h) (fun v h => ru 131 5 ls (v.toList ++ []) h)) ∧
  (∀ (v : Nat) (t : eL) (st : List Value) (h : eH), ru 131 5 (some (.ref v) :: t) st h = ru 131 6 (some (.ref v) :: t) (.ref v :: st) h) ∧
  (∀ (a : Nat) (ls : eL) (st : List Value) (h : eH), ru 131 6 ls (.ref a :: st) h = gF (h.1 a) 10 9 (fun v => ru 131 9 ls (v :: st) h)) ∧
  (∀ (x0 : Option Value) (v : Int32) (t : eL) (st : List Value) (h : eH), ru 131 9 (x0 :: some (.int v) :: t) st h = ru 131 10 (x0 :: some (.int v) :: t) (.int v :: st) h) ∧
  (∀ (a0 : Nat) (a1 : Int32) (ls : eL) (h : eH), ru 131 10 ls [.int a1, .ref a0] h = cl (den 124 [.ref a0, .int a1] h) (fun v h => ru 131 13 ls (v.toList ++ []) h)) ∧
  (∀ (x : Int32) (ls : eL) (st : List Value) (h : eH), ru 131 13 ls (.int x :: st) h = if x = 0 then ru 131 33 ls st h else ru 131 16 ls st h) ∧
  (∀ (v : Nat) (t : eL) (st : List Value) (h : eH), ru 131 16 (some (.ref v) :: t) st h = ru 131 17 (some (.ref v) :: t) (.ref v :: st) h) ∧
  (∀ (a : Nat) (ls : eL) (st : List Value) (h : eH), ru 131 17 ls (.ref a :: st) h = gF (h.1 a) 10 3 (fun v => ru 131 20 ls (v :: st) h)) ∧
  (∀ (v : Nat) (t : eL) (st : List Value) (h : eH), ru 131 20 (some (.ref v) :: t) st h = ru 131 21 (some (.ref v) :: t) (.ref v :: st) h) ∧
  (∀ (a : Nat) (ls : eL) (st : List Value) (h : eH), ru 131 21 ls (.ref a :: st) h = gF (h.1 a) 10 9 (fun v => ru 131 24 ls (v :: st) h)) ∧
  (∀ (a : Nat) (ls : eL) (st : List Value) (h : eH), ru 131 24 ls (.ref a :: st) h = gF (h.1 a) 6 2 (fun v => ru 131 27 ls (v :: st) h)) ∧
  (∀ (a0 : Nat) (a1 : Int32) (ls : eL) (h : eH), ru 131 27 ls [.int a1, .ref a0] h = cl (den 125 [.ref a0, .int a1] h) (fun v h => ru 131 30 ls (v.toList ++ []) h)) ∧
  (∀ (x : Int32) (ls : eL) (st : List Value) (h : eH), ru 131 30 ls (.int x :: st) h = if x = 0 then ru 131 33 ls st h else ru 131 35 ls st h) ∧
  (∀ (ls : eL) (st : List Value) (h : eH), ru 131 33 ls st h = ru 131 34 ls (.int (nI 0) :: st) h) ∧
  (∀ (x : Int32) (ls : eL) (h : eH), ru 131 34 ls [.int x] h = bo (x == 0 || x == 1) (some (some (.int x), h))) ∧
  (∀ (v : Nat) (t : eL) (st : List Value) (h : eH), ru 131 35 (some (.ref v) :: t) st h = ru 131 36 (some (.ref v) :: t) (.ref v :: st) h) ∧
  (∀ (a : Nat) (ls : eL) (st : List Value) (h : eH), ru 131 36 ls (.ref a :: st) h = gF (h.1 a) 10 3 (fun v => ru 131 39 ls (v :: st) h)) ∧
  (∀ (v : Nat) (t : eL) (st : List Value) (h : eH), ru 131 39 (some (.ref v) :: t) st h = ru 131 40 (some (.ref v) :: t) (.ref v :: st) h) ∧
  (∀ (a : Nat) (ls : eL) (st : List Value) (h : eH), ru 131 40 ls (.ref a :: st) h = gF (h.1 a) 10 8 (fun v => ru 131 43 ls (v :: st) h)) ∧
  (∀ (x0 : Option Value) (v : Int32) (t : eL) (st : List Value) (h : eH), ru 131 43 (x0 :: some (.int v) :: t) st h = ru 131 44 (x0 :: some (.int v) :: t) (.int v :: st) h) ∧
  (∀ (v : Nat) (t : eL) (st : List Value) (h : eH), ru 131 44 (some (.ref v) :: t) st h = ru 131 45 (some (.ref v) :: t) (.ref v :: st) h) ∧
  (∀ (a : Nat) (ls : eL) (st : List Value) (h : eH), ru 131 45 ls (.ref a :: st) h = gF (h.1 a) 10 9 (fun v => ru 131 48 ls (v :: st) h)) ∧
  (∀ (a : Nat) (ls : eL) (st : List Value) (h : eH), ru 131 48 ls (.ref a :: st) h = gF (h.1 a) 6 2 (fun v => ru 131 51 ls (v :: st) h)) ∧
  (∀ (a0 : Nat) (a1 : Nat) (a2 : Int32) (a3 : Int32) (ls : eL) (h : eH), ru 131 51 ls [.int a3, .int a2, .ref a1, .ref a0] h = cl (den 126 [.ref a0, .ref a1, .int a2, .int a3] h) (fun v h => ru 131 54 ls (v.toList ++ []) h)) ∧
  (∀ (v : Nat) (t : eL) (st : List Value) (h : eH), ru 131 54 (some (.ref v) :: t) st h = ru 131 55 (some (.ref v) :: t) (.ref v :: st) h) ∧
  (∀ (a : Nat) (ls : eL) (st : List Value) (h : eH), ru 131 55 ls (.ref a :: st) h = gF (h.1 a) 10 1 (fun v => ru 131 58 ls (v :: st) h)) ∧
  (∀ (v : Nat) (t : eL) (st : List Value) (h : eH), ru 131 58 (some (.ref v) :: t) st h = ru 131 59 (some (.ref v) :: t) (.ref v :: st) h) ∧
  (∀ (a : Nat) (ls : eL) (st : List Value) (h : eH), ru 131 59 ls (.ref a :: st) h = gF (h.1 a) 10 8 (fun v => ru 131 62 ls (v :: st) h)) ∧
  (∀ (v : Nat) (t : eL) (st : List Value) (h : eH), ru 131 62 (some (.ref v) :: t) st h = ru 131 63 (some (.ref v) :: t) (.ref v :: st) h) ∧
  (∀ (a : Nat) (ls : eL) (st : List Value) (h : eH), ru 131 63 ls (.ref a :: st) h = gF (h.1 a) 10 3 (fun v => ru 131 66 ls (v :: st) h)) ∧
  (∀ (a : Nat) (ls : eL) (st : List Value) (h : eH), ru 131 66 ls (.ref a :: st) h = gF (h.1 a) 5 11 (fun v => ru 131 69 ls (v :: st) h)) ∧
  (∀ (v : Nat) (t : eL) (st : List Value) (h : eH), ru 131 69 (some (.ref v) :: t) st h = ru 131 70 (some (.ref v) :: t) (.ref v :: st) h) ∧
  (∀ (a : Nat) (ls : eL) (st : List Value) (h : eH), ru 131 70 ls (.ref a :: st) h = gF (h.1 a) 10 2 (fun v => ru 131 73 ls (v :: st) h)) ∧
  (∀ (a : Nat) (ls : eL) (st : List Value) (h : eH), ru 131 73 ls (.ref a :: st) h = gF (h.1 a) 1 0 (fun v => ru 131 76 ls (v :: st) h)) ∧
  (∀ (a0 : Nat) (a1 : Nat) (a2 : Nat) (a3 : Nat) (ls : eL) (h : eH), ru 131 76 ls [.ref a3, .ref a2, .ref a1, .ref a0] h = cl (den 130 [.ref a0, .ref a1, .ref a2, .ref a3] h) (fun v h => ru 131 79 ls (v.toList ++ []) h)) ∧
  (∀ (ls : eL) (st : List Value) (h : eH), ru 131 79 ls st h = ru 131 80 ls (.int (nI 1) :: st) h) ∧
  (∀ (x : Int32) (ls : eL) (h : eH), ru 131 80 ls [.int x] h = bo (x == 0 || x == 1) (some (some (.int x), h))) := ⟨fun v t st h => ru_go rfl rfl,
  fun ls st h => ru_go rfl rfl,
  fun a0 a1 ls h => ru_inv rfl (by decide) rfl (Nat.le_of_ble_eq_true rfl),
  fun v t st h => ru_go rfl rfl,
  fun a ls st h => ru_getf rfl,
  fun x0 v t st h => ru_go rfl rfl,
  fun a0 a1 ls h => ru_inv rfl (by decide) rfl (Nat.le_of_ble_eq_true rfl),
  fun x ls st h => ru_if rfl rfl,
  fun v t st h => ru_go rfl rfl,
  fun a ls st h => ru_getf rfl,
  fun v t st h => ru_go rfl rfl,
  fun a ls st h => ru_getf rfl,
  fun a ls st h => ru_getf rfl,
  fun a0 a1 ls h => ru_inv rfl (by decide) rfl (Nat.le_of_ble_eq_true rfl),
  fun x ls st h => ru_if rfl rfl,
  fun ls st h => ru_go rfl rfl,
  fun x ls h => ru_bret rfl rfl,
  fun v t st h => ru_go rfl rfl,
  fun a ls st h => ru_getf rfl,
  fun v t st h => ru_go rfl rfl,
  fun a ls st h => ru_getf rfl,
  fun x0 v t st h => ru_go rfl rfl,
  fun v t st h => ru_go rfl rfl,
  fun a ls st h => ru_getf rfl,
  fun a ls st h => ru_getf rfl,
  fun a0 a1 a2 a3 ls h => ru_inv rfl (by decide) rfl (Nat.le_of_ble_eq_true rfl),
  fun v t st h => ru_go rfl rfl,
  fun a ls st h => ru_getf rfl,
  fun v t st h => ru_go rfl rfl,
  fun a ls st h => ru_getf rfl,
  fun v t st h => ru_go rfl rfl,
  fun a ls st h => ru_getf rfl,
  fun a ls st h => ru_getf rfl,
  fun v t st h => ru_go rfl rfl,
  fun a ls st h => ru_getf rfl,
  fun a ls st h => ru_getf rfl,
  fun a0 a1 a2 a3 ls h => ru_inv rfl (by decide) rfl (Nat.le_of_ble_eq_true rfl),
  fun ls st h => ru_go rfl rfl,
  fun x ls h => ru_bret rfl rfl⟩
theorem E131 (a0 : Nat) (a1 : Int32) {h : eH} {fs : List Value} (ha : h.1 a0 = .inr (10, fs)) : den 131 [.ref a0, .int a1] h = ru 131 0 [some (.ref a0), some (.int a1)] [] h := den_ob (Nat.le_of_ble_eq_true rfl) ha
