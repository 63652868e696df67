/-! 54 X11_isApart -/
set_option maxRecDepth 100000 in
theorem S54 : (∀ (x0 : Option Value) (v : Int32) (t : eL) (st : List Value) (h : eH), ru 54 0 (x0 :: some (.int v) :: t) st h = ru 54 1 (x0 :: some (.int v) :: t) (.int v :: st) h) ∧
  (∀ (x0 x1 : Option Value) (v : Int32) (t : eL) (st : List Value) (h : eH), ru 54 1 (x0 :: x1 :: some (.int v) :: t) st h = ru 54 2 (x0 :: x1 :: some (.int v) :: t) (.int v :: st) h) ∧
  (∀ (x y : Int32) (ls : eL) (st : List Value) (h : eH), ru 54 2 ls (.int y :: .int x :: st) h = if x = y then ru 54 55 ls st h else ru 54 5 ls st h) ∧
  (∀ (v : Nat) (t : eL) (st : List Value) (h : eH), ru 54 5 (some (.ref v) :: t) st h = ru 54 6 (some (.ref v) :: t) (.ref v :: st) h) ∧
  (∀ (a : Nat) (ls : eL) (st : List Value) (h : eH), ru 54 6 ls (.ref a :: st) h = gF (h.1 a) 11 18 (fun v => ru 54 9 ls (v :: st) h)) ∧
  (∀ (ls : eL) (st : List Value) (h : eH), ru 54 9 ls st h = ru 54 10 ls (.int (nI 1) :: st) h) ∧
  (∀ (ls : eL) (st : List Value) (h : eH), ru 54 10 ls st h = ru 54 11 ls (.int (nI 3) :: st) h) ∧
  (∀ (x0 : Option Value) (v : Int32) (t : eL) (st : List Value) (h : eH), ru 54 11 (x0 :: some (.int v) :: t) st h = ru 54 12 (x0 :: some (.int v) :: t) (.int v :: st) h) ∧
  (∀ (x y : Int32) (ls : eL) (st : List Value) (h : eH), ru 54 12 ls (.int y :: .int x :: st) h = ru 54 13 ls (.int (x * y) :: st) h) ∧
  (∀ (x y : Int32) (ls : eL) (st : List Value) (h : eH), ru 54 13 ls (.int y :: .int x :: st) h = ru 54 14 ls (.int (x + y) :: st) h) ∧
  (∀ (i : Int32) (a : Nat) (ls : eL) (st : List Value) (h : eH), ru 54 14 ls (.int i :: .ref a :: st) h = aI (h.1 a) 0 i (fun v => ru 54 15 ls (.int v :: st) h)) ∧
  (∀ (v : Nat) (t : eL) (st : List Value) (h : eH), ru 54 15 (some (.ref v) :: t) st h = ru 54 16 (some (.ref v) :: t) (.ref v :: st) h) ∧
  (∀ (a : Nat) (ls : eL) (st : List Value) (h : eH), ru 54 16 ls (.ref a :: st) h = gF (h.1 a) 11 18 (fun v => ru 54 19 ls (v :: st) h)) ∧
  (∀ (ls : eL) (st : List Value) (h : eH), ru 54 19 ls st h = ru 54 20 ls (.int (nI 1) :: st) h) ∧
  (∀ (ls : eL) (st : List Value) (h : eH), ru 54 20 ls st h = ru 54 21 ls (.int (nI 3) :: st) h) ∧
  (∀ (x0 x1 : Option Value) (v : Int32) (t : eL) (st : List Value) (h : eH), ru 54 21 (x0 :: x1 :: some (.int v) :: t) st h = ru 54 22 (x0 :: x1 :: some (.int v) :: t) (.int v :: st) h) ∧
  (∀ (x y : Int32) (ls : eL) (st : List Value) (h : eH), ru 54 22 ls (.int y :: .int x :: st) h = ru 54 23 ls (.int (x * y) :: st) h) ∧
  (∀ (x y : Int32) (ls : eL) (st : List Value) (h : eH), ru 54 23 ls (.int y :: .int x :: st) h = ru 54 24 ls (.int (x + y) :: st) h) ∧
  (∀ (i : Int32) (a : Nat) (ls : eL) (st : List Value) (h : eH), ru 54 24 ls (.int i :: .ref a :: st) h = aI (h.1 a) 0 i (fun v => ru 54 25 ls (.int v :: st) h)) ∧
  (∀ (x y : Int32) (ls : eL) (st : List Value) (h : eH), ru 54 25 ls (.int y :: .int x :: st) h = if x = y then ru 54 28 ls st h else ru 54 51 ls st h) ∧
  (∀ (v : Nat) (t : eL) (st : List Value) (h : eH), ru 54 28 (some (.ref v) :: t) st h = ru 54 29 (some (.ref v) :: t) (.ref v :: st) h) ∧
  (∀ (a : Nat) (ls : eL) (st : List Value) (h : eH), ru 54 29 ls (.ref a :: st) h = gF (h.1 a) 11 18 (fun v => ru 54 32 ls (v :: st) h)) ∧
  (∀ (ls : eL) (st : List Value) (h : eH), ru 54 32 ls st h = ru 54 33 ls (.int (nI 2) :: st) h) ∧
  (∀ (ls : eL) (st : List Value) (h : eH), ru 54 33 ls st h = ru 54 34 ls (.int (nI 3) :: st) h) ∧
  (∀ (x0 : Option Value) (v : Int32) (t : eL) (st : List Value) (h : eH), ru 54 34 (x0 :: some (.int v) :: t) st h = ru 54 35 (x0 :: some (.int v) :: t) (.int v :: st) h) ∧
  (∀ (x y : Int32) (ls : eL) (st : List Value) (h : eH), ru 54 35 ls (.int y :: .int x :: st) h = ru 54 36 ls (.int (x * y) :: st) h) ∧
  (∀ (x y : Int32) (ls : eL) (st : List Value) (h : eH), ru 54 36 ls (.int y :: .int x :: st) h = ru 54 37 ls (.int (x + y) :: st) h) ∧
  (∀ (i : Int32) (a : Nat) (ls : eL) (st : List Value) (h : eH), ru 54 37 ls (.int i :: .ref a :: st) h = aI (h.1 a) 0 i (fun v => ru 54 38 ls (.int v :: st) h)) ∧
  (∀ (v : Nat) (t : eL) (st : List Value) (h : eH), ru 54 38 (some (.ref v) :: t) st h = ru 54 39 (some (.ref v) :: t) (.ref v :: st) h) ∧
  (∀ (a : Nat) (ls : eL) (st : List Value) (h : eH), ru 54 39 ls (.ref a :: st) h = gF (h.1 a) 11 18 (fun v => ru 54 42 ls (v :: st) h)) ∧
  (∀ (ls : eL) (st : List Value) (h : eH), ru 54 42 ls st h = ru 54 43 ls (.int (nI 2) :: st) h) ∧
  (∀ (ls : eL) (st : List Value) (h : eH), ru 54 43 ls st h = ru 54 44 ls (.int (nI 3) :: st) h) ∧
  (∀ (x0 x1 : Option Value) (v : Int32) (t : eL) (st : List Value) (h : eH), ru 54 44 (x0 :: x1 :: some (.int v) :: t) st h = ru 54 45 (x0 :: x1 :: some (.int v) :: t) (.int v :: st) h) ∧
  (∀ (x y : Int32) (ls : eL) (st : List Value) (h : eH), ru 54 45 ls (.int y :: .int x :: st) h = ru 54 46 ls (.int (x * y) :: st) h) ∧
  (∀ (x y : Int32) (ls : eL) (st : List Value) (h : eH), ru 54 46 ls (.int y :: .int x :: st) h = ru 54 47 ls (.int (x + y) :: st) h) ∧
  (∀ (i : Int32) (a : Nat) (ls : eL) (st : List Value) (h : eH), ru 54 47 ls (.int i :: .ref a :: st) h = aI (h.1 a) 0 i (fun v => ru 54 48 ls (.int v :: st) h)) ∧
  (∀ (x y : Int32) (ls : eL) (st : List Value) (h : eH), ru 54 48 ls (.int y :: .int x :: st) h = if x = y then ru 54 55 ls st h else ru 54 51 ls st h) ∧
  (∀ (ls : eL) (st : List Value) (h : eH), ru 54 51 ls st h = ru 54 52 ls (.int (nI 1) :: st) h) ∧
  (∀ (ls : eL) (st : List Value) (h : eH), ru 54 52 ls st h = ru 54 56 ls st h) ∧
  (∀ (ls : eL) (st : List Value) (h : eH), ru 54 55 ls st h = ru 54 56 ls (.int (nI 0) :: st) h) ∧
  (∀ (x : Int32) (ls : eL) (h : eH), ru 54 56 ls [.int x] h = bo (x == 0 || x == 1) (some (some (.int x), h))) := ⟨fun x0 v t st h => ru_go rfl rfl,
  fun x0 x1 v t st h => ru_go rfl rfl,
  fun x y ls st h => ru_if rfl rfl,
  fun v t st h => ru_go rfl rfl,
  fun a ls st h => ru_getf rfl,
  fun ls st h => ru_go rfl rfl,
  fun ls st h => ru_go rfl rfl,
  fun x0 v t st h => ru_go rfl rfl,
  fun x y ls st h => ru_go rfl rfl,
  fun x y ls st h => ru_go rfl rfl,
  fun i a ls st h => ru_iald rfl,
  fun v t st h => ru_go rfl rfl,
  fun a ls st h => ru_getf rfl,
  fun ls st h => ru_go rfl rfl,
  fun ls st h => ru_go rfl rfl,
  fun x0 x1 v t st h => ru_go rfl rfl,
  fun x y ls st h => ru_go rfl rfl,
  fun x y ls st h => ru_go rfl rfl,
  fun i a ls st h => ru_iald rfl,
  fun x y ls st h => ru_if rfl rfl,
  fun v t st h => ru_go rfl rfl,
  fun a ls st h => ru_getf rfl,
  fun ls st h => ru_go rfl rfl,
  fun ls st h => ru_go rfl rfl,
  fun x0 v t st h => ru_go rfl rfl,
  fun x y ls st h => ru_go rfl rfl,
  fun x y ls st h => ru_go rfl rfl,
  fun i a ls st h => ru_iald rfl,
  fun v t st h => ru_go rfl rfl,
  fun a ls st h => ru_getf rfl,
  fun ls st h => ru_go rfl rfl,
  fun ls st h => ru_go rfl rfl,
  fun x0 x1 v t st h => ru_go rfl rfl,
  fun x y ls st h => ru_go rfl rfl,
  fun x y ls st h => ru_go rfl rfl,
  fun i a ls st h => ru_iald rfl,
  fun x y ls st h => ru_if rfl rfl,
  fun ls st h => ru_go rfl rfl,
  fun ls st h => ru_go rfl rfl,
  fun ls st h => ru_go rfl rfl,
  fun x ls h => ru_bret rfl rfl⟩
theorem E54 (a0 : Nat) (a1 : Int32) (a2 : Int32) {h : eH} {fs : List Value} (ha : h.1 a0 = .inr (11, fs)) : den 54 [.ref a0, .int a1, .int a2] h = ru 54 0 [some (.ref a0), some (.int a1), some (.int a2)] [] h := den_ob (Nat.le_of_ble_eq_true rfl) ha
/-! 55 X11_isJoint -/
set_option maxRecDepth 100000 in
theorem S55 : (∀ (x0 : Option Value) (v : Int32) (t : eL) (st : List Value) (h : eH), ru 55 0 (x0 :: some (.int v) :: t) st h = ru 55 1 (x0 :: some (.int v) :: t) (.int v :: st) h) ∧
  (∀ (x : Int32) (ls : eL) (st : List Value) (h : eH), ru 55 1 ls (.int x :: st) h = if x < 0 then ru 55 16 ls st h else ru 55 4 ls st h) ∧
  (∀ (x0 : Option Value) (v : Int32) (t : eL) (st : List Value) (h : eH), ru 55 4 (x0 :: some (.int v) :: t) st h = ru 55 5 (x0 :: some (.int v) :: t) (.int v :: st) h) ∧
  (∀ (v : Nat) (t : eL) (st : List Value) (h : eH), ru 55 5 (some (.ref v) :: t) st h = ru 55 6 (some (.ref v) :: t) (.ref v :: st) h) ∧
  (∀ (a : Nat) (ls : eL) (st : List Value) (h : eH), ru 55 6 ls (.ref a :: st) h = gF (h.1 a) 11 4 (fun v => ru 55 9 ls (v :: st) h)) ∧
  (∀ (x y : Int32) (ls : eL) (st : List Value) (h : eH), ru 55 9 ls (.int y :: .int x :: st) h = if y ≤ x then ru 55 16 ls st h else ru 55 12 ls st h) ∧
  (∀ (ls : eL) (st : List Value) (h : eH), ru 55 12 ls st h = ru 55 13 ls (.int (nI 1) :: st) h) ∧
  (∀ (ls : eL) (st : List Value) (h : eH), ru 55 13 ls st h = ru 55 17 ls st h) ∧
  (∀ (ls : eL) (st : List Value) (h : eH), ru 55 16 ls st h = ru 55 17 ls (.int (nI 0) :: st) h) ∧
  (∀ (x : Int32) (ls : eL) (h : eH), ru 55 17 ls [.int x] h = bo (x == 0 || x == 1) (some (some (.int x), h))) := ⟨fun x0 v t st h => ru_go rfl rfl,
  fun x ls st h => ru_if rfl rfl,
  fun x0 v t st h => ru_go rfl rfl,
  fun v t st h => ru_go rfl rfl,
  fun a ls st h => ru_getf rfl,
  fun x y ls st h => ru_if rfl rfl,
  fun ls st h => ru_go rfl rfl,
  fun ls st h => ru_go rfl rfl,
  fun ls st h => ru_go rfl rfl,
  fun x ls h => ru_bret rfl rfl⟩
theorem E55 (a0 : Nat) (a1 : Int32) {h : eH} {fs : List Value} (ha : h.1 a0 = .inr (11, fs)) : den 55 [.ref a0, .int a1] h = ru 55 0 [some (.ref a0), some (.int a1)] [] h := den_ob (Nat.le_of_ble_eq_true rfl) ha
/-! 56 X11_isShaped -/
set_option maxRecDepth 100000 in
theorem H56_19 : (∀ (x0 x1 : Option Value) (v : Int32) (t : eL) (st : List Value) (h : eH), ru 56 19 (x0 :: x1 :: some (.int v) :: t) st h = ru 56 20 (x0 :: x1 :: some (.int v) :: t) (.int v :: st) h) := fun x0 x1 v t st h => ru_go rfl rfl
set_option maxRecDepth 100000 in
theorem H56_69 : (∀ (x0 x1 x2 x3 x4 x5 x6 x7 x8 x9 : Option Value) (v : Int32) (t : eL) (st : List Value) (h : eH), ru 56 69 (x0 :: x1 :: x2 :: x3 :: x4 :: x5 :: x6 :: x7 :: x8 :: x9 :: some (.int v) :: t) st h = ru 56 71 (x0 :: x1 :: x2 :: x3 :: x4 :: x5 :: x6 :: x7 :: x8 :: x9 :: some (.int v) :: t) (.int v :: st) h) := fun x0 x1 x2 x3 x4 x5 x6 x7 x8 x9 v t st h => ru_go rfl rfl
set_option maxRecDepth 100000 in
theorem H56_93 : (∀ (ls : eL) (st : List Value) (h : eH), ru 56 93 ls st h = ru 56 94 ls (.int (nI 0) :: st) h) := fun ls st h => ru_go rfl rfl
set_option maxRecDepth 100000 in
theorem H56_96 : (∀ (x0 x1 x2 x3 x4 x5 x6 x7 x8 x9 : Option Value) (v : Int32) (t : eL) (st : List Value) (h : eH), ru 56 96 (x0 :: x1 :: x2 :: x3 :: x4 :: x5 :: x6 :: x7 :: x8 :: x9 :: some (.int v) :: t) st h = ru 56 98 (x0 :: x1 :: x2 :: x3 :: x4 :: x5 :: x6 :: x7 :: x8 :: x9 :: some (.int v) :: t) (.int v :: st) h) := fun x0 x1 x2 x3 x4 x5 x6 x7 x8 x9 v t st h => ru_go rfl rfl
set_option maxRecDepth 100000 in
theorem H56_267 : (∀ (v : Nat) (t : eL) (st : List Value) (h : eH), ru 56 267 (some (.ref v) :: t) st h = ru 56 268 (some (.ref v) :: t) (.ref v :: st) h) := fun v t st h => ru_go rfl rfl
set_option maxRecDepth 100000 in
theorem H56_318 : (∀ (v : Nat) (t : eL) (st : List Value) (h : eH), ru 56 318 (some (.ref v) :: t) st h = ru 56 319 (some (.ref v) :: t) (.ref v :: st) h) := fun v t st h => ru_go rfl rfl
set_option maxRecDepth 100000 in
theorem S56 : (∀ (v : Nat) (t : eL) (st : List Value) (h : eH), ru 56 0 (some (.ref v) :: t) st h = ru 56 1 (some (.ref v) :: t) (.ref v :: st) h) ∧
  (∀ (a0 : Nat) (ls : eL) (h : eH), ru 56 1 ls [.ref a0] h = cl (den 23 [.ref a0] h) (fun v h => ru 56 4 ls (v.toList ++ []) h)) ∧
  (∀ (x0 x1 : Option Value) (v : Int32) (t : eL) (st : List Value) (h : eH), ru 56 4 (x0 :: x1 :: t) (.int v :: st) h = ru 56 5 (eKl x0 :: some (.int v) :: t) st h) ∧
  (∀ (v : Nat) (t : eL) (st : List Value) (h : eH), ru 56 5 (some (.ref v) :: t) st h = ru 56 6 (some (.ref v) :: t) (.ref v :: st) h) ∧
  (∀ (x0 : Option Value) (v : Int32) (t : eL) (st : List Value) (h : eH), ru 56 6 (x0 :: some (.int v) :: t) st h = ru 56 7 (x0 :: some (.int v) :: t) (.int v :: st) h) ∧
  (∀ (v : Int32) (a : Nat) (ls : eL) (st : List Value) (h : eH), ru 56 7 ls (.int v :: .ref a :: st) h = pF (h.1 a) 11 19 (.int v) (fun e => ru 56 10 ls st (eUp h a e))) ∧
  (∀ (v : Nat) (t : eL) (st : List Value) (h : eH), ru 56 10 (some (.ref v) :: t) st h = ru 56 11 (some (.ref v) :: t) (.ref v :: st) h) ∧
  (∀ (x0 : Option Value) (v : Int32) (t : eL) (st : List Value) (h : eH), ru 56 11 (x0 :: some (.int v) :: t) st h = ru 56 12 (x0 :: some (.int v) :: t) (.int v :: st) h) ∧
  (∀ (ls : eL) (st : List Value) (h : eH), ru 56 12 ls st h = ru 56 13 ls (.int (nI 2) :: st) h) ∧
  (∀ (x y : Int32) (ls : eL) (st : List Value) (h : eH), ru 56 13 ls (.int y :: .int x :: st) h = ru 56 14 ls (.int (x + y) :: st) h) ∧
  (∀ (v : Int32) (a : Nat) (ls : eL) (st : List Value) (h : eH), ru 56 14 ls (.int v :: .ref a :: st) h = pF (h.1 a) 11 20 (.int v) (fun e => ru 56 17 ls st (eUp h a e))) ∧
  (∀ (ls : eL) (st : List Value) (h : eH), ru 56 17 ls st h = ru 56 18 ls (.int (nI 0) :: st) h) ∧
  (∀ (x0 x1 x2 : Option Value) (v : Int32) (t : eL) (st : List Value) (h : eH), ru 56 18 (x0 :: x1 :: x2 :: t) (.int v :: st) h = ru 56 19 (x0 :: eKl x1 :: some (.int v) :: t) st h) ∧
  (∀ (v : Nat) (t : eL) (st : List Value) (h : eH), ru 56 20 (some (.ref v) :: t) st h = ru 56 21 (some (.ref v) :: t) (.ref v :: st) h) ∧
  (∀ (a : Nat) (ls : eL) (st : List Value) (h : eH), ru 56 21 ls (.ref a :: st) h = gF (h.1 a) 11 4 (fun v => ru 56 24 ls (v :: st) h)) ∧
  (∀ (x y : Int32) (ls : eL) (st : List Value) (h : eH), ru 56 24 ls (.int y :: .int x :: st) h = if y ≤ x then ru 56 318 ls st h else ru 56 27 ls st h) ∧
  (∀ (v : Nat) (t : eL) (st : List Value) (h : eH), ru 56 27 (some (.ref v) :: t) st h = ru 56 28 (some (.ref v) :: t) (.ref v :: st) h) ∧
  (∀ (a : Nat) (ls : eL) (st : List Value) (h : eH), ru 56 28 ls (.ref a :: st) h = gF (h.1 a) 11 7 (fun v => ru 56 31 ls (v :: st) h)) ∧
  (∀ (x0 x1 : Option Value) (v : Int32) (t : eL) (st : List Value) (h : eH), ru 56 31 (x0 :: x1 :: some (.int v) :: t) st h = ru 56 32 (x0 :: x1 :: some (.int v) :: t) (.int v :: st) h) ∧
  (∀ (i : Int32) (a : Nat) (ls : eL) (st : List Value) (h : eH), ru 56 32 ls (.int i :: .ref a :: st) h = aI (h.1 a) 2 i (fun v => ru 56 33 ls (.int v :: st) h)) ∧
  (∀ (x : Int32) (ls : eL) (st : List Value) (h : eH), ru 56 33 ls (.int x :: st) h = if x = 0 then ru 56 39 ls st h else ru 56 36 ls st h) ∧
  (∀ (ls : eL) (st : List Value) (h : eH), ru 56 36 ls st h = ru 56 312 ls st h) ∧
  (∀ (v : Nat) (t : eL) (st : List Value) (h : eH), ru 56 39 (some (.ref v) :: t) st h = ru 56 40 (some (.ref v) :: t) (.ref v :: st) h) ∧
  (∀ (x0 x1 : Option Value) (v : Int32) (t : eL) (st : List Value) (h : eH), ru 56 40 (x0 :: x1 :: some (.int v) :: t) st h = ru 56 41 (x0 :: x1 :: some (.int v) :: t) (.int v :: st) h) ∧
  (∀ (a0 : Nat) (a1 : Int32) (ls : eL) (h : eH), ru 56 41 ls [.int a1, .ref a0] h = cl (den 13 [.ref a0, .int a1] h) (fun v h => ru 56 44 ls (v.toList ++ []) h)) ∧
  (∀ (x0 x1 x2 x3 : Option Value) (v : Int32) (t : eL) (st : List Value) (h : eH), ru 56 44 (x0 :: x1 :: x2 :: x3 :: t) (.int v :: st) h = ru 56 45 (x0 :: x1 :: eKl x2 :: some (.int v) :: t) st h) ∧
  (∀ (ls : eL) (st : List Value) (h : eH), ru 56 45 ls st h = ru 56 46 ls (.long (lN 0) :: st) h) ∧
  (∀ (x0 x1 x2 x3 x4 x5 : Option Value) (v : Int64) (t : eL) (st : List Value) (h : eH), ru 56 46 (x0 :: x1 :: x2 :: x3 :: x4 :: x5 :: t) (.long v :: st) h = ru 56 48 (x0 :: x1 :: x2 :: eKl x3 :: some (.long v) :: none :: t) st h) ∧
  (∀ (v : Nat) (t : eL) (st : List Value) (h : eH), ru 56 48 (some (.ref v) :: t) st h = ru 56 49 (some (.ref v) :: t) (.ref v :: st) h) ∧
  (∀ (a : Nat) (ls : eL) (st : List Value) (h : eH), ru 56 49 ls (.ref a :: st) h = gF (h.1 a) 11 8 (fun v => ru 56 52 ls (v :: st) h)) ∧
  (∀ (x0 x1 : Option Value) (v : Int32) (t : eL) (st : List Value) (h : eH), ru 56 52 (x0 :: x1 :: some (.int v) :: t) st h = ru 56 53 (x0 :: x1 :: some (.int v) :: t) (.int v :: st) h) ∧
  (∀ (i : Int32) (a : Nat) (ls : eL) (st : List Value) (h : eH), ru 56 53 ls (.int i :: .ref a :: st) h = aI (h.1 a) 0 i (fun v => ru 56 54 ls (.int v :: st) h)) ∧
  (∀ (x : Int32) (ls : eL) (st : List Value) (h : eH), ru 56 54 ls (.int x :: st) h = ru 56 55 ls (.long (x.toInt64) :: st) h) ∧
  (∀ (x0 x1 x2 x3 x4 x5 x6 x7 : Option Value) (v : Int64) (t : eL) (st : List Value) (h : eH), ru 56 55 (x0 :: x1 :: x2 :: x3 :: x4 :: x5 :: x6 :: x7 :: t) (.long v :: st) h = ru 56 57 (x0 :: x1 :: x2 :: x3 :: x4 :: eKl x5 :: some (.long v) :: none :: t) st h) ∧
  (∀ (v : Nat) (t : eL) (st : List Value) (h : eH), ru 56 57 (some (.ref v) :: t) st h = ru 56 58 (some (.ref v) :: t) (.ref v :: st) h) ∧
  (∀ (a : Nat) (ls : eL) (st : List Value) (h : eH), ru 56 58 ls (.ref a :: st) h = gF (h.1 a) 11 9 (fun v => ru 56 61 ls (v :: st) h)) ∧
  (∀ (x0 x1 : Option Value) (v : Int32) (t : eL) (st : List Value) (h : eH), ru 56 61 (x0 :: x1 :: some (.int v) :: t) st h = ru 56 62 (x0 :: x1 :: some (.int v) :: t) (.int v :: st) h) ∧
  (∀ (i : Int32) (a : Nat) (ls : eL) (st : List Value) (h : eH), ru 56 62 ls (.int i :: .ref a :: st) h = aI (h.1 a) 0 i (fun v => ru 56 63 ls (.int v :: st) h)) ∧
  (∀ (x : Int32) (ls : eL) (st : List Value) (h : eH), ru 56 63 ls (.int x :: st) h = ru 56 64 ls (.long (x.toInt64) :: st) h) ∧
  (∀ (x0 x1 x2 x3 x4 x5 x6 x7 x8 x9 : Option Value) (v : Int64) (t : eL) (st : List Value) (h : eH), ru 56 64 (x0 :: x1 :: x2 :: x3 :: x4 :: x5 :: x6 :: x7 :: x8 :: x9 :: t) (.long v :: st) h = ru 56 66 (x0 :: x1 :: x2 :: x3 :: x4 :: x5 :: x6 :: eKl x7 :: some (.long v) :: none :: t) st h) ∧
  (∀ (ls : eL) (st : List Value) (h : eH), ru 56 66 ls st h = ru 56 67 ls (.int (nI 0) :: st) h) ∧
  (∀ (x0 x1 x2 x3 x4 x5 x6 x7 x8 x9 x10 : Option Value) (v : Int32) (t : eL) (st : List Value) (h : eH), ru 56 67 (x0 :: x1 :: x2 :: x3 :: x4 :: x5 :: x6 :: x7 :: x8 :: x9 :: x10 :: t) (.int v :: st) h = ru 56 69 (x0 :: x1 :: x2 :: x3 :: x4 :: x5 :: x6 :: x7 :: x8 :: eKl x9 :: some (.int v) :: t) st h) ∧
  (∀ (x0 : Option Value) (v : Int32) (t : eL) (st : List Value) (h : eH), ru 56 71 (x0 :: some (.int v) :: t) st h = ru 56 72 (x0 :: some (.int v) :: t) (.int v :: st) h) ∧
  (∀ (x y : Int32) (ls : eL) (st : List Value) (h : eH), ru 56 72 ls (.int y :: .int x :: st) h = if y ≤ x then ru 56 93 ls st h else ru 56 75 ls st h) ∧
  (∀ (v : Nat) (t : eL) (st : List Value) (h : eH), ru 56 75 (some (.ref v) :: t) st h = ru 56 76 (some (.ref v) :: t) (.ref v :: st) h) ∧
  (∀ (v : Nat) (t : eL) (st : List Value) (h : eH), ru 56 76 (some (.ref v) :: t) st h = ru 56 77 (some (.ref v) :: t) (.ref v :: st) h) ∧
  (∀ (x0 x1 x2 : Option Value) (v : Int32) (t : eL) (st : List Value) (h : eH), ru 56 77 (x0 :: x1 :: x2 :: some (.int v) :: t) st h = ru 56 78 (x0 :: x1 :: x2 :: some (.int v) :: t) (.int v :: st) h) ∧
  (∀ (x0 x1 x2 x3 x4 x5 x6 x7 x8 x9 : Option Value) (v : Int32) (t : eL) (st : List Value) (h : eH), ru 56 78 (x0 :: x1 :: x2 :: x3 :: x4 :: x5 :: x6 :: x7 :: x8 :: x9 :: some (.int v) :: t) st h = ru 56 80 (x0 :: x1 :: x2 :: x3 :: x4 :: x5 :: x6 :: x7 :: x8 :: x9 :: some (.int v) :: t) (.int v :: st) h) ∧
  (∀ (a0 : Nat) (a1 : Int32) (a2 : Int32) (u0 : Nat) (ls : eL) (h : eH), ru 56 80 ls [.int a2, .int a1, .ref a0, .ref u0] h = cl (den 21 [.ref a0, .int a1, .int a2] h) (fun v h => ru 56 83 ls (v.toList ++ [.ref u0]) h)) ∧
  (∀ (ls : eL) (st : List Value) (h : eH), ru 56 83 ls st h = ru 56 84 ls (.long (lN 0) :: st) h) ∧
  (∀ (a0 : Nat) (a1 : Int32) (a2 : Int64) (ls : eL) (h : eH), ru 56 84 ls [.long a2, .int a1, .ref a0] h = cl (den 12 [.ref a0, .int a1, .long a2] h) (fun v h => ru 56 87 ls (v.toList ++ []) h)) ∧
  (∀ (x0 x1 x2 x3 x4 x5 x6 x7 x8 x9 : Option Value) (v : Int32) (t : eL) (st : List Value) (h : eH), ru 56 87 (x0 :: x1 :: x2 :: x3 :: x4 :: x5 :: x6 :: x7 :: x8 :: x9 :: some (.int v) :: t) st h = ru 56 90 (x0 :: x1 :: x2 :: x3 :: x4 :: x5 :: x6 :: x7 :: x8 :: eKl x9 :: some (.int (v + 1)) :: t) st h) ∧
  (∀ (ls : eL) (st : List Value) (h : eH), ru 56 90 ls st h = ru 56 69 ls st h) ∧
  (∀ (x0 x1 x2 x3 x4 x5 x6 x7 x8 x9 x10 : Option Value) (v : Int32) (t : eL) (st : List Value) (h : eH), ru 56 94 (x0 :: x1 :: x2 :: x3 :: x4 :: x5 :: x6 :: x7 :: x8 :: x9 :: x10 :: t) (.int v :: st) h = ru 56 96 (x0 :: x1 :: x2 :: x3 :: x4 :: x5 :: x6 :: x7 :: x8 :: eKl x9 :: some (.int v) :: t) st h) ∧
  (∀ (v : Nat) (t : eL) (st : List Value) (h : eH), ru 56 98 (some (.ref v) :: t) st h = ru 56 99 (some (.ref v) :: t) (.ref v :: st) h) ∧
  (∀ (a : Nat) (ls : eL) (st : List Value) (h : eH), ru 56 99 ls (.ref a :: st) h = gF (h.1 a) 11 10 (fun v => ru 56 102 ls (v :: st) h)) ∧
  (∀ (x y : Int32) (ls : eL) (st : List Value) (h : eH), ru 56 102 ls (.int y :: .int x :: st) h = if y ≤ x then ru 56 267 ls st h else ru 56 105 ls st h) ∧
  (∀ (v : Nat) (t : eL) (st : List Value) (h : eH), ru 56 105 (some (.ref v) :: t) st h = ru 56 106 (some (.ref v) :: t) (.ref v :: st) h) ∧
  (∀ (a : Nat) (ls : eL) (st : List Value) (h : eH), ru 56 106 ls (.ref a :: st) h = gF (h.1 a) 11 11 (fun v => ru 56 109 ls (v :: st) h)) ∧
  (∀ (x0 x1 x2 x3 x4 x5 x6 x7 x8 x9 : Option Value) (v : Int32) (t : eL) (st : List Value) (h : eH), ru 56 109 (x0 :: x1 :: x2 :: x3 :: x4 :: x5 :: x6 :: x7 :: x8 :: x9 :: some (.int v) :: t) st h = ru 56 111 (x0 :: x1 :: x2 :: x3 :: x4 :: x5 :: x6 :: x7 :: x8 :: x9 :: some (.int v) :: t) (.int v :: st) h) ∧
  (∀ (i : Int32) (a : Nat) (ls : eL) (st : List Value) (h : eH), ru 56 111 ls (.int i :: .ref a :: st) h = aI (h.1 a) 0 i (fun v => ru 56 112 ls (.int v :: st) h)) ∧
  (∀ (x0 x1 : Option Value) (v : Int32) (t : eL) (st : List Value) (h : eH), ru 56 112 (x0 :: x1 :: some (.int v) :: t) st h = ru 56 113 (x0 :: x1 :: some (.int v) :: t) (.int v :: st) h) ∧
  (∀ (x y : Int32) (ls : eL) (st : List Value) (h : eH), ru 56 113 ls (.int y :: .int x :: st) h = if x = y then ru 56 130 ls st h else ru 56 116 ls st h) ∧
  (∀ (v : Nat) (t : eL) (st : List Value) (h : eH), ru 56 116 (some (.ref v) :: t) st h = ru 56 117 (some (.ref v) :: t) (.ref v :: st) h) ∧
  (∀ (a : Nat) (ls : eL) (st : List Value) (h : eH), ru 56 117 ls (.ref a :: st) h = gF (h.1 a) 11 12 (fun v => ru 56 120 ls (v :: st) h)) ∧
  (∀ (x0 x1 x2 x3 x4 x5 x6 x7 x8 x9 : Option Value) (v : Int32) (t : eL) (st : List Value) (h : eH), ru 56 120 (x0 :: x1 :: x2 :: x3 :: x4 :: x5 :: x6 :: x7 :: x8 :: x9 :: some (.int v) :: t) st h = ru 56 122 (x0 :: x1 :: x2 :: x3 :: x4 :: x5 :: x6 :: x7 :: x8 :: x9 :: some (.int v) :: t) (.int v :: st) h) ∧
  (∀ (i : Int32) (a : Nat) (ls : eL) (st : List Value) (h : eH), ru 56 122 ls (.int i :: .ref a :: st) h = aI (h.1 a) 0 i (fun v => ru 56 123 ls (.int v :: st) h)) ∧
  (∀ (x0 x1 : Option Value) (v : Int32) (t : eL) (st : List Value) (h : eH), ru 56 123 (x0 :: x1 :: some (.int v) :: t) st h = ru 56 124 (x0 :: x1 :: some (.int v) :: t) (.int v :: st) h) ∧
  (∀ (x y : Int32) (ls : eL) (st : List Value) (h : eH), ru 56 124 ls (.int y :: .int x :: st) h = if x = y then ru 56 130 ls st h else ru 56 127 ls st h) ∧
  (∀ (ls : eL) (st : List Value) (h : eH), ru 56 127 ls st h = ru 56 261 ls st h) ∧
  (∀ (v : Nat) (t : eL) (st : List Value) (h : eH), ru 56 130 (some (.ref v) :: t) st h = ru 56 131 (some (.ref v) :: t) (.ref v :: st) h) ∧
  (∀ (a : Nat) (ls : eL) (st : List Value) (h : eH), ru 56 131 ls (.ref a :: st) h = gF (h.1 a) 11 11 (fun v => ru 56 134 ls (v :: st) h)) ∧
  (∀ (x0 x1 x2 x3 x4 x5 x6 x7 x8 x9 : Option Value) (v : Int32) (t : eL) (st : List Value) (h : eH), ru 56 134 (x0 :: x1 :: x2 :: x3 :: x4 :: x5 :: x6 :: x7 :: x8 :: x9 :: some (.int v) :: t) st h = ru 56 136 (x0 :: x1 :: x2 :: x3 :: x4 :: x5 :: x6 :: x7 :: x8 :: x9 :: some (.int v) :: t) (.int v :: st) h) ∧
  (∀ (i : Int32) (a : Nat) (ls : eL) (st : List Value) (h : eH), ru 56 136 ls (.int i :: .ref a :: st) h = aI (h.1 a) 0 i (fun v => ru 56 137 ls (.int v :: st) h)) ∧
  (∀ (x0 x1 : Option Value) (v : Int32) (t : eL) (st : List Value) (h : eH), ru 56 137 (x0 :: x1 :: some (.int v) :: t) st h = ru 56 138 (x0 :: x1 :: some (.int v) :: t) (.int v :: st) h) ∧
  (∀ (x y : Int32) (ls : eL) (st : List Value) (h : eH), ru 56 138 ls (.int y :: .int x :: st) h = if x = y then ru 56 141 ls st h else ru 56 151 ls st h) ∧
  (∀ (v : Nat) (t : eL) (st : List Value) (h : eH), ru 56 141 (some (.ref v) :: t) st h = ru 56 142 (some (.ref v) :: t) (.ref v :: st) h) ∧
  (∀ (a : Nat) (ls : eL) (st : List Value) (h : eH), ru 56 142 ls (.ref a :: st) h = gF (h.1 a) 11 12 (fun v => ru 56 145 ls (v :: st) h)) ∧
  (∀ (x0 x1 x2 x3 x4 x5 x6 x7 x8 x9 : Option Value) (v : Int32) (t : eL) (st : List Value) (h : eH), ru 56 145 (x0 :: x1 :: x2 :: x3 :: x4 :: x5 :: x6 :: x7 :: x8 :: x9 :: some (.int v) :: t) st h = ru 56 147 (x0 :: x1 :: x2 :: x3 :: x4 :: x5 :: x6 :: x7 :: x8 :: x9 :: some (.int v) :: t) (.int v :: st) h) ∧
  (∀ (i : Int32) (a : Nat) (ls : eL) (st : List Value) (h : eH), ru 56 147 ls (.int i :: .ref a :: st) h = aI (h.1 a) 0 i (fun v => ru 56 148 ls (.int v :: st) h)) ∧
  (∀ (ls : eL) (st : List Value) (h : eH), ru 56 148 ls st h = ru 56 158 ls st h) ∧
  (∀ (v : Nat) (t : eL) (st : List Value) (h : eH), ru 56 151 (some (.ref v) :: t) st h = ru 56 152 (some (.ref v) :: t) (.ref v :: st) h) ∧
  (∀ (a : Nat) (ls : eL) (st : List Value) (h : eH), ru 56 152 ls (.ref a :: st) h = gF (h.1 a) 11 11 (fun v => ru 56 155 ls (v :: st) h)) ∧
  (∀ (x0 x1 x2 x3 x4 x5 x6 x7 x8 x9 : Option Value) (v : Int32) (t : eL) (st : List Value) (h : eH), ru 56 155 (x0 :: x1 :: x2 :: x3 :: x4 :: x5 :: x6 :: x7 :: x8 :: x9 :: some (.int v) :: t) st h = ru 56 157 (x0 :: x1 :: x2 :: x3 :: x4 :: x5 :: x6 :: x7 :: x8 :: x9 :: some (.int v) :: t) (.int v :: st) h) ∧
  (∀ (i : Int32) (a : Nat) (ls : eL) (st : List Value) (h : eH), ru 56 157 ls (.int i :: .ref a :: st) h = aI (h.1 a) 0 i (fun v => ru 56 158 ls (.int v :: st) h)) ∧
  (∀ (x0 x1 x2 x3 x4 x5 x6 x7 x8 x9 x10 x11 : Option Value) (v : Int32) (t : eL) (st : List Value) (h : eH), ru 56 158 (x0 :: x1 :: x2 :: x3 :: x4 :: x5 :: x6 :: x7 :: x8 :: x9 :: x10 :: x11 :: t) (.int v :: st) h = ru 56 160 (x0 :: x1 :: x2 :: x3 :: x4 :: x5 :: x6 :: x7 :: x8 :: x9 :: eKl x10 :: some (.int v) :: t) st h) ∧
  (∀ (x0 x1 x2 x3 : Option Value) (v : Int64) (t : eL) (st : List Value) (h : eH), ru 56 160 (x0 :: x1 :: x2 :: x3 :: some (.long v) :: t) st h = ru 56 162 (x0 :: x1 :: x2 :: x3 :: some (.long v) :: t) (.long v :: st) h) ∧
  (∀ (v : Nat) (t : eL) (st : List Value) (h : eH), ru 56 162 (some (.ref v) :: t) st h = ru 56 163 (some (.ref v) :: t) (.ref v :: st) h) ∧
  (∀ (a : Nat) (ls : eL) (st : List Value) (h : eH), ru 56 163 ls (.ref a :: st) h = gF (h.1 a) 11 14 (fun v => ru 56 166 ls (v :: st) h)) ∧
  (∀ (x0 x1 x2 x3 x4 x5 x6 x7 x8 x9 : Option Value) (v : Int32) (t : eL) (st : List Value) (h : eH), ru 56 166 (x0 :: x1 :: x2 :: x3 :: x4 :: x5 :: x6 :: x7 :: x8 :: x9 :: some (.int v) :: t) st h = ru 56 168 (x0 :: x1 :: x2 :: x3 :: x4 :: x5 :: x6 :: x7 :: x8 :: x9 :: some (.int v) :: t) (.int v :: st) h) ∧
  (∀ (i : Int32) (a : Nat) (ls : eL) (st : List Value) (h : eH), ru 56 168 ls (.int i :: .ref a :: st) h = aI (h.1 a) 0 i (fun v => ru 56 169 ls (.int v :: st) h)) ∧
  (∀ (x : Int32) (ls : eL) (st : List Value) (h : eH), ru 56 169 ls (.int x :: st) h = ru 56 170 ls (.long (x.toInt64) :: st) h) ∧
  (∀ (x y : Int64) (ls : eL) (st : List Value) (h : eH), ru 56 170 ls (.long y :: .long x :: st) h = ru 56 171 ls (.long (x + y) :: st) h) ∧
  (∀ (x0 x1 x2 x3 x4 x5 : Option Value) (v : Int64) (t : eL) (st : List Value) (h : eH), ru 56 171 (x0 :: x1 :: x2 :: x3 :: x4 :: x5 :: t) (.long v :: st) h = ru 56 173 (x0 :: x1 :: x2 :: eKl x3 :: some (.long v) :: none :: t) st h) ∧
  (∀ (v : Nat) (t : eL) (st : List Value) (h : eH), ru 56 173 (some (.ref v) :: t) st h = ru 56 174 (some (.ref v) :: t) (.ref v :: st) h) ∧
  (∀ (a : Nat) (ls : eL) (st : List Value) (h : eH), ru 56 174 ls (.ref a :: st) h = gF (h.1 a) 11 7 (fun v => ru 56 177 ls (v :: st) h)) ∧
  (∀ (x0 x1 x2 x3 x4 x5 x6 x7 x8 x9 x10 : Option Value) (v : Int32) (t : eL) (st : List Value) (h : eH), ru 56 177 (x0 :: x1 :: x2 :: x3 :: x4 :: x5 :: x6 :: x7 :: x8 :: x9 :: x10 :: some (.int v) :: t) st h = ru 56 179 (x0 :: x1 :: x2 :: x3 :: x4 :: x5 :: x6 :: x7 :: x8 :: x9 :: x10 :: some (.int v) :: t) (.int v :: st) h) ∧
  (∀ (i : Int32) (a : Nat) (ls : eL) (st : List Value) (h : eH), ru 56 179 ls (.int i :: .ref a :: st) h = aI (h.1 a) 2 i (fun v => ru 56 180 ls (.int v :: st) h)) ∧
  (∀ (x : Int32) (ls : eL) (st : List Value) (h : eH), ru 56 180 ls (.int x :: st) h = if x = 0 then ru 56 230 ls st h else ru 56 183 ls st h) ∧
  (∀ (x0 x1 x2 x3 x4 x5 : Option Value) (v : Int64) (t : eL) (st : List Value) (h : eH), ru 56 183 (x0 :: x1 :: x2 :: x3 :: x4 :: x5 :: some (.long v) :: t) st h = ru 56 185 (x0 :: x1 :: x2 :: x3 :: x4 :: x5 :: some (.long v) :: t) (.long v :: st) h) ∧
  (∀ (v : Nat) (t : eL) (st : List Value) (h : eH), ru 56 185 (some (.ref v) :: t) st h = ru 56 186 (some (.ref v) :: t) (.ref v :: st) h) ∧
  (∀ (a : Nat) (ls : eL) (st : List Value) (h : eH), ru 56 186 ls (.ref a :: st) h = gF (h.1 a) 11 14 (fun v => ru 56 189 ls (v :: st) h)) ∧
  (∀ (x0 x1 x2 x3 x4 x5 x6 x7 x8 x9 : Option Value) (v : Int32) (t : eL) (st : List Value) (h : eH), ru 56 189 (x0 :: x1 :: x2 :: x3 :: x4 :: x5 :: x6 :: x7 :: x8 :: x9 :: some (.int v) :: t) st h = ru 56 191 (x0 :: x1 :: x2 :: x3 :: x4 :: x5 :: x6 :: x7 :: x8 :: x9 :: some (.int v) :: t) (.int v :: st) h) ∧
  (∀ (i : Int32) (a : Nat) (ls : eL) (st : List Value) (h : eH), ru 56 191 ls (.int i :: .ref a :: st) h = aI (h.1 a) 0 i (fun v => ru 56 192 ls (.int v :: st) h)) ∧
  (∀ (x : Int32) (ls : eL) (st : List Value) (h : eH), ru 56 192 ls (.int x :: st) h = ru 56 193 ls (.long (x.toInt64) :: st) h) ∧
  (∀ (v : Nat) (t : eL) (st : List Value) (h : eH), ru 56 193 (some (.ref v) :: t) st h = ru 56 194 (some (.ref v) :: t) (.ref v :: st) h) ∧
  (∀ (a : Nat) (ls : eL) (st : List Value) (h : eH), ru 56 194 ls (.ref a :: st) h = gF (h.1 a) 11 5 (fun v => ru 56 197 ls (v :: st) h)) ∧
  (∀ (x0 x1 x2 x3 x4 x5 x6 x7 x8 x9 x10 : Option Value) (v : Int32) (t : eL) (st : List Value) (h : eH), ru 56 197 (x0 :: x1 :: x2 :: x3 :: x4 :: x5 :: x6 :: x7 :: x8 :: x9 :: x10 :: some (.int v) :: t) st h = ru 56 199 (x0 :: x1 :: x2 :: x3 :: x4 :: x5 :: x6 :: x7 :: x8 :: x9 :: x10 :: some (.int v) :: t) (.int v :: st) h) ∧
  (∀ (i : Int32) (a : Nat) (ls : eL) (st : List Value) (h : eH), ru 56 199 ls (.int i :: .ref a :: st) h = aI (h.1 a) 0 i (fun v => ru 56 200 ls (.int v :: st) h)) ∧
  (∀ (x : Int32) (ls : eL) (st : List Value) (h : eH), ru 56 200 ls (.int x :: st) h = ru 56 201 ls (.long (x.toInt64) :: st) h) ∧
  (∀ (x y : Int64) (ls : eL) (st : List Value) (h : eH), ru 56 201 ls (.long y :: .long x :: st) h = ru 56 202 ls (.long (x * y) :: st) h) ∧
  (∀ (x y : Int64) (ls : eL) (st : List Value) (h : eH), ru 56 202 ls (.long y :: .long x :: st) h = ru 56 203 ls (.long (x + y) :: st) h) ∧
  (∀ (x0 x1 x2 x3 x4 x5 x6 x7 : Option Value) (v : Int64) (t : eL) (st : List Value) (h : eH), ru 56 203 (x0 :: x1 :: x2 :: x3 :: x4 :: x5 :: x6 :: x7 :: t) (.long v :: st) h = ru 56 205 (x0 :: x1 :: x2 :: x3 :: x4 :: eKl x5 :: some (.long v) :: none :: t) st h) ∧
  (∀ (x0 x1 x2 x3 x4 x5 x6 x7 : Option Value) (v : Int64) (t : eL) (st : List Value) (h : eH), ru 56 205 (x0 :: x1 :: x2 :: x3 :: x4 :: x5 :: x6 :: x7 :: some (.long v) :: t) st h = ru 56 207 (x0 :: x1 :: x2 :: x3 :: x4 :: x5 :: x6 :: x7 :: some (.long v) :: t) (.long v :: st) h) ∧
  (∀ (v : Nat) (t : eL) (st : List Value) (h : eH), ru 56 207 (some (.ref v) :: t) st h = ru 56 208 (some (.ref v) :: t) (.ref v :: st) h) ∧
  (∀ (a : Nat) (ls : eL) (st : List Value) (h : eH), ru 56 208 ls (.ref a :: st) h = gF (h.1 a) 11 14 (fun v => ru 56 211 ls (v :: st) h)) ∧
  (∀ (x0 x1 x2 x3 x4 x5 x6 x7 x8 x9 : Option Value) (v : Int32) (t : eL) (st : List Value) (h : eH), ru 56 211 (x0 :: x1 :: x2 :: x3 :: x4 :: x5 :: x6 :: x7 :: x8 :: x9 :: some (.int v) :: t) st h = ru 56 213 (x0 :: x1 :: x2 :: x3 :: x4 :: x5 :: x6 :: x7 :: x8 :: x9 :: some (.int v) :: t) (.int v :: st) h) ∧
  (∀ (i : Int32) (a : Nat) (ls : eL) (st : List Value) (h : eH), ru 56 213 ls (.int i :: .ref a :: st) h = aI (h.1 a) 0 i (fun v => ru 56 214 ls (.int v :: st) h)) ∧
  (∀ (x : Int32) (ls : eL) (st : List Value) (h : eH), ru 56 214 ls (.int x :: st) h = ru 56 215 ls (.long (x.toInt64) :: st) h) ∧
  (∀ (v : Nat) (t : eL) (st : List Value) (h : eH), ru 56 215 (some (.ref v) :: t) st h = ru 56 216 (some (.ref v) :: t) (.ref v :: st) h) ∧
  (∀ (a : Nat) (ls : eL) (st : List Value) (h : eH), ru 56 216 ls (.ref a :: st) h = gF (h.1 a) 11 6 (fun v => ru 56 219 ls (v :: st) h)) ∧
  (∀ (x0 x1 x2 x3 x4 x5 x6 x7 x8 x9 x10 : Option Value) (v : Int32) (t : eL) (st : List Value) (h : eH), ru 56 219 (x0 :: x1 :: x2 :: x3 :: x4 :: x5 :: x6 :: x7 :: x8 :: x9 :: x10 :: some (.int v) :: t) st h = ru 56 221 (x0 :: x1 :: x2 :: x3 :: x4 :: x5 :: x6 :: x7 :: x8 :: x9 :: x10 :: some (.int v) :: t) (.int v :: st) h) ∧
  (∀ (i : Int32) (a : Nat) (ls : eL) (st : List Value) (h : eH), ru 56 221 ls (.int i :: .ref a :: st) h = aI (h.1 a) 0 i (fun v => ru 56 222 ls (.int v :: st) h)) ∧
  (∀ (x : Int32) (ls : eL) (st : List Value) (h : eH), ru 56 222 ls (.int x :: st) h = ru 56 223 ls (.long (x.toInt64) :: st) h) ∧
  (∀ (x y : Int64) (ls : eL) (st : List Value) (h : eH), ru 56 223 ls (.long y :: .long x :: st) h = ru 56 224 ls (.long (x * y) :: st) h) ∧
  (∀ (x y : Int64) (ls : eL) (st : List Value) (h : eH), ru 56 224 ls (.long y :: .long x :: st) h = ru 56 225 ls (.long (x + y) :: st) h) ∧
  (∀ (x0 x1 x2 x3 x4 x5 x6 x7 x8 x9 : Option Value) (v : Int64) (t : eL) (st : List Value) (h : eH), ru 56 225 (x0 :: x1 :: x2 :: x3 :: x4 :: x5 :: x6 :: x7 :: x8 :: x9 :: t) (.long v :: st) h = ru 56 227 (x0 :: x1 :: x2 :: x3 :: x4 :: x5 :: x6 :: eKl x7 :: some (.long v) :: none :: t) st h) ∧
  (∀ (ls : eL) (st : List Value) (h : eH), ru 56 227 ls st h = ru 56 261 ls st h) ∧
  (∀ (v : Nat) (t : eL) (st : List Value) (h : eH), ru 56 230 (some (.ref v) :: t) st h = ru 56 231 (some (.ref v) :: t) (.ref v :: st) h) ∧
  (∀ (ls : eL) (st : List Value) (h : eH), ru 56 231 ls st h = ru 56 232 ls (.int (nI 5) :: st) h) ∧
  (∀ (v : Nat) (t : eL) (st : List Value) (h : eH), ru 56 232 (some (.ref v) :: t) st h = ru 56 233 (some (.ref v) :: t) (.ref v :: st) h) ∧
  (∀ (a : Nat) (ls : eL) (st : List Value) (h : eH), ru 56 233 ls (.ref a :: st) h = gF (h.1 a) 11 14 (fun v => ru 56 236 ls (v :: st) h)) ∧
  (∀ (x0 x1 x2 x3 x4 x5 x6 x7 x8 x9 : Option Value) (v : Int32) (t : eL) (st : List Value) (h : eH), ru 56 236 (x0 :: x1 :: x2 :: x3 :: x4 :: x5 :: x6 :: x7 :: x8 :: x9 :: some (.int v) :: t) st h = ru 56 238 (x0 :: x1 :: x2 :: x3 :: x4 :: x5 :: x6 :: x7 :: x8 :: x9 :: some (.int v) :: t) (.int v :: st) h) ∧
  (∀ (i : Int32) (a : Nat) (ls : eL) (st : List Value) (h : eH), ru 56 238 ls (.int i :: .ref a :: st) h = aI (h.1 a) 0 i (fun v => ru 56 239 ls (.int v :: st) h)) ∧
  (∀ (x : Int32) (ls : eL) (st : List Value) (h : eH), ru 56 239 ls (.int x :: st) h = ru 56 240 ls (.int (-x) :: st) h) ∧
  (∀ (x : Int32) (ls : eL) (st : List Value) (h : eH), ru 56 240 ls (.int x :: st) h = ru 56 241 ls (.long (x.toInt64) :: st) h) ∧
  (∀ (a0 : Nat) (a1 : Int32) (a2 : Int64) (ls : eL) (h : eH), ru 56 241 ls [.long a2, .int a1, .ref a0] h = cl (den 12 [.ref a0, .int a1, .long a2] h) (fun v h => ru 56 244 ls (v.toList ++ []) h)) ∧
  (∀ (v : Nat) (t : eL) (st : List Value) (h : eH), ru 56 244 (some (.ref v) :: t) st h = ru 56 245 (some (.ref v) :: t) (.ref v :: st) h) ∧
  (∀ (v : Nat) (t : eL) (st : List Value) (h : eH), ru 56 245 (some (.ref v) :: t) st h = ru 56 246 (some (.ref v) :: t) (.ref v :: st) h) ∧
  (∀ (x0 x1 x2 : Option Value) (v : Int32) (t : eL) (st : List Value) (h : eH), ru 56 246 (x0 :: x1 :: x2 :: some (.int v) :: t) st h = ru 56 247 (x0 :: x1 :: x2 :: some (.int v) :: t) (.int v :: st) h) ∧
  (∀ (v : Nat) (t : eL) (st : List Value) (h : eH), ru 56 247 (some (.ref v) :: t) st h = ru 56 248 (some (.ref v) :: t) (.ref v :: st) h) ∧
  (∀ (x0 x1 x2 x3 x4 x5 x6 x7 x8 x9 x10 : Option Value) (v : Int32) (t : eL) (st : List Value) (h : eH), ru 56 248 (x0 :: x1 :: x2 :: x3 :: x4 :: x5 :: x6 :: x7 :: x8 :: x9 :: x10 :: some (.int v) :: t) st h = ru 56 250 (x0 :: x1 :: x2 :: x3 :: x4 :: x5 :: x6 :: x7 :: x8 :: x9 :: x10 :: some (.int v) :: t) (.int v :: st) h) ∧
  (∀ (a0 : Nat) (a1 : Int32) (u0 : Int32) (u1 : Nat) (u2 : Nat) (ls : eL) (h : eH), ru 56 250 ls [.int a1, .ref a0, .int u0, .ref u1, .ref u2] h = cl (den 13 [.ref a0, .int a1] h) (fun v h => ru 56 253 ls (v.toList ++ [.int u0, .ref u1, .ref u2]) h)) ∧
  (∀ (a0 : Nat) (a1 : Int32) (a2 : Int32) (u0 : Nat) (ls : eL) (h : eH), ru 56 253 ls [.int a2, .int a1, .ref a0, .ref u0] h = cl (den 21 [.ref a0, .int a1, .int a2] h) (fun v h => ru 56 256 ls (v.toList ++ [.ref u0]) h)) ∧
  (∀ (ls : eL) (st : List Value) (h : eH), ru 56 256 ls st h = ru 56 257 ls (.int (nI 5) :: st) h) ∧
  (∀ (ls : eL) (st : List Value) (h : eH), ru 56 257 ls st h = ru 56 258 ls (.long (lN 1) :: st) h) ∧
  (∀ (a0 : Nat) (a1 : Int32) (a2 : Int32) (a3 : Int64) (ls : eL) (h : eH), ru 56 258 ls [.long a3, .int a2, .int a1, .ref a0] h = cl (den 15 [.ref a0, .int a1, .int a2, .long a3] h) (fun v h => ru 56 261 ls (v.toList ++ []) h)) ∧
  (∀ (x0 x1 x2 x3 x4 x5 x6 x7 x8 x9 : Option Value) (v : Int32) (t : eL) (st : List Value) (h : eH), ru 56 261 (x0 :: x1 :: x2 :: x3 :: x4 :: x5 :: x6 :: x7 :: x8 :: x9 :: some (.int v) :: t) st h = ru 56 264 (x0 :: x1 :: x2 :: x3 :: x4 :: x5 :: x6 :: x7 :: x8 :: eKl x9 :: some (.int (v + 1)) :: t) st h) ∧
  (∀ (ls : eL) (st : List Value) (h : eH), ru 56 264 ls st h = ru 56 96 ls st h) ∧
  (∀ (ls : eL) (st : List Value) (h : eH), ru 56 268 ls st h = ru 56 269 ls (.int (nI 5) :: st) h) ∧
  (∀ (x0 x1 x2 x3 : Option Value) (v : Int64) (t : eL) (st : List Value) (h : eH), ru 56 269 (x0 :: x1 :: x2 :: x3 :: some (.long v) :: t) st h = ru 56 271 (x0 :: x1 :: x2 :: x3 :: some (.long v) :: t) (.long v :: st) h) ∧
  (∀ (a0 : Nat) (a1 : Int32) (a2 : Int64) (ls : eL) (h : eH), ru 56 271 ls [.long a2, .int a1, .ref a0] h = cl (den 12 [.ref a0, .int a1, .long a2] h) (fun v h => ru 56 274 ls (v.toList ++ []) h)) ∧
  (∀ (v : Nat) (t : eL) (st : List Value) (h : eH), ru 56 274 (some (.ref v) :: t) st h = ru 56 275 (some (.ref v) :: t) (.ref v :: st) h) ∧
  (∀ (v : Nat) (t : eL) (st : List Value) (h : eH), ru 56 275 (some (.ref v) :: t) st h = ru 56 276 (some (.ref v) :: t) (.ref v :: st) h) ∧
  (∀ (x0 x1 x2 : Option Value) (v : Int32) (t : eL) (st : List Value) (h : eH), ru 56 276 (x0 :: x1 :: x2 :: some (.int v) :: t) st h = ru 56 277 (x0 :: x1 :: x2 :: some (.int v) :: t) (.int v :: st) h) ∧
  (∀ (x0 x1 x2 : Option Value) (v : Int32) (t : eL) (st : List Value) (h : eH), ru 56 277 (x0 :: x1 :: x2 :: some (.int v) :: t) st h = ru 56 278 (x0 :: x1 :: x2 :: some (.int v) :: t) (.int v :: st) h) ∧
  (∀ (a0 : Nat) (a1 : Int32) (a2 : Int32) (u0 : Nat) (ls : eL) (h : eH), ru 56 278 ls [.int a2, .int a1, .ref a0, .ref u0] h = cl (den 21 [.ref a0, .int a1, .int a2] h) (fun v h => ru 56 281 ls (v.toList ++ [.ref u0]) h)) ∧
  (∀ (ls : eL) (st : List Value) (h : eH), ru 56 281 ls st h = ru 56 282 ls (.int (nI 5) :: st) h) ∧
  (∀ (ls : eL) (st : List Value) (h : eH), ru 56 282 ls st h = ru 56 283 ls (.long (lN 1) :: st) h) ∧
  (∀ (a0 : Nat) (a1 : Int32) (a2 : Int32) (a3 : Int64) (ls : eL) (h : eH), ru 56 283 ls [.long a3, .int a2, .int a1, .ref a0] h = cl (den 15 [.ref a0, .int a1, .int a2, .long a3] h) (fun v h => ru 56 286 ls (v.toList ++ []) h)) ∧
  (∀ (v : Nat) (t : eL) (st : List Value) (h : eH), ru 56 286 (some (.ref v) :: t) st h = ru 56 287 (some (.ref v) :: t) (.ref v :: st) h) ∧
  (∀ (v : Nat) (t : eL) (st : List Value) (h : eH), ru 56 287 (some (.ref v) :: t) st h = ru 56 288 (some (.ref v) :: t) (.ref v :: st) h) ∧
  (∀ (x0 x1 x2 : Option Value) (v : Int32) (t : eL) (st : List Value) (h : eH), ru 56 288 (x0 :: x1 :: x2 :: some (.int v) :: t) st h = ru 56 289 (x0 :: x1 :: x2 :: some (.int v) :: t) (.int v :: st) h) ∧
  (∀ (x0 : Option Value) (v : Int32) (t : eL) (st : List Value) (h : eH), ru 56 289 (x0 :: some (.int v) :: t) st h = ru 56 290 (x0 :: some (.int v) :: t) (.int v :: st) h) ∧
  (∀ (a0 : Nat) (a1 : Int32) (a2 : Int32) (u0 : Nat) (ls : eL) (h : eH), ru 56 290 ls [.int a2, .int a1, .ref a0, .ref u0] h = cl (den 21 [.ref a0, .int a1, .int a2] h) (fun v h => ru 56 293 ls (v.toList ++ [.ref u0]) h)) ∧
  (∀ (x0 x1 x2 x3 x4 x5 : Option Value) (v : Int64) (t : eL) (st : List Value) (h : eH), ru 56 293 (x0 :: x1 :: x2 :: x3 :: x4 :: x5 :: some (.long v) :: t) st h = ru 56 295 (x0 :: x1 :: x2 :: x3 :: x4 :: x5 :: some (.long v) :: t) (.long v :: st) h) ∧
  (∀ (a0 : Nat) (a1 : Int32) (a2 : Int64) (ls : eL) (h : eH), ru 56 295 ls [.long a2, .int a1, .ref a0] h = cl (den 12 [.ref a0, .int a1, .long a2] h) (fun v h => ru 56 298 ls (v.toList ++ []) h)) ∧
  (∀ (v : Nat) (t : eL) (st : List Value) (h : eH), ru 56 298 (some (.ref v) :: t) st h = ru 56 299 (some (.ref v) :: t) (.ref v :: st) h) ∧
  (∀ (v : Nat) (t : eL) (st : List Value) (h : eH), ru 56 299 (some (.ref v) :: t) st h = ru 56 300 (some (.ref v) :: t) (.ref v :: st) h) ∧
  (∀ (x0 x1 x2 : Option Value) (v : Int32) (t : eL) (st : List Value) (h : eH), ru 56 300 (x0 :: x1 :: x2 :: some (.int v) :: t) st h = ru 56 301 (x0 :: x1 :: x2 :: some (.int v) :: t) (.int v :: st) h) ∧
  (∀ (x0 : Option Value) (v : Int32) (t : eL) (st : List Value) (h : eH), ru 56 301 (x0 :: some (.int v) :: t) st h = ru 56 302 (x0 :: some (.int v) :: t) (.int v :: st) h) ∧
  (∀ (ls : eL) (st : List Value) (h : eH), ru 56 302 ls st h = ru 56 303 ls (.int (nI 1) :: st) h) ∧
  (∀ (x y : Int32) (ls : eL) (st : List Value) (h : eH), ru 56 303 ls (.int y :: .int x :: st) h = ru 56 304 ls (.int (x + y) :: st) h) ∧
  (∀ (a0 : Nat) (a1 : Int32) (a2 : Int32) (u0 : Nat) (ls : eL) (h : eH), ru 56 304 ls [.int a2, .int a1, .ref a0, .ref u0] h = cl (den 21 [.ref a0, .int a1, .int a2] h) (fun v h => ru 56 307 ls (v.toList ++ [.ref u0]) h)) ∧
  (∀ (x0 x1 x2 x3 x4 x5 x6 x7 : Option Value) (v : Int64) (t : eL) (st : List Value) (h : eH), ru 56 307 (x0 :: x1 :: x2 :: x3 :: x4 :: x5 :: x6 :: x7 :: some (.long v) :: t) st h = ru 56 309 (x0 :: x1 :: x2 :: x3 :: x4 :: x5 :: x6 :: x7 :: some (.long v) :: t) (.long v :: st) h) ∧
  (∀ (a0 : Nat) (a1 : Int32) (a2 : Int64) (ls : eL) (h : eH), ru 56 309 ls [.long a2, .int a1, .ref a0] h = cl (den 12 [.ref a0, .int a1, .long a2] h) (fun v h => ru 56 312 ls (v.toList ++ []) h)) ∧
  (∀ (x0 x1 : Option Value) (v : Int32) (t : eL) (st : List Value) (h : eH), ru 56 312 (x0 :: x1 :: some (.int v) :: t) st h = ru 56 315 (x0 :: eKl x1 :: some (.int (v + 1)) :: t) st h) ∧
  (∀ (ls : eL) (st : List Value) (h : eH), ru 56 315 ls st h = ru 56 19 ls st h) ∧
  (∀ (x0 : Option Value) (v : Int32) (t : eL) (st : List Value) (h : eH), ru 56 319 (x0 :: some (.int v) :: t) st h = ru 56 320 (x0 :: some (.int v) :: t) (.int v :: st) h) ∧
  (∀ (a0 : Nat) (a1 : Int32) (ls : eL) (h : eH), ru 56 320 ls [.int a1, .ref a0] h = cl (den 31 [.ref a0, .int a1] h) (fun v h => ru 56 323 ls (v.toList ++ []) h)) ∧
  (∀ (v : Nat) (t : eL) (st : List Value) (h : eH), ru 56 323 (some (.ref v) :: t) st h = ru 56 324 (some (.ref v) :: t) (.ref v :: st) h) ∧
  (∀ (a : Nat) (ls : eL) (st : List Value) (h : eH), ru 56 324 ls (.ref a :: st) h = gF (h.1 a) 11 21 (fun v => ru 56 327 ls (v :: st) h)) ∧
  (∀ (x0 : Option Value) (v : Int32) (t : eL) (st : List Value) (h : eH), ru 56 327 (x0 :: some (.int v) :: t) st h = ru 56 328 (x0 :: some (.int v) :: t) (.int v :: st) h) ∧
  (∀ (x y : Int32) (ls : eL) (st : List Value) (h : eH), ru 56 328 ls (.int y :: .int x :: st) h = if x = y then ru 56 331 ls st h else ru 56 335 ls st h) ∧
  (∀ (ls : eL) (st : List Value) (h : eH), ru 56 331 ls st h = ru 56 332 ls (.int (nI 1) :: st) h) ∧
  (∀ (ls : eL) (st : List Value) (h : eH), ru 56 332 ls st h = ru 56 336 ls st h) ∧
  (∀ (ls : eL) (st : List Value) (h : eH), ru 56 335 ls st h = ru 56 336 ls (.int (nI 0) :: st) h) ∧
  (∀ (x : Int32) (ls : eL) (h : eH), ru 56 336 ls [.int x] h = bo (x == 0 || x == 1) (some (some (.int x), h))) := ⟨fun v t st h => ru_go rfl rfl,
  fun a0 ls h => ru_inv rfl (by decide) rfl (Nat.le_of_ble_eq_true rfl),
  fun x0 x1 v t st h => ru_go rfl rfl,
  fun v t st h => ru_go rfl rfl,
  fun x0 v t st h => ru_go rfl rfl,
  fun v a ls st h => ru_putf rfl,
  fun v t st h => ru_go rfl rfl,
  fun x0 v t st h => ru_go rfl rfl,
  fun ls st h => ru_go rfl rfl,
  fun x y ls st h => ru_go rfl rfl,
  fun v a ls st h => ru_putf rfl,
  fun ls st h => ru_go rfl rfl,
  fun x0 x1 x2 v t st h => ru_go rfl rfl,
  fun v t st h => ru_go rfl rfl,
  fun a ls st h => ru_getf rfl,
  fun x y ls st h => ru_if rfl rfl,
  fun v t st h => ru_go rfl rfl,
  fun a ls st h => ru_getf rfl,
  fun x0 x1 v t st h => ru_go rfl rfl,
  fun i a ls st h => ru_zald rfl,
  fun x ls st h => ru_if rfl rfl,
  fun ls st h => ru_go rfl rfl,
  fun v t st h => ru_go rfl rfl,
  fun x0 x1 v t st h => ru_go rfl rfl,
  fun a0 a1 ls h => ru_inv rfl (by decide) rfl (Nat.le_of_ble_eq_true rfl),
  fun x0 x1 x2 x3 v t st h => ru_go rfl rfl,
  fun ls st h => ru_go rfl rfl,
  fun x0 x1 x2 x3 x4 x5 v t st h => ru_go rfl rfl,
  fun v t st h => ru_go rfl rfl,
  fun a ls st h => ru_getf rfl,
  fun x0 x1 v t st h => ru_go rfl rfl,
  fun i a ls st h => ru_iald rfl,
  fun x ls st h => ru_go rfl rfl,
  fun x0 x1 x2 x3 x4 x5 x6 x7 v t st h => ru_go rfl rfl,
  fun v t st h => ru_go rfl rfl,
  fun a ls st h => ru_getf rfl,
  fun x0 x1 v t st h => ru_go rfl rfl,
  fun i a ls st h => ru_iald rfl,
  fun x ls st h => ru_go rfl rfl,
  fun x0 x1 x2 x3 x4 x5 x6 x7 x8 x9 v t st h => ru_go rfl rfl,
  fun ls st h => ru_go rfl rfl,
  fun x0 x1 x2 x3 x4 x5 x6 x7 x8 x9 x10 v t st h => ru_go rfl rfl,
  fun x0 v t st h => ru_go rfl rfl,
  fun x y ls st h => ru_if rfl rfl,
  fun v t st h => ru_go rfl rfl,
  fun v t st h => ru_go rfl rfl,
  fun x0 x1 x2 v t st h => ru_go rfl rfl,
  fun x0 x1 x2 x3 x4 x5 x6 x7 x8 x9 v t st h => ru_go rfl rfl,
  fun a0 a1 a2 u0 ls h => ru_inv rfl (by decide) rfl (Nat.le_of_ble_eq_true rfl),
  fun ls st h => ru_go rfl rfl,
  fun a0 a1 a2 ls h => ru_inv rfl (by decide) rfl (Nat.le_of_ble_eq_true rfl),
  fun x0 x1 x2 x3 x4 x5 x6 x7 x8 x9 v t st h => ru_go rfl rfl,
  fun ls st h => ru_go rfl rfl,
  fun x0 x1 x2 x3 x4 x5 x6 x7 x8 x9 x10 v t st h => ru_go rfl rfl,
  fun v t st h => ru_go rfl rfl,
  fun a ls st h => ru_getf rfl,
  fun x y ls st h => ru_if rfl rfl,
  fun v t st h => ru_go rfl rfl,
  fun a ls st h => ru_getf rfl,
  fun x0 x1 x2 x3 x4 x5 x6 x7 x8 x9 v t st h => ru_go rfl rfl,
  fun i a ls st h => ru_iald rfl,
  fun x0 x1 v t st h => ru_go rfl rfl,
  fun x y ls st h => ru_if rfl rfl,
  fun v t st h => ru_go rfl rfl,
  fun a ls st h => ru_getf rfl,
  fun x0 x1 x2 x3 x4 x5 x6 x7 x8 x9 v t st h => ru_go rfl rfl,
  fun i a ls st h => ru_iald rfl,
  fun x0 x1 v t st h => ru_go rfl rfl,
  fun x y ls st h => ru_if rfl rfl,
  fun ls st h => ru_go rfl rfl,
  fun v t st h => ru_go rfl rfl,
  fun a ls st h => ru_getf rfl,
  fun x0 x1 x2 x3 x4 x5 x6 x7 x8 x9 v t st h => ru_go rfl rfl,
  fun i a ls st h => ru_iald rfl,
  fun x0 x1 v t st h => ru_go rfl rfl,
  fun x y ls st h => ru_if rfl rfl,
  fun v t st h => ru_go rfl rfl,
  fun a ls st h => ru_getf rfl,
  fun x0 x1 x2 x3 x4 x5 x6 x7 x8 x9 v t st h => ru_go rfl rfl,
  fun i a ls st h => ru_iald rfl,
  fun ls st h => ru_go rfl rfl,
  fun v t st h => ru_go rfl rfl,
  fun a ls st h => ru_getf rfl,
  fun x0 x1 x2 x3 x4 x5 x6 x7 x8 x9 v t st h => ru_go rfl rfl,
  fun i a ls st h => ru_iald rfl,
  fun x0 x1 x2 x3 x4 x5 x6 x7 x8 x9 x10 x11 v t st h => ru_go rfl rfl,
  fun x0 x1 x2 x3 v t st h => ru_go rfl rfl,
  fun v t st h => ru_go rfl rfl,
  fun a ls st h => ru_getf rfl,
  fun x0 x1 x2 x3 x4 x5 x6 x7 x8 x9 v t st h => ru_go rfl rfl,
  fun i a ls st h => ru_iald rfl,
  fun x ls st h => ru_go rfl rfl,
  fun x y ls st h => ru_go rfl rfl,
  fun x0 x1 x2 x3 x4 x5 v t st h => ru_go rfl rfl,
  fun v t st h => ru_go rfl rfl,
  fun a ls st h => ru_getf rfl,
  fun x0 x1 x2 x3 x4 x5 x6 x7 x8 x9 x10 v t st h => ru_go rfl rfl,
  fun i a ls st h => ru_zald rfl,
  fun x ls st h => ru_if rfl rfl,
  fun x0 x1 x2 x3 x4 x5 v t st h => ru_go rfl rfl,
  fun v t st h => ru_go rfl rfl,
  fun a ls st h => ru_getf rfl,
  fun x0 x1 x2 x3 x4 x5 x6 x7 x8 x9 v t st h => ru_go rfl rfl,
  fun i a ls st h => ru_iald rfl,
  fun x ls st h => ru_go rfl rfl,
  fun v t st h => ru_go rfl rfl,
  fun a ls st h => ru_getf rfl,
  fun x0 x1 x2 x3 x4 x5 x6 x7 x8 x9 x10 v t st h => ru_go rfl rfl,
  fun i a ls st h => ru_iald rfl,
  fun x ls st h => ru_go rfl rfl,
  fun x y ls st h => ru_go rfl rfl,
  fun x y ls st h => ru_go rfl rfl,
  fun x0 x1 x2 x3 x4 x5 x6 x7 v t st h => ru_go rfl rfl,
  fun x0 x1 x2 x3 x4 x5 x6 x7 v t st h => ru_go rfl rfl,
  fun v t st h => ru_go rfl rfl,
  fun a ls st h => ru_getf rfl,
  fun x0 x1 x2 x3 x4 x5 x6 x7 x8 x9 v t st h => ru_go rfl rfl,
  fun i a ls st h => ru_iald rfl,
  fun x ls st h => ru_go rfl rfl,
  fun v t st h => ru_go rfl rfl,
  fun a ls st h => ru_getf rfl,
  fun x0 x1 x2 x3 x4 x5 x6 x7 x8 x9 x10 v t st h => ru_go rfl rfl,
  fun i a ls st h => ru_iald rfl,
  fun x ls st h => ru_go rfl rfl,
  fun x y ls st h => ru_go rfl rfl,
  fun x y ls st h => ru_go rfl rfl,
  fun x0 x1 x2 x3 x4 x5 x6 x7 x8 x9 v t st h => ru_go rfl rfl,
  fun ls st h => ru_go rfl rfl,
  fun v t st h => ru_go rfl rfl,
  fun ls st h => ru_go rfl rfl,
  fun v t st h => ru_go rfl rfl,
  fun a ls st h => ru_getf rfl,
  fun x0 x1 x2 x3 x4 x5 x6 x7 x8 x9 v t st h => ru_go rfl rfl,
  fun i a ls st h => ru_iald rfl,
  fun x ls st h => ru_go rfl rfl,
  fun x ls st h => ru_go rfl rfl,
  fun a0 a1 a2 ls h => ru_inv rfl (by decide) rfl (Nat.le_of_ble_eq_true rfl),
  fun v t st h => ru_go rfl rfl,
  fun v t st h => ru_go rfl rfl,
  fun x0 x1 x2 v t st h => ru_go rfl rfl,
  fun v t st h => ru_go rfl rfl,
  fun x0 x1 x2 x3 x4 x5 x6 x7 x8 x9 x10 v t st h => ru_go rfl rfl,
  fun a0 a1 u0 u1 u2 ls h => ru_inv rfl (by decide) rfl (Nat.le_of_ble_eq_true rfl),
  fun a0 a1 a2 u0 ls h => ru_inv rfl (by decide) rfl (Nat.le_of_ble_eq_true rfl),
  fun ls st h => ru_go rfl rfl,
  fun ls st h => ru_go rfl rfl,
  fun a0 a1 a2 a3 ls h => ru_inv rfl (by decide) rfl (Nat.le_of_ble_eq_true rfl),
  fun x0 x1 x2 x3 x4 x5 x6 x7 x8 x9 v t st h => ru_go rfl rfl,
  fun ls st h => ru_go rfl rfl,
  fun ls st h => ru_go rfl rfl,
  fun x0 x1 x2 x3 v t st h => ru_go rfl rfl,
  fun a0 a1 a2 ls h => ru_inv rfl (by decide) rfl (Nat.le_of_ble_eq_true rfl),
  fun v t st h => ru_go rfl rfl,
  fun v t st h => ru_go rfl rfl,
  fun x0 x1 x2 v t st h => ru_go rfl rfl,
  fun x0 x1 x2 v t st h => ru_go rfl rfl,
  fun a0 a1 a2 u0 ls h => ru_inv rfl (by decide) rfl (Nat.le_of_ble_eq_true rfl),
  fun ls st h => ru_go rfl rfl,
  fun ls st h => ru_go rfl rfl,
  fun a0 a1 a2 a3 ls h => ru_inv rfl (by decide) rfl (Nat.le_of_ble_eq_true rfl),
  fun v t st h => ru_go rfl rfl,
  fun v t st h => ru_go rfl rfl,
  fun x0 x1 x2 v t st h => ru_go rfl rfl,
  fun x0 v t st h => ru_go rfl rfl,
  fun a0 a1 a2 u0 ls h => ru_inv rfl (by decide) rfl (Nat.le_of_ble_eq_true rfl),
  fun x0 x1 x2 x3 x4 x5 v t st h => ru_go rfl rfl,
  fun a0 a1 a2 ls h => ru_inv rfl (by decide) rfl (Nat.le_of_ble_eq_true rfl),
  fun v t st h => ru_go rfl rfl,
  fun v t st h => ru_go rfl rfl,
  fun x0 x1 x2 v t st h => ru_go rfl rfl,
  fun x0 v t st h => ru_go rfl rfl,
  fun ls st h => ru_go rfl rfl,
  fun x y ls st h => ru_go rfl rfl,
  fun a0 a1 a2 u0 ls h => ru_inv rfl (by decide) rfl (Nat.le_of_ble_eq_true rfl),
  fun x0 x1 x2 x3 x4 x5 x6 x7 v t st h => ru_go rfl rfl,
  fun a0 a1 a2 ls h => ru_inv rfl (by decide) rfl (Nat.le_of_ble_eq_true rfl),
  fun x0 x1 v t st h => ru_go rfl rfl,
  fun ls st h => ru_go rfl rfl,
  fun x0 v t st h => ru_go rfl rfl,
  fun a0 a1 ls h => ru_inv rfl (by decide) rfl (Nat.le_of_ble_eq_true rfl),
  fun v t st h => ru_go rfl rfl,
  fun a ls st h => ru_getf rfl,
  fun x0 v t st h => ru_go rfl rfl,
  fun x y ls st h => ru_if rfl rfl,
  fun ls st h => ru_go rfl rfl,
  fun ls st h => ru_go rfl rfl,
  fun ls st h => ru_go rfl rfl,
  fun x ls h => ru_bret rfl rfl⟩
theorem E56 (a0 : Nat) {h : eH} {fs : List Value} (ha : h.1 a0 = .inr (11, fs)) : den 56 [.ref a0] h = ru 56 0 [some (.ref a0), none, none, none, none, none, none, none, none, none, none, none] [] h := den_ob (Nat.le_of_ble_eq_true rfl) ha
/-! 57 X11_isSlot -/
set_option maxRecDepth 100000 in
theorem S57 : (∀ (v : Int32) (t : eL) (st : List Value) (h : eH), ru 57 0 (some (.int v) :: t) st h = ru 57 1 (some (.int v) :: t) (.int v :: st) h) ∧
  (∀ (x : Int32) (ls : eL) (st : List Value) (h : eH), ru 57 1 ls (.int x :: st) h = if x < 0 then ru 57 14 ls st h else ru 57 4 ls st h) ∧
  (∀ (v : Int32) (t : eL) (st : List Value) (h : eH), ru 57 4 (some (.int v) :: t) st h = ru 57 5 (some (.int v) :: t) (.int v :: st) h) ∧
  (∀ (ls : eL) (st : List Value) (h : eH), ru 57 5 ls st h = ru 57 7 ls (.int (nI 7) :: st) h) ∧
  (∀ (x y : Int32) (ls : eL) (st : List Value) (h : eH), ru 57 7 ls (.int y :: .int x :: st) h = if y < x then ru 57 14 ls st h else ru 57 10 ls st h) ∧
  (∀ (ls : eL) (st : List Value) (h : eH), ru 57 10 ls st h = ru 57 11 ls (.int (nI 1) :: st) h) ∧
  (∀ (ls : eL) (st : List Value) (h : eH), ru 57 11 ls st h = ru 57 15 ls st h) ∧
  (∀ (ls : eL) (st : List Value) (h : eH), ru 57 14 ls st h = ru 57 15 ls (.int (nI 0) :: st) h) ∧
  (∀ (x : Int32) (ls : eL) (h : eH), ru 57 15 ls [.int x] h = bo (x == 0 || x == 1) (some (some (.int x), h))) := ⟨fun v t st h => ru_go rfl rfl,
  fun x ls st h => ru_if rfl rfl,
  fun v t st h => ru_go rfl rfl,
  fun ls st h => ru_go rfl rfl,
  fun x y ls st h => ru_if rfl rfl,
  fun ls st h => ru_go rfl rfl,
  fun ls st h => ru_go rfl rfl,
  fun ls st h => ru_go rfl rfl,
  fun x ls h => ru_bret rfl rfl⟩
theorem E57 (a0 : Int32) (h : eH) : den 57 [.int a0] h = ru 57 0 [some (.int a0)] [] h := den_st rfl (Nat.le_of_ble_eq_true rfl)
/-! 58 X11_isTight -/
set_option maxRecDepth 100000 in
theorem H58_6 : (∀ (x0 x1 : Option Value) (v : Int32) (t : eL) (st : List Value) (h : eH), ru 58 6 (x0 :: x1 :: some (.int v) :: t) st h = ru 58 7 (x0 :: x1 :: some (.int v) :: t) (.int v :: st) h) := fun x0 x1 v t st h => ru_go rfl rfl
set_option maxRecDepth 100000 in
theorem H58_25 : (∀ (ls : eL) (st : List Value) (h : eH), ru 58 25 ls st h = ru 58 26 ls (.int (nI 0) :: st) h) := fun ls st h => ru_go rfl rfl
set_option maxRecDepth 100000 in
theorem H58_27 : (∀ (x0 x1 : Option Value) (v : Int32) (t : eL) (st : List Value) (h : eH), ru 58 27 (x0 :: x1 :: some (.int v) :: t) st h = ru 58 28 (x0 :: x1 :: some (.int v) :: t) (.int v :: st) h) := fun x0 x1 v t st h => ru_go rfl rfl
set_option maxRecDepth 100000 in
theorem H58_37 : (∀ (x0 x1 x2 : Option Value) (v : Int32) (t : eL) (st : List Value) (h : eH), ru 58 37 (x0 :: x1 :: x2 :: some (.int v) :: t) st h = ru 58 38 (x0 :: x1 :: x2 :: some (.int v) :: t) (.int v :: st) h) := fun x0 x1 x2 v t st h => ru_go rfl rfl
set_option maxRecDepth 100000 in
theorem H58_63 : (∀ (v : Nat) (t : eL) (st : List Value) (h : eH), ru 58 63 (some (.ref v) :: t) st h = ru 58 64 (some (.ref v) :: t) (.ref v :: st) h) := fun v t st h => ru_go rfl rfl
set_option maxRecDepth 100000 in
theorem H58_73 : (∀ (x0 x1 x2 : Option Value) (v : Int32) (t : eL) (st : List Value) (h : eH), ru 58 73 (x0 :: x1 :: x2 :: some (.int v) :: t) st h = ru 58 74 (x0 :: x1 :: x2 :: some (.int v) :: t) (.int v :: st) h) := fun x0 x1 x2 v t st h => ru_go rfl rfl
set_option maxRecDepth 100000 in
theorem H58_146 : (∀ (x0 x1 : Option Value) (v : Int32) (t : eL) (st : List Value) (h : eH), ru 58 146 (x0 :: x1 :: some (.int v) :: t) st h = ru 58 149 (x0 :: eKl x1 :: some (.int (v + 1)) :: t) st h) := fun x0 x1 v t st h => ru_go rfl rfl
set_option maxRecDepth 100000 in
theorem H58_152 : (∀ (ls : eL) (st : List Value) (h : eH), ru 58 152 ls st h = ru 58 153 ls (.int (nI 0) :: st) h) := fun ls st h => ru_go rfl rfl
set_option maxRecDepth 100000 in
theorem H58_154 : (∀ (x0 x1 : Option Value) (v : Int32) (t : eL) (st : List Value) (h : eH), ru 58 154 (x0 :: x1 :: some (.int v) :: t) st h = ru 58 155 (x0 :: x1 :: some (.int v) :: t) (.int v :: st) h) := fun x0 x1 v t st h => ru_go rfl rfl
set_option maxRecDepth 100000 in
theorem H58_179 : (∀ (ls : eL) (st : List Value) (h : eH), ru 58 179 ls st h = ru 58 180 ls (.int (nI 1) :: st) h) := fun ls st h => ru_go rfl rfl
set_option maxRecDepth 100000 in
theorem S58 : (∀ (ls : eL) (st : List Value) (h : eH), ru 58 0 ls st h = ru 58 3 ls (.int (nI 382) :: st) h) ∧
  (∀ (x0 x1 : Option Value) (v : Int32) (t : eL) (st : List Value) (h : eH), ru 58 3 (x0 :: x1 :: t) (.int v :: st) h = ru 58 4 (eKl x0 :: some (.int v) :: t) st h) ∧
  (∀ (ls : eL) (st : List Value) (h : eH), ru 58 4 ls st h = ru 58 5 ls (.int (nI 0) :: st) h) ∧
  (∀ (x0 x1 x2 : Option Value) (v : Int32) (t : eL) (st : List Value) (h : eH), ru 58 5 (x0 :: x1 :: x2 :: t) (.int v :: st) h = ru 58 6 (x0 :: eKl x1 :: some (.int v) :: t) st h) ∧
  (∀ (ls : eL) (st : List Value) (h : eH), ru 58 7 ls st h = ru 58 8 ls (.int (nI 3) :: st) h) ∧
  (∀ (x y : Int32) (ls : eL) (st : List Value) (h : eH), ru 58 8 ls (.int y :: .int x :: st) h = if y ≤ x then ru 58 25 ls st h else ru 58 11 ls st h) ∧
  (∀ (v : Nat) (t : eL) (st : List Value) (h : eH), ru 58 11 (some (.ref v) :: t) st h = ru 58 12 (some (.ref v) :: t) (.ref v :: st) h) ∧
  (∀ (x0 : Option Value) (v : Int32) (t : eL) (st : List Value) (h : eH), ru 58 12 (x0 :: some (.int v) :: t) st h = ru 58 13 (x0 :: some (.int v) :: t) (.int v :: st) h) ∧
  (∀ (x0 x1 : Option Value) (v : Int32) (t : eL) (st : List Value) (h : eH), ru 58 13 (x0 :: x1 :: some (.int v) :: t) st h = ru 58 14 (x0 :: x1 :: some (.int v) :: t) (.int v :: st) h) ∧
  (∀ (x y : Int32) (ls : eL) (st : List Value) (h : eH), ru 58 14 ls (.int y :: .int x :: st) h = ru 58 15 ls (.int (x + y) :: st) h) ∧
  (∀ (ls : eL) (st : List Value) (h : eH), ru 58 15 ls st h = ru 58 16 ls (.long (lN 0) :: st) h) ∧
  (∀ (a0 : Nat) (a1 : Int32) (a2 : Int64) (ls : eL) (h : eH), ru 58 16 ls [.long a2, .int a1, .ref a0] h = cl (den 12 [.ref a0, .int a1, .long a2] h) (fun v h => ru 58 19 ls (v.toList ++ []) h)) ∧
  (∀ (x0 x1 : Option Value) (v : Int32) (t : eL) (st : List Value) (h : eH), ru 58 19 (x0 :: x1 :: some (.int v) :: t) st h = ru 58 22 (x0 :: eKl x1 :: some (.int (v + 1)) :: t) st h) ∧
  (∀ (ls : eL) (st : List Value) (h : eH), ru 58 22 ls st h = ru 58 6 ls st h) ∧
  (∀ (x0 x1 x2 : Option Value) (v : Int32) (t : eL) (st : List Value) (h : eH), ru 58 26 (x0 :: x1 :: x2 :: t) (.int v :: st) h = ru 58 27 (x0 :: eKl x1 :: some (.int v) :: t) st h) ∧
  (∀ (v : Nat) (t : eL) (st : List Value) (h : eH), ru 58 28 (some (.ref v) :: t) st h = ru 58 29 (some (.ref v) :: t) (.ref v :: st) h) ∧
  (∀ (a : Nat) (ls : eL) (st : List Value) (h : eH), ru 58 29 ls (.ref a :: st) h = gF (h.1 a) 11 23 (fun v => ru 58 32 ls (v :: st) h)) ∧
  (∀ (x y : Int32) (ls : eL) (st : List Value) (h : eH), ru 58 32 ls (.int y :: .int x :: st) h = if y ≤ x then ru 58 152 ls st h else ru 58 35 ls st h) ∧
  (∀ (ls : eL) (st : List Value) (h : eH), ru 58 35 ls st h = ru 58 36 ls (.int (nI 0) :: st) h) ∧
  (∀ (x0 x1 x2 x3 : Option Value) (v : Int32) (t : eL) (st : List Value) (h : eH), ru 58 36 (x0 :: x1 :: x2 :: x3 :: t) (.int v :: st) h = ru 58 37 (x0 :: x1 :: eKl x2 :: some (.int v) :: t) st h) ∧
  (∀ (ls : eL) (st : List Value) (h : eH), ru 58 38 ls st h = ru 58 39 ls (.int (nI 3) :: st) h) ∧
  (∀ (x y : Int32) (ls : eL) (st : List Value) (h : eH), ru 58 39 ls (.int y :: .int x :: st) h = if y ≤ x then ru 58 63 ls st h else ru 58 42 ls st h) ∧
  (∀ (v : Nat) (t : eL) (st : List Value) (h : eH), ru 58 42 (some (.ref v) :: t) st h = ru 58 43 (some (.ref v) :: t) (.ref v :: st) h) ∧
  (∀ (ls : eL) (st : List Value) (h : eH), ru 58 43 ls st h = ru 58 46 ls (.int (nI 385) :: st) h) ∧
  (∀ (x0 x1 x2 : Option Value) (v : Int32) (t : eL) (st : List Value) (h : eH), ru 58 46 (x0 :: x1 :: x2 :: some (.int v) :: t) st h = ru 58 47 (x0 :: x1 :: x2 :: some (.int v) :: t) (.int v :: st) h) ∧
  (∀ (x y : Int32) (ls : eL) (st : List Value) (h : eH), ru 58 47 ls (.int y :: .int x :: st) h = ru 58 48 ls (.int (x + y) :: st) h) ∧
  (∀ (v : Nat) (t : eL) (st : List Value) (h : eH), ru 58 48 (some (.ref v) :: t) st h = ru 58 49 (some (.ref v) :: t) (.ref v :: st) h) ∧
  (∀ (x0 x1 : Option Value) (v : Int32) (t : eL) (st : List Value) (h : eH), ru 58 49 (x0 :: x1 :: some (.int v) :: t) st h = ru 58 50 (x0 :: x1 :: some (.int v) :: t) (.int v :: st) h) ∧
  (∀ (x0 x1 x2 : Option Value) (v : Int32) (t : eL) (st : List Value) (h : eH), ru 58 50 (x0 :: x1 :: x2 :: some (.int v) :: t) st h = ru 58 51 (x0 :: x1 :: x2 :: some (.int v) :: t) (.int v :: st) h) ∧
  (∀ (a0 : Nat) (a1 : Int32) (a2 : Int32) (u0 : Int32) (u1 : Nat) (ls : eL) (h : eH), ru 58 51 ls [.int a2, .int a1, .ref a0, .int u0, .ref u1] h = cl (den 41 [.ref a0, .int a1, .int a2] h) (fun v h => ru 58 54 ls (v.toList ++ [.int u0, .ref u1]) h)) ∧
  (∀ (a0 : Nat) (a1 : Int32) (a2 : Int32) (ls : eL) (h : eH), ru 58 54 ls [.int a2, .int a1, .ref a0] h = cl (den 20 [.ref a0, .int a1, .int a2] h) (fun v h => ru 58 57 ls (v.toList ++ []) h)) ∧
  (∀ (x0 x1 x2 : Option Value) (v : Int32) (t : eL) (st : List Value) (h : eH), ru 58 57 (x0 :: x1 :: x2 :: some (.int v) :: t) st h = ru 58 60 (x0 :: x1 :: eKl x2 :: some (.int (v + 1)) :: t) st h) ∧
  (∀ (ls : eL) (st : List Value) (h : eH), ru 58 60 ls st h = ru 58 37 ls st h) ∧
  (∀ (ls : eL) (st : List Value) (h : eH), ru 58 64 ls st h = ru 58 67 ls (.int (nI 385) :: st) h) ∧
  (∀ (x0 : Option Value) (v : Int32) (t : eL) (st : List Value) (h : eH), ru 58 67 (x0 :: some (.int v) :: t) st h = ru 58 68 (x0 :: some (.int v) :: t) (.int v :: st) h) ∧
  (∀ (a0 : Nat) (a1 : Int32) (a2 : Int32) (ls : eL) (h : eH), ru 58 68 ls [.int a2, .int a1, .ref a0] h = cl (den 45 [.ref a0, .int a1, .int a2] h) (fun v h => ru 58 71 ls (v.toList ++ []) h)) ∧
  (∀ (ls : eL) (st : List Value) (h : eH), ru 58 71 ls st h = ru 58 72 ls (.int (nI 0) :: st) h) ∧
  (∀ (x0 x1 x2 x3 : Option Value) (v : Int32) (t : eL) (st : List Value) (h : eH), ru 58 72 (x0 :: x1 :: x2 :: x3 :: t) (.int v :: st) h = ru 58 73 (x0 :: x1 :: eKl x2 :: some (.int v) :: t) st h) ∧
  (∀ (v : Nat) (t : eL) (st : List Value) (h : eH), ru 58 74 (some (.ref v) :: t) st h = ru 58 75 (some (.ref v) :: t) (.ref v :: st) h) ∧
  (∀ (a : Nat) (ls : eL) (st : List Value) (h : eH), ru 58 75 ls (.ref a :: st) h = gF (h.1 a) 11 23 (fun v => ru 58 78 ls (v :: st) h)) ∧
  (∀ (x y : Int32) (ls : eL) (st : List Value) (h : eH), ru 58 78 ls (.int y :: .int x :: st) h = if y ≤ x then ru 58 146 ls st h else ru 58 81 ls st h) ∧
  (∀ (x0 x1 : Option Value) (v : Int32) (t : eL) (st : List Value) (h : eH), ru 58 81 (x0 :: x1 :: some (.int v) :: t) st h = ru 58 82 (x0 :: x1 :: some (.int v) :: t) (.int v :: st) h) ∧
  (∀ (x0 x1 x2 : Option Value) (v : Int32) (t : eL) (st : List Value) (h : eH), ru 58 82 (x0 :: x1 :: x2 :: some (.int v) :: t) st h = ru 58 83 (x0 :: x1 :: x2 :: some (.int v) :: t) (.int v :: st) h) ∧
  (∀ (x y : Int32) (ls : eL) (st : List Value) (h : eH), ru 58 83 ls (.int y :: .int x :: st) h = if x = y then ru 58 86 ls st h else ru 58 89 ls st h) ∧
  (∀ (ls : eL) (st : List Value) (h : eH), ru 58 86 ls st h = ru 58 140 ls st h) ∧
  (∀ (v : Nat) (t : eL) (st : List Value) (h : eH), ru 58 89 (some (.ref v) :: t) st h = ru 58 90 (some (.ref v) :: t) (.ref v :: st) h) ∧
  (∀ (ls : eL) (st : List Value) (h : eH), ru 58 90 ls st h = ru 58 93 ls (.int (nI 388) :: st) h) ∧
  (∀ (v : Nat) (t : eL) (st : List Value) (h : eH), ru 58 93 (some (.ref v) :: t) st h = ru 58 94 (some (.ref v) :: t) (.ref v :: st) h) ∧
  (∀ (x0 x1 : Option Value) (v : Int32) (t : eL) (st : List Value) (h : eH), ru 58 94 (x0 :: x1 :: some (.int v) :: t) st h = ru 58 95 (x0 :: x1 :: some (.int v) :: t) (.int v :: st) h) ∧
  (∀ (ls : eL) (st : List Value) (h : eH), ru 58 95 ls st h = ru 58 96 ls (.int (nI 0) :: st) h) ∧
  (∀ (a0 : Nat) (a1 : Int32) (a2 : Int32) (u0 : Int32) (u1 : Nat) (ls : eL) (h : eH), ru 58 96 ls [.int a2, .int a1, .ref a0, .int u0, .ref u1] h = cl (den 41 [.ref a0, .int a1, .int a2] h) (fun v h => ru 58 99 ls (v.toList ++ [.int u0, .ref u1]) h)) ∧
  (∀ (v : Nat) (t : eL) (st : List Value) (h : eH), ru 58 99 (some (.ref v) :: t) st h = ru 58 100 (some (.ref v) :: t) (.ref v :: st) h) ∧
  (∀ (x0 x1 x2 : Option Value) (v : Int32) (t : eL) (st : List Value) (h : eH), ru 58 100 (x0 :: x1 :: x2 :: some (.int v) :: t) st h = ru 58 101 (x0 :: x1 :: x2 :: some (.int v) :: t) (.int v :: st) h) ∧
  (∀ (ls : eL) (st : List Value) (h : eH), ru 58 101 ls st h = ru 58 102 ls (.int (nI 0) :: st) h) ∧
  (∀ (a0 : Nat) (a1 : Int32) (a2 : Int32) (u0 : Int32) (u1 : Int32) (u2 : Nat) (ls : eL) (h : eH), ru 58 102 ls [.int a2, .int a1, .ref a0, .int u0, .int u1, .ref u2] h = cl (den 41 [.ref a0, .int a1, .int a2] h) (fun v h => ru 58 105 ls (v.toList ++ [.int u0, .int u1, .ref u2]) h)) ∧
  (∀ (a0 : Nat) (a1 : Int32) (a2 : Int32) (a3 : Int32) (ls : eL) (h : eH), ru 58 105 ls [.int a3, .int a2, .int a1, .ref a0] h = cl (den 47 [.ref a0, .int a1, .int a2, .int a3] h) (fun v h => ru 58 108 ls (v.toList ++ []) h)) ∧
  (∀ (v : Nat) (t : eL) (st : List Value) (h : eH), ru 58 108 (some (.ref v) :: t) st h = ru 58 109 (some (.ref v) :: t) (.ref v :: st) h) ∧
  (∀ (ls : eL) (st : List Value) (h : eH), ru 58 109 ls st h = ru 58 112 ls (.int (nI 391) :: st) h) ∧
  (∀ (v : Nat) (t : eL) (st : List Value) (h : eH), ru 58 112 (some (.ref v) :: t) st h = ru 58 113 (some (.ref v) :: t) (.ref v :: st) h) ∧
  (∀ (x0 x1 : Option Value) (v : Int32) (t : eL) (st : List Value) (h : eH), ru 58 113 (x0 :: x1 :: some (.int v) :: t) st h = ru 58 114 (x0 :: x1 :: some (.int v) :: t) (.int v :: st) h) ∧
  (∀ (ls : eL) (st : List Value) (h : eH), ru 58 114 ls st h = ru 58 115 ls (.int (nI 0) :: st) h) ∧
  (∀ (a0 : Nat) (a1 : Int32) (a2 : Int32) (u0 : Int32) (u1 : Nat) (ls : eL) (h : eH), ru 58 115 ls [.int a2, .int a1, .ref a0, .int u0, .ref u1] h = cl (den 41 [.ref a0, .int a1, .int a2] h) (fun v h => ru 58 118 ls (v.toList ++ [.int u0, .ref u1]) h)) ∧
  (∀ (ls : eL) (st : List Value) (h : eH), ru 58 118 ls st h = ru 58 121 ls (.int (nI 388) :: st) h) ∧
  (∀ (a0 : Nat) (a1 : Int32) (a2 : Int32) (a3 : Int32) (ls : eL) (h : eH), ru 58 121 ls [.int a3, .int a2, .int a1, .ref a0] h = cl (den 47 [.ref a0, .int a1, .int a2, .int a3] h) (fun v h => ru 58 124 ls (v.toList ++ []) h)) ∧
  (∀ (v : Nat) (t : eL) (st : List Value) (h : eH), ru 58 124 (some (.ref v) :: t) st h = ru 58 125 (some (.ref v) :: t) (.ref v :: st) h) ∧
  (∀ (ls : eL) (st : List Value) (h : eH), ru 58 125 ls st h = ru 58 128 ls (.int (nI 388) :: st) h) ∧
  (∀ (x0 : Option Value) (v : Int32) (t : eL) (st : List Value) (h : eH), ru 58 128 (x0 :: some (.int v) :: t) st h = ru 58 129 (x0 :: some (.int v) :: t) (.int v :: st) h) ∧
  (∀ (a0 : Nat) (a1 : Int32) (a2 : Int32) (ls : eL) (h : eH), ru 58 129 ls [.int a2, .int a1, .ref a0] h = cl (den 45 [.ref a0, .int a1, .int a2] h) (fun v h => ru 58 132 ls (v.toList ++ []) h)) ∧
  (∀ (v : Nat) (t : eL) (st : List Value) (h : eH), ru 58 132 (some (.ref v) :: t) st h = ru 58 133 (some (.ref v) :: t) (.ref v :: st) h) ∧
  (∀ (ls : eL) (st : List Value) (h : eH), ru 58 133 ls st h = ru 58 136 ls (.int (nI 391) :: st) h) ∧
  (∀ (x0 : Option Value) (v : Int32) (t : eL) (st : List Value) (h : eH), ru 58 136 (x0 :: some (.int v) :: t) st h = ru 58 137 (x0 :: some (.int v) :: t) (.int v :: st) h) ∧
  (∀ (a0 : Nat) (a1 : Int32) (a2 : Int32) (ls : eL) (h : eH), ru 58 137 ls [.int a2, .int a1, .ref a0] h = cl (den 45 [.ref a0, .int a1, .int a2] h) (fun v h => ru 58 140 ls (v.toList ++ []) h)) ∧
  (∀ (x0 x1 x2 : Option Value) (v : Int32) (t : eL) (st : List Value) (h : eH), ru 58 140 (x0 :: x1 :: x2 :: some (.int v) :: t) st h = ru 58 143 (x0 :: x1 :: eKl x2 :: some (.int (v + 1)) :: t) st h) ∧
  (∀ (ls : eL) (st : List Value) (h : eH), ru 58 143 ls st h = ru 58 73 ls st h) ∧
  (∀ (ls : eL) (st : List Value) (h : eH), ru 58 149 ls st h = ru 58 27 ls st h) ∧
  (∀ (x0 x1 x2 : Option Value) (v : Int32) (t : eL) (st : List Value) (h : eH), ru 58 153 (x0 :: x1 :: x2 :: t) (.int v :: st) h = ru 58 154 (x0 :: eKl x1 :: some (.int v) :: t) st h) ∧
  (∀ (v : Nat) (t : eL) (st : List Value) (h : eH), ru 58 155 (some (.ref v) :: t) st h = ru 58 156 (some (.ref v) :: t) (.ref v :: st) h) ∧
  (∀ (a : Nat) (ls : eL) (st : List Value) (h : eH), ru 58 156 ls (.ref a :: st) h = gF (h.1 a) 11 23 (fun v => ru 58 159 ls (v :: st) h)) ∧
  (∀ (x y : Int32) (ls : eL) (st : List Value) (h : eH), ru 58 159 ls (.int y :: .int x :: st) h = if y ≤ x then ru 58 179 ls st h else ru 58 162 ls st h) ∧
  (∀ (v : Nat) (t : eL) (st : List Value) (h : eH), ru 58 162 (some (.ref v) :: t) st h = ru 58 163 (some (.ref v) :: t) (.ref v :: st) h) ∧
  (∀ (x0 x1 : Option Value) (v : Int32) (t : eL) (st : List Value) (h : eH), ru 58 163 (x0 :: x1 :: some (.int v) :: t) st h = ru 58 164 (x0 :: x1 :: some (.int v) :: t) (.int v :: st) h) ∧
  (∀ (x0 : Option Value) (v : Int32) (t : eL) (st : List Value) (h : eH), ru 58 164 (x0 :: some (.int v) :: t) st h = ru 58 165 (x0 :: some (.int v) :: t) (.int v :: st) h) ∧
  (∀ (a0 : Nat) (a1 : Int32) (a2 : Int32) (ls : eL) (h : eH), ru 58 165 ls [.int a2, .int a1, .ref a0] h = cl (den 43 [.ref a0, .int a1, .int a2] h) (fun v h => ru 58 168 ls (v.toList ++ []) h)) ∧
  (∀ (x : Int32) (ls : eL) (st : List Value) (h : eH), ru 58 168 ls (.int x :: st) h = if 0 < x then ru 58 173 ls st h else ru 58 171 ls st h) ∧
  (∀ (ls : eL) (st : List Value) (h : eH), ru 58 171 ls st h = ru 58 172 ls (.int (nI 0) :: st) h) ∧
  (∀ (x : Int32) (ls : eL) (h : eH), ru 58 172 ls [.int x] h = bo (x == 0 || x == 1) (some (some (.int x), h))) ∧
  (∀ (x0 x1 : Option Value) (v : Int32) (t : eL) (st : List Value) (h : eH), ru 58 173 (x0 :: x1 :: some (.int v) :: t) st h = ru 58 176 (x0 :: eKl x1 :: some (.int (v + 1)) :: t) st h) ∧
  (∀ (ls : eL) (st : List Value) (h : eH), ru 58 176 ls st h = ru 58 154 ls st h) ∧
  (∀ (x : Int32) (ls : eL) (h : eH), ru 58 180 ls [.int x] h = bo (x == 0 || x == 1) (some (some (.int x), h))) := ⟨fun ls st h => ru_go rfl rfl,
  fun x0 x1 v t st h => ru_go rfl rfl,
  fun ls st h => ru_go rfl rfl,
  fun x0 x1 x2 v t st h => ru_go rfl rfl,
  fun ls st h => ru_go rfl rfl,
  fun x y ls st h => ru_if rfl rfl,
  fun v t st h => ru_go rfl rfl,
  fun x0 v t st h => ru_go rfl rfl,
  fun x0 x1 v t st h => ru_go rfl rfl,
  fun x y ls st h => ru_go rfl rfl,
  fun ls st h => ru_go rfl rfl,
  fun a0 a1 a2 ls h => ru_inv rfl (by decide) rfl (Nat.le_of_ble_eq_true rfl),
  fun x0 x1 v t st h => ru_go rfl rfl,
  fun ls st h => ru_go rfl rfl,
  fun x0 x1 x2 v t st h => ru_go rfl rfl,
  fun v t st h => ru_go rfl rfl,
  fun a ls st h => ru_getf rfl,
  fun x y ls st h => ru_if rfl rfl,
  fun ls st h => ru_go rfl rfl,
  fun x0 x1 x2 x3 v t st h => ru_go rfl rfl,
  fun ls st h => ru_go rfl rfl,
  fun x y ls st h => ru_if rfl rfl,
  fun v t st h => ru_go rfl rfl,
  fun ls st h => ru_go rfl rfl,
  fun x0 x1 x2 v t st h => ru_go rfl rfl,
  fun x y ls st h => ru_go rfl rfl,
  fun v t st h => ru_go rfl rfl,
  fun x0 x1 v t st h => ru_go rfl rfl,
  fun x0 x1 x2 v t st h => ru_go rfl rfl,
  fun a0 a1 a2 u0 u1 ls h => ru_inv rfl (by decide) rfl (Nat.le_of_ble_eq_true rfl),
  fun a0 a1 a2 ls h => ru_inv rfl (by decide) rfl (Nat.le_of_ble_eq_true rfl),
  fun x0 x1 x2 v t st h => ru_go rfl rfl,
  fun ls st h => ru_go rfl rfl,
  fun ls st h => ru_go rfl rfl,
  fun x0 v t st h => ru_go rfl rfl,
  fun a0 a1 a2 ls h => ru_inv rfl (by decide) rfl (Nat.le_of_ble_eq_true rfl),
  fun ls st h => ru_go rfl rfl,
  fun x0 x1 x2 x3 v t st h => ru_go rfl rfl,
  fun v t st h => ru_go rfl rfl,
  fun a ls st h => ru_getf rfl,
  fun x y ls st h => ru_if rfl rfl,
  fun x0 x1 v t st h => ru_go rfl rfl,
  fun x0 x1 x2 v t st h => ru_go rfl rfl,
  fun x y ls st h => ru_if rfl rfl,
  fun ls st h => ru_go rfl rfl,
  fun v t st h => ru_go rfl rfl,
  fun ls st h => ru_go rfl rfl,
  fun v t st h => ru_go rfl rfl,
  fun x0 x1 v t st h => ru_go rfl rfl,
  fun ls st h => ru_go rfl rfl,
  fun a0 a1 a2 u0 u1 ls h => ru_inv rfl (by decide) rfl (Nat.le_of_ble_eq_true rfl),
  fun v t st h => ru_go rfl rfl,
  fun x0 x1 x2 v t st h => ru_go rfl rfl,
  fun ls st h => ru_go rfl rfl,
  fun a0 a1 a2 u0 u1 u2 ls h => ru_inv rfl (by decide) rfl (Nat.le_of_ble_eq_true rfl),
  fun a0 a1 a2 a3 ls h => ru_inv rfl (by decide) rfl (Nat.le_of_ble_eq_true rfl),
  fun v t st h => ru_go rfl rfl,
  fun ls st h => ru_go rfl rfl,
  fun v t st h => ru_go rfl rfl,
  fun x0 x1 v t st h => ru_go rfl rfl,
  fun ls st h => ru_go rfl rfl,
  fun a0 a1 a2 u0 u1 ls h => ru_inv rfl (by decide) rfl (Nat.le_of_ble_eq_true rfl),
  fun ls st h => ru_go rfl rfl,
  fun a0 a1 a2 a3 ls h => ru_inv rfl (by decide) rfl (Nat.le_of_ble_eq_true rfl),
  fun v t st h => ru_go rfl rfl,
  fun ls st h => ru_go rfl rfl,
  fun x0 v t st h => ru_go rfl rfl,
  fun a0 a1 a2 ls h => ru_inv rfl (by decide) rfl (Nat.le_of_ble_eq_true rfl),
  fun v t st h => ru_go rfl rfl,
  fun ls st h => ru_go rfl rfl,
  fun x0 v t st h => ru_go rfl rfl,
  fun a0 a1 a2 ls h => ru_inv rfl (by decide) rfl (Nat.le_of_ble_eq_true rfl),
  fun x0 x1 x2 v t st h => ru_go rfl rfl,
  fun ls st h => ru_go rfl rfl,
  fun ls st h => ru_go rfl rfl,
  fun x0 x1 x2 v t st h => ru_go rfl rfl,
  fun v t st h => ru_go rfl rfl,
  fun a ls st h => ru_getf rfl,
  fun x y ls st h => ru_if rfl rfl,
  fun v t st h => ru_go rfl rfl,
  fun x0 x1 v t st h => ru_go rfl rfl,
  fun x0 v t st h => ru_go rfl rfl,
  fun a0 a1 a2 ls h => ru_inv rfl (by decide) rfl (Nat.le_of_ble_eq_true rfl),
  fun x ls st h => ru_if rfl rfl,
  fun ls st h => ru_go rfl rfl,
  fun x ls h => ru_bret rfl rfl,
  fun x0 x1 v t st h => ru_go rfl rfl,
  fun ls st h => ru_go rfl rfl,
  fun x ls h => ru_bret rfl rfl⟩
theorem E58 (a0 : Nat) {h : eH} {fs : List Value} (ha : h.1 a0 = .inr (11, fs)) : den 58 [.ref a0] h = ru 58 0 [some (.ref a0), none, none, none] [] h := den_ob (Nat.le_of_ble_eq_true rfl) ha
/-! 59 X11_isTold -/
set_option maxRecDepth 100000 in
theorem S59 : (∀ (v : Int32) (t : eL) (st : List Value) (h : eH), ru 59 0 (some (.int v) :: t) st h = ru 59 1 (some (.int v) :: t) (.int v :: st) h) ∧
  (∀ (ls : eL) (st : List Value) (h : eH), ru 59 1 ls st h = ru 59 4 ls (.int ((-1000)) :: st) h) ∧
  (∀ (x y : Int32) (ls : eL) (st : List Value) (h : eH), ru 59 4 ls (.int y :: .int x :: st) h = if x < y then ru 59 18 ls st h else ru 59 7 ls st h) ∧
  (∀ (v : Int32) (t : eL) (st : List Value) (h : eH), ru 59 7 (some (.int v) :: t) st h = ru 59 8 (some (.int v) :: t) (.int v :: st) h) ∧
  (∀ (ls : eL) (st : List Value) (h : eH), ru 59 8 ls st h = ru 59 11 ls (.int (nI 1000) :: st) h) ∧
  (∀ (x y : Int32) (ls : eL) (st : List Value) (h : eH), ru 59 11 ls (.int y :: .int x :: st) h = if y < x then ru 59 18 ls st h else ru 59 14 ls st h) ∧
  (∀ (ls : eL) (st : List Value) (h : eH), ru 59 14 ls st h = ru 59 15 ls (.int (nI 1) :: st) h) ∧
  (∀ (ls : eL) (st : List Value) (h : eH), ru 59 15 ls st h = ru 59 19 ls st h) ∧
  (∀ (ls : eL) (st : List Value) (h : eH), ru 59 18 ls st h = ru 59 19 ls (.int (nI 0) :: st) h) ∧
  (∀ (x : Int32) (ls : eL) (h : eH), ru 59 19 ls [.int x] h = bo (x == 0 || x == 1) (some (some (.int x), h))) := ⟨fun v t st h => ru_go rfl rfl,
  fun ls st h => ru_go rfl rfl,
  fun x y ls st h => ru_if rfl rfl,
  fun v t st h => ru_go rfl rfl,
  fun ls st h => ru_go rfl rfl,
  fun x y ls st h => ru_if rfl rfl,
  fun ls st h => ru_go rfl rfl,
  fun ls st h => ru_go rfl rfl,
  fun ls st h => ru_go rfl rfl,
  fun x ls h => ru_bret rfl rfl⟩
theorem E59 (a0 : Int32) (h : eH) : den 59 [.int a0] h = ru 59 0 [some (.int a0)] [] h := den_st rfl (Nat.le_of_ble_eq_true rfl)
/-! 60 X11_left -/
set_option maxRecDepth 100000 in
theorem S60 : (∀ (v : Nat) (t : eL) (st : List Value) (h : eH), ru 60 0 (some (.ref v) :: t) st h = ru 60 1 (some (.ref v) :: t) (.ref v :: st) h) ∧
  (∀ (x0 : Option Value) (v : Int32) (t : eL) (st : List Value) (h : eH), ru 60 1 (x0 :: some (.int v) :: t) st h = ru 60 2 (x0 :: some (.int v) :: t) (.int v :: st) h) ∧
  (∀ (a0 : Nat) (a1 : Int32) (ls : eL) (h : eH), ru 60 2 ls [.int a1, .ref a0] h = cl (den 55 [.ref a0, .int a1] h) (fun v h => ru 60 5 ls (v.toList ++ []) h)) ∧
  (∀ (x : Int32) (ls : eL) (st : List Value) (h : eH), ru 60 5 ls (.int x :: st) h = if x = 0 then ru 60 17 ls st h else ru 60 8 ls st h) ∧
  (∀ (x0 x1 : Option Value) (v : Int32) (t : eL) (st : List Value) (h : eH), ru 60 8 (x0 :: x1 :: some (.int v) :: t) st h = ru 60 9 (x0 :: x1 :: some (.int v) :: t) (.int v :: st) h) ∧
  (∀ (x : Int32) (ls : eL) (st : List Value) (h : eH), ru 60 9 ls (.int x :: st) h = if x < 0 then ru 60 17 ls st h else ru 60 12 ls st h) ∧
  (∀ (x0 x1 : Option Value) (v : Int32) (t : eL) (st : List Value) (h : eH), ru 60 12 (x0 :: x1 :: some (.int v) :: t) st h = ru 60 13 (x0 :: x1 :: some (.int v) :: t) (.int v :: st) h) ∧
  (∀ (ls : eL) (st : List Value) (h : eH), ru 60 13 ls st h = ru 60 14 ls (.int (nI 1) :: st) h) ∧
  (∀ (x y : Int32) (ls : eL) (st : List Value) (h : eH), ru 60 14 ls (.int y :: .int x :: st) h = if x ≤ y then ru 60 19 ls st h else ru 60 17 ls st h) ∧
  (∀ (ls : eL) (st : List Value) (h : eH), ru 60 17 ls st h = ru 60 18 ls (.int (nI 0) :: st) h) ∧
  (∀ (x : Int32) (ls : eL) (h : eH), ru 60 18 ls [.int x] h = bo (x == 0 || x == 1) (some (some (.int x), h))) ∧
  (∀ (v : Nat) (t : eL) (st : List Value) (h : eH), ru 60 19 (some (.ref v) :: t) st h = ru 60 20 (some (.ref v) :: t) (.ref v :: st) h) ∧
  (∀ (ls : eL) (st : List Value) (h : eH), ru 60 20 ls st h = ru 60 21 ls (.int (nI 5) :: st) h) ∧
  (∀ (v : Nat) (t : eL) (st : List Value) (h : eH), ru 60 21 (some (.ref v) :: t) st h = ru 60 22 (some (.ref v) :: t) (.ref v :: st) h) ∧
  (∀ (x0 : Option Value) (v : Int32) (t : eL) (st : List Value) (h : eH), ru 60 22 (x0 :: some (.int v) :: t) st h = ru 60 23 (x0 :: some (.int v) :: t) (.int v :: st) h) ∧
  (∀ (x0 x1 : Option Value) (v : Int32) (t : eL) (st : List Value) (h : eH), ru 60 23 (x0 :: x1 :: some (.int v) :: t) st h = ru 60 24 (x0 :: x1 :: some (.int v) :: t) (.int v :: st) h) ∧
  (∀ (ls : eL) (st : List Value) (h : eH), ru 60 24 ls st h = ru 60 25 ls (.int (nI 1) :: st) h) ∧
  (∀ (a0 : Nat) (a1 : Int32) (a2 : Int32) (a3 : Int32) (u0 : Int32) (u1 : Nat) (ls : eL) (h : eH), ru 60 25 ls [.int a3, .int a2, .int a1, .ref a0, .int u0, .ref u1] h = cl (den 48 [.ref a0, .int a1, .int a2, .int a3] h) (fun v h => ru 60 28 ls (v.toList ++ [.int u0, .ref u1]) h)) ∧
  (∀ (a0 : Nat) (a1 : Int32) (a2 : Int64) (ls : eL) (h : eH), ru 60 28 ls [.long a2, .int a1, .ref a0] h = cl (den 12 [.ref a0, .int a1, .long a2] h) (fun v h => ru 60 31 ls (v.toList ++ []) h)) ∧
  (∀ (v : Nat) (t : eL) (st : List Value) (h : eH), ru 60 31 (some (.ref v) :: t) st h = ru 60 32 (some (.ref v) :: t) (.ref v :: st) h) ∧
  (∀ (ls : eL) (st : List Value) (h : eH), ru 60 32 ls st h = ru 60 34 ls (.int (nI 6) :: st) h) ∧
  (∀ (ls : eL) (st : List Value) (h : eH), ru 60 34 ls st h = ru 60 35 ls (.long (lN 1) :: st) h) ∧
  (∀ (a0 : Nat) (a1 : Int32) (a2 : Int64) (ls : eL) (h : eH), ru 60 35 ls [.long a2, .int a1, .ref a0] h = cl (den 12 [.ref a0, .int a1, .long a2] h) (fun v h => ru 60 38 ls (v.toList ++ []) h)) ∧
  (∀ (v : Nat) (t : eL) (st : List Value) (h : eH), ru 60 38 (some (.ref v) :: t) st h = ru 60 39 (some (.ref v) :: t) (.ref v :: st) h) ∧
  (∀ (ls : eL) (st : List Value) (h : eH), ru 60 39 ls st h = ru 60 40 ls (.int (nI 5) :: st) h) ∧
  (∀ (ls : eL) (st : List Value) (h : eH), ru 60 40 ls st h = ru 60 42 ls (.int (nI 6) :: st) h) ∧
  (∀ (a0 : Nat) (a1 : Int32) (a2 : Int32) (ls : eL) (h : eH), ru 60 42 ls [.int a2, .int a1, .ref a0] h = cl (den 38 [.ref a0, .int a1, .int a2] h) (fun v h => ru 60 45 ls (v.toList ++ []) h)) ∧
  (∀ (ls : eL) (st : List Value) (h : eH), ru 60 45 ls st h = ru 60 46 ls (.int (nI 1) :: st) h) ∧
  (∀ (x : Int32) (ls : eL) (h : eH), ru 60 46 ls [.int x] h = bo (x == 0 || x == 1) (some (some (.int x), h))) := ⟨fun v t st h => ru_go rfl rfl,
  fun x0 v t st h => ru_go rfl rfl,
  fun a0 a1 ls h => ru_inv rfl (by decide) rfl (Nat.le_of_ble_eq_true rfl),
  fun x ls st h => ru_if rfl rfl,
  fun x0 x1 v t st h => ru_go rfl rfl,
  fun x ls st h => ru_if rfl rfl,
  fun x0 x1 v t st h => ru_go rfl rfl,
  fun ls st h => ru_go rfl rfl,
  fun x y ls st h => ru_if rfl rfl,
  fun ls st h => ru_go rfl rfl,
  fun x ls h => ru_bret rfl rfl,
  fun v t st h => ru_go rfl rfl,
  fun ls st h => ru_go rfl rfl,
  fun v t st h => ru_go rfl rfl,
  fun x0 v t st h => ru_go rfl rfl,
  fun x0 x1 v t st h => ru_go rfl rfl,
  fun ls st h => ru_go rfl rfl,
  fun a0 a1 a2 a3 u0 u1 ls h => ru_inv rfl (by decide) rfl (Nat.le_of_ble_eq_true rfl),
  fun a0 a1 a2 ls h => ru_inv rfl (by decide) rfl (Nat.le_of_ble_eq_true rfl),
  fun v t st h => ru_go rfl rfl,
  fun ls st h => ru_go rfl rfl,
  fun ls st h => ru_go rfl rfl,
  fun a0 a1 a2 ls h => ru_inv rfl (by decide) rfl (Nat.le_of_ble_eq_true rfl),
  fun v t st h => ru_go rfl rfl,
  fun ls st h => ru_go rfl rfl,
  fun ls st h => ru_go rfl rfl,
  fun a0 a1 a2 ls h => ru_inv rfl (by decide) rfl (Nat.le_of_ble_eq_true rfl),
  fun ls st h => ru_go rfl rfl,
  fun x ls h => ru_bret rfl rfl⟩
theorem E60 (a0 : Nat) (a1 : Int32) (a2 : Int32) {h : eH} {fs : List Value} (ha : h.1 a0 = .inr (11, fs)) : den 60 [.ref a0, .int a1, .int a2] h = ru 60 0 [some (.ref a0), some (.int a1), some (.int a2)] [] h := den_ob (Nat.le_of_ble_eq_true rfl) ha
/-! 61 X11_load -/
set_option maxRecDepth 100000 in
theorem S61 : (∀ (v : Nat) (t : eL) (st : List Value) (h : eH), ru 61 0 (some (.ref v) :: t) st h = ru 61 1 (some (.ref v) :: t) (.ref v :: st) h) ∧
  (∀ (x0 : Option Value) (v : Int32) (t : eL) (st : List Value) (h : eH), ru 61 1 (x0 :: some (.int v) :: t) st h = ru 61 2 (x0 :: some (.int v) :: t) (.int v :: st) h) ∧
  (∀ (a0 : Nat) (a1 : Int32) (ls : eL) (h : eH), ru 61 2 ls [.int a1, .ref a0] h = cl (den 55 [.ref a0, .int a1] h) (fun v h => ru 61 5 ls (v.toList ++ []) h)) ∧
  (∀ (x : Int32) (ls : eL) (st : List Value) (h : eH), ru 61 5 ls (.int x :: st) h = if x = 0 then ru 61 8 ls st h else ru 61 11 ls st h) ∧
  (∀ (ls : eL) (st : List Value) (h : eH), ru 61 8 ls st h = ru 61 10 ls (.int ((-2)) :: st) h) ∧
  (∀ (x : Int32) (ls : eL) (h : eH), ru 61 10 ls [.int x] h = some (some (.int x), h)) ∧
  (∀ (x0 x1 : Option Value) (v : Int32) (t : eL) (st : List Value) (h : eH), ru 61 11 (x0 :: x1 :: some (.int v) :: t) st h = ru 61 12 (x0 :: x1 :: some (.int v) :: t) (.int v :: st) h) ∧
  (∀ (a0 : Int32) (ls : eL) (h : eH), ru 61 12 ls [.int a0] h = cl (den 59 [.int a0] h) (fun v h => ru 61 15 ls (v.toList ++ []) h)) ∧
  (∀ (x : Int32) (ls : eL) (st : List Value) (h : eH), ru 61 15 ls (.int x :: st) h = if x = 0 then ru 61 25 ls st h else ru 61 18 ls st h) ∧
  (∀ (x0 x1 x2 : Option Value) (v : Int32) (t : eL) (st : List Value) (h : eH), ru 61 18 (x0 :: x1 :: x2 :: some (.int v) :: t) st h = ru 61 19 (x0 :: x1 :: x2 :: some (.int v) :: t) (.int v :: st) h) ∧
  (∀ (a0 : Int32) (ls : eL) (h : eH), ru 61 19 ls [.int a0] h = cl (den 59 [.int a0] h) (fun v h => ru 61 22 ls (v.toList ++ []) h)) ∧
  (∀ (x : Int32) (ls : eL) (st : List Value) (h : eH), ru 61 22 ls (.int x :: st) h = if x = 0 then ru 61 25 ls st h else ru 61 28 ls st h) ∧
  (∀ (ls : eL) (st : List Value) (h : eH), ru 61 25 ls st h = ru 61 27 ls (.int ((-4)) :: st) h) ∧
  (∀ (x : Int32) (ls : eL) (h : eH), ru 61 27 ls [.int x] h = some (some (.int x), h)) ∧
  (∀ (v : Nat) (t : eL) (st : List Value) (h : eH), ru 61 28 (some (.ref v) :: t) st h = ru 61 29 (some (.ref v) :: t) (.ref v :: st) h) ∧
  (∀ (a : Nat) (ls : eL) (st : List Value) (h : eH), ru 61 29 ls (.ref a :: st) h = gF (h.1 a) 11 8 (fun v => ru 61 32 ls (v :: st) h)) ∧
  (∀ (x0 : Option Value) (v : Int32) (t : eL) (st : List Value) (h : eH), ru 61 32 (x0 :: some (.int v) :: t) st h = ru 61 33 (x0 :: some (.int v) :: t) (.int v :: st) h) ∧
  (∀ (x0 x1 : Option Value) (v : Int32) (t : eL) (st : List Value) (h : eH), ru 61 33 (x0 :: x1 :: some (.int v) :: t) st h = ru 61 34 (x0 :: x1 :: some (.int v) :: t) (.int v :: st) h) ∧
  (∀ (x : Int32) (i : Int32) (a : Nat) (ls : eL) (st : List Value) (h : eH), ru 61 34 ls (.int x :: .int i :: .ref a :: st) h = wI (h.1 a) i x (fun e => ru 61 35 ls st (eUp h a e))) ∧
  (∀ (v : Nat) (t : eL) (st : List Value) (h : eH), ru 61 35 (some (.ref v) :: t) st h = ru 61 36 (some (.ref v) :: t) (.ref v :: st) h) ∧
  (∀ (a : Nat) (ls : eL) (st : List Value) (h : eH), ru 61 36 ls (.ref a :: st) h = gF (h.1 a) 11 9 (fun v => ru 61 39 ls (v :: st) h)) ∧
  (∀ (x0 : Option Value) (v : Int32) (t : eL) (st : List Value) (h : eH), ru 61 39 (x0 :: some (.int v) :: t) st h = ru 61 40 (x0 :: some (.int v) :: t) (.int v :: st) h) ∧
  (∀ (x0 x1 x2 : Option Value) (v : Int32) (t : eL) (st : List Value) (h : eH), ru 61 40 (x0 :: x1 :: x2 :: some (.int v) :: t) st h = ru 61 41 (x0 :: x1 :: x2 :: some (.int v) :: t) (.int v :: st) h) ∧
  (∀ (x : Int32) (i : Int32) (a : Nat) (ls : eL) (st : List Value) (h : eH), ru 61 41 ls (.int x :: .int i :: .ref a :: st) h = wI (h.1 a) i x (fun e => ru 61 42 ls st (eUp h a e))) ∧
  (∀ (ls : eL) (st : List Value) (h : eH), ru 61 42 ls st h = ru 61 43 ls (.int (nI 0) :: st) h) ∧
  (∀ (x : Int32) (ls : eL) (h : eH), ru 61 43 ls [.int x] h = some (some (.int x), h)) := ⟨fun v t st h => ru_go rfl rfl,
  fun x0 v t st h => ru_go rfl rfl,
  fun a0 a1 ls h => ru_inv rfl (by decide) rfl (Nat.le_of_ble_eq_true rfl),
  fun x ls st h => ru_if rfl rfl,
  fun ls st h => ru_go rfl rfl,
  fun x ls h => ru_ret rfl rfl,
  fun x0 x1 v t st h => ru_go rfl rfl,
  fun a0 ls h => ru_inv rfl (by decide) rfl (Nat.le_of_ble_eq_true rfl),
  fun x ls st h => ru_if rfl rfl,
  fun x0 x1 x2 v t st h => ru_go rfl rfl,
  fun a0 ls h => ru_inv rfl (by decide) rfl (Nat.le_of_ble_eq_true rfl),
  fun x ls st h => ru_if rfl rfl,
  fun ls st h => ru_go rfl rfl,
  fun x ls h => ru_ret rfl rfl,
  fun v t st h => ru_go rfl rfl,
  fun a ls st h => ru_getf rfl,
  fun x0 v t st h => ru_go rfl rfl,
  fun x0 x1 v t st h => ru_go rfl rfl,
  fun x i a ls st h => ru_iast rfl,
  fun v t st h => ru_go rfl rfl,
  fun a ls st h => ru_getf rfl,
  fun x0 v t st h => ru_go rfl rfl,
  fun x0 x1 x2 v t st h => ru_go rfl rfl,
  fun x i a ls st h => ru_iast rfl,
  fun ls st h => ru_go rfl rfl,
  fun x ls h => ru_ret rfl rfl⟩
theorem E61 (a0 : Nat) (a1 : Int32) (a2 : Int32) (a3 : Int32) {h : eH} {fs : List Value} (ha : h.1 a0 = .inr (11, fs)) : den 61 [.ref a0, .int a1, .int a2, .int a3] h = ru 61 0 [some (.ref a0), some (.int a1), some (.int a2), some (.int a3)] [] h := den_ob (Nat.le_of_ble_eq_true rfl) ha
/-! 62 X11_manyParts -/
set_option maxRecDepth 100000 in
theorem S62 : (∀ (x0 : Option Value) (v : Nat) (t : eL) (st : List Value) (h : eH), ru 62 0 (x0 :: some (.ref v) :: t) st h = ru 62 1 (x0 :: some (.ref v) :: t) (.ref v :: st) h) ∧
  (∀ (a0 : Nat) (ls : eL) (h : eH), ru 62 1 ls [.ref a0] h = cl (den 26 [.ref a0] h) (fun v h => ru 62 4 ls (v.toList ++ []) h)) ∧
  (∀ (x0 x1 x2 : Option Value) (v : Int32) (t : eL) (st : List Value) (h : eH), ru 62 4 (x0 :: x1 :: x2 :: t) (.int v :: st) h = ru 62 5 (x0 :: eKl x1 :: some (.int v) :: t) st h) ∧
  (∀ (x0 x1 : Option Value) (v : Int32) (t : eL) (st : List Value) (h : eH), ru 62 5 (x0 :: x1 :: some (.int v) :: t) st h = ru 62 6 (x0 :: x1 :: some (.int v) :: t) (.int v :: st) h) ∧
  (∀ (x : Int32) (ls : eL) (st : List Value) (h : eH), ru 62 6 ls (.int x :: st) h = if x = 0 then ru 62 9 ls st h else ru 62 13 ls st h) ∧
  (∀ (ls : eL) (st : List Value) (h : eH), ru 62 9 ls st h = ru 62 10 ls (.int (nI 1) :: st) h) ∧
  (∀ (ls : eL) (st : List Value) (h : eH), ru 62 10 ls st h = ru 62 14 ls st h) ∧
  (∀ (x0 x1 : Option Value) (v : Int32) (t : eL) (st : List Value) (h : eH), ru 62 13 (x0 :: x1 :: some (.int v) :: t) st h = ru 62 14 (x0 :: x1 :: some (.int v) :: t) (.int v :: st) h) ∧
  (∀ (x : Int32) (ls : eL) (h : eH), ru 62 14 ls [.int x] h = some (some (.int x), h)) := ⟨fun x0 v t st h => ru_go rfl rfl,
  fun a0 ls h => ru_inv rfl (by decide) rfl (Nat.le_of_ble_eq_true rfl),
  fun x0 x1 x2 v t st h => ru_go rfl rfl,
  fun x0 x1 v t st h => ru_go rfl rfl,
  fun x ls st h => ru_if rfl rfl,
  fun ls st h => ru_go rfl rfl,
  fun ls st h => ru_go rfl rfl,
  fun x0 x1 v t st h => ru_go rfl rfl,
  fun x ls h => ru_ret rfl rfl⟩
theorem E62 (a0 : Nat) (a1 : Nat) {h : eH} {fs : List Value} (ha : h.1 a0 = .inr (11, fs)) : den 62 [.ref a0, .ref a1] h = ru 62 0 [some (.ref a0), some (.ref a1), none] [] h := den_ob (Nat.le_of_ble_eq_true rfl) ha
/-! 63 X11_look -/
set_option maxRecDepth 100000 in
theorem S63 : (∀ (x0 : Option Value) (v : Int32) (t : eL) (st : List Value) (h : eH), ru 63 0 (x0 :: some (.int v) :: t) st h = ru 63 1 (x0 :: some (.int v) :: t) (.int v :: st) h) ∧
  (∀ (x : Int32) (ls : eL) (st : List Value) (h : eH), ru 63 1 ls (.int x :: st) h = if x = 0 then ru 63 4 ls st h else ru 63 10 ls st h) ∧
  (∀ (v : Nat) (t : eL) (st : List Value) (h : eH), ru 63 4 (some (.ref v) :: t) st h = ru 63 5 (some (.ref v) :: t) (.ref v :: st) h) ∧
  (∀ (ls : eL) (st : List Value) (h : eH), ru 63 5 ls st h = ru 63 6 ls (.int (nI 0) :: st) h) ∧
  (∀ (a0 : Nat) (a1 : Int32) (ls : eL) (h : eH), ru 63 6 ls [.int a1, .ref a0] h = cl (den 42 [.ref a0, .int a1] h) (fun v h => ru 63 9 ls (v.toList ++ []) h)) ∧
  (∀ (x : Int32) (ls : eL) (h : eH), ru 63 9 ls [.int x] h = some (some (.int x), h)) ∧
  (∀ (x0 : Option Value) (v : Int32) (t : eL) (st : List Value) (h : eH), ru 63 10 (x0 :: some (.int v) :: t) st h = ru 63 11 (x0 :: some (.int v) :: t) (.int v :: st) h) ∧
  (∀ (ls : eL) (st : List Value) (h : eH), ru 63 11 ls st h = ru 63 12 ls (.int (nI 1) :: st) h) ∧
  (∀ (x y : Int32) (ls : eL) (st : List Value) (h : eH), ru 63 12 ls (.int y :: .int x :: st) h = if x = y then ru 63 22 ls st h else ru 63 15 ls st h) ∧
  (∀ (x0 : Option Value) (v : Int32) (t : eL) (st : List Value) (h : eH), ru 63 15 (x0 :: some (.int v) :: t) st h = ru 63 16 (x0 :: some (.int v) :: t) (.int v :: st) h) ∧
  (∀ (ls : eL) (st : List Value) (h : eH), ru 63 16 ls st h = ru 63 17 ls (.int (nI 2) :: st) h) ∧
  (∀ (x y : Int32) (ls : eL) (st : List Value) (h : eH), ru 63 17 ls (.int y :: .int x :: st) h = if x = y then ru 63 22 ls st h else ru 63 20 ls st h) ∧
  (∀ (ls : eL) (st : List Value) (h : eH), ru 63 20 ls st h = ru 63 21 ls (.int ((-1)) :: st) h) ∧
  (∀ (x : Int32) (ls : eL) (h : eH), ru 63 21 ls [.int x] h = some (some (.int x), h)) ∧
  (∀ (v : Nat) (t : eL) (st : List Value) (h : eH), ru 63 22 (some (.ref v) :: t) st h = ru 63 23 (some (.ref v) :: t) (.ref v :: st) h) ∧
  (∀ (x0 : Option Value) (v : Int32) (t : eL) (st : List Value) (h : eH), ru 63 23 (x0 :: some (.int v) :: t) st h = ru 63 24 (x0 :: some (.int v) :: t) (.int v :: st) h) ∧
  (∀ (ls : eL) (st : List Value) (h : eH), ru 63 24 ls st h = ru 63 25 ls (.int (nI 1) :: st) h) ∧
  (∀ (x y : Int32) (ls : eL) (st : List Value) (h : eH), ru 63 25 ls (.int y :: .int x :: st) h = if x = y then ru 63 28 ls st h else ru 63 32 ls st h) ∧
  (∀ (ls : eL) (st : List Value) (h : eH), ru 63 28 ls st h = ru 63 29 ls (.int (nI 0) :: st) h) ∧
  (∀ (ls : eL) (st : List Value) (h : eH), ru 63 29 ls st h = ru 63 33 ls st h) ∧
  (∀ (ls : eL) (st : List Value) (h : eH), ru 63 32 ls st h = ru 63 33 ls (.int (nI 1) :: st) h) ∧
  (∀ (v : Nat) (t : eL) (st : List Value) (h : eH), ru 63 33 (some (.ref v) :: t) st h = ru 63 34 (some (.ref v) :: t) (.ref v :: st) h) ∧
  (∀ (a : Nat) (ls : eL) (st : List Value) (h : eH), ru 63 34 ls (.ref a :: st) h = gF (h.1 a) 11 15 (fun v => ru 63 37 ls (v :: st) h)) ∧
  (∀ (a0 : Nat) (a1 : Int32) (a2 : Nat) (ls : eL) (h : eH), ru 63 37 ls [.ref a2, .int a1, .ref a0] h = cl (den 19 [.ref a0, .int a1, .ref a2] h) (fun v h => ru 63 40 ls (v.toList ++ []) h)) ∧
  (∀ (v : Nat) (t : eL) (st : List Value) (h : eH), ru 63 40 (some (.ref v) :: t) st h = ru 63 41 (some (.ref v) :: t) (.ref v :: st) h) ∧
  (∀ (v : Nat) (t : eL) (st : List Value) (h : eH), ru 63 41 (some (.ref v) :: t) st h = ru 63 42 (some (.ref v) :: t) (.ref v :: st) h) ∧
  (∀ (a : Nat) (ls : eL) (st : List Value) (h : eH), ru 63 42 ls (.ref a :: st) h = gF (h.1 a) 11 15 (fun v => ru 63 45 ls (v :: st) h)) ∧
  (∀ (a0 : Nat) (a1 : Nat) (ls : eL) (h : eH), ru 63 45 ls [.ref a1, .ref a0] h = cl (den 62 [.ref a0, .ref a1] h) (fun v h => ru 63 48 ls (v.toList ++ []) h)) ∧
  (∀ (x : Int32) (ls : eL) (h : eH), ru 63 48 ls [.int x] h = some (some (.int x), h)) := ⟨fun x0 v t st h => ru_go rfl rfl,
  fun x ls st h => ru_if rfl rfl,
  fun v t st h => ru_go rfl rfl,
  fun ls st h => ru_go rfl rfl,
  fun a0 a1 ls h => ru_inv rfl (by decide) rfl (Nat.le_of_ble_eq_true rfl),
  fun x ls h => ru_ret rfl rfl,
  fun x0 v t st h => ru_go rfl rfl,
  fun ls st h => ru_go rfl rfl,
  fun x y ls st h => ru_if rfl rfl,
  fun x0 v t st h => ru_go rfl rfl,
  fun ls st h => ru_go rfl rfl,
  fun x y ls st h => ru_if rfl rfl,
  fun ls st h => ru_go rfl rfl,
  fun x ls h => ru_ret rfl rfl,
  fun v t st h => ru_go rfl rfl,
  fun x0 v t st h => ru_go rfl rfl,
  fun ls st h => ru_go rfl rfl,
  fun x y ls st h => ru_if rfl rfl,
  fun ls st h => ru_go rfl rfl,
  fun ls st h => ru_go rfl rfl,
  fun ls st h => ru_go rfl rfl,
  fun v t st h => ru_go rfl rfl,
  fun a ls st h => ru_getf rfl,
  fun a0 a1 a2 ls h => ru_inv rfl (by decide) rfl (Nat.le_of_ble_eq_true rfl),
  fun v t st h => ru_go rfl rfl,
  fun v t st h => ru_go rfl rfl,
  fun a ls st h => ru_getf rfl,
  fun a0 a1 ls h => ru_inv rfl (by decide) rfl (Nat.le_of_ble_eq_true rfl),
  fun x ls h => ru_ret rfl rfl⟩
theorem E63 (a0 : Nat) (a1 : Int32) {h : eH} {fs : List Value} (ha : h.1 a0 = .inr (11, fs)) : den 63 [.ref a0, .int a1] h = ru 63 0 [some (.ref a0), some (.int a1)] [] h := den_ob (Nat.le_of_ble_eq_true rfl) ha
/-! 64 X11_minor -/
set_option maxRecDepth 100000 in
theorem S64 : (∀ (v : Nat) (t : eL) (st : List Value) (h : eH), ru 64 0 (some (.ref v) :: t) st h = ru 64 1 (some (.ref v) :: t) (.ref v :: st) h) ∧
  (∀ (ls : eL) (st : List Value) (h : eH), ru 64 1 ls st h = ru 64 3 ls (.int (nI 6) :: st) h) ∧
  (∀ (v : Nat) (t : eL) (st : List Value) (h : eH), ru 64 3 (some (.ref v) :: t) st h = ru 64 4 (some (.ref v) :: t) (.ref v :: st) h) ∧
  (∀ (x0 : Option Value) (v : Int32) (t : eL) (st : List Value) (h : eH), ru 64 4 (x0 :: some (.int v) :: t) st h = ru 64 5 (x0 :: some (.int v) :: t) (.int v :: st) h) ∧
  (∀ (x0 x1 x2 : Option Value) (v : Int32) (t : eL) (st : List Value) (h : eH), ru 64 5 (x0 :: x1 :: x2 :: some (.int v) :: t) st h = ru 64 6 (x0 :: x1 :: x2 :: some (.int v) :: t) (.int v :: st) h) ∧
  (∀ (a0 : Nat) (a1 : Int32) (a2 : Int32) (u0 : Int32) (u1 : Nat) (ls : eL) (h : eH), ru 64 6 ls [.int a2, .int a1, .ref a0, .int u0, .ref u1] h = cl (den 51 [.ref a0, .int a1, .int a2] h) (fun v h => ru 64 9 ls (v.toList ++ [.int u0, .ref u1]) h)) ∧
  (∀ (v : Nat) (t : eL) (st : List Value) (h : eH), ru 64 9 (some (.ref v) :: t) st h = ru 64 10 (some (.ref v) :: t) (.ref v :: st) h) ∧
  (∀ (x0 x1 : Option Value) (v : Int32) (t : eL) (st : List Value) (h : eH), ru 64 10 (x0 :: x1 :: some (.int v) :: t) st h = ru 64 11 (x0 :: x1 :: some (.int v) :: t) (.int v :: st) h) ∧
  (∀ (x0 x1 x2 x3 : Option Value) (v : Int32) (t : eL) (st : List Value) (h : eH), ru 64 11 (x0 :: x1 :: x2 :: x3 :: some (.int v) :: t) st h = ru 64 13 (x0 :: x1 :: x2 :: x3 :: some (.int v) :: t) (.int v :: st) h) ∧
  (∀ (a0 : Nat) (a1 : Int32) (a2 : Int32) (u0 : Int32) (u1 : Int32) (u2 : Nat) (ls : eL) (h : eH), ru 64 13 ls [.int a2, .int a1, .ref a0, .int u0, .int u1, .ref u2] h = cl (den 51 [.ref a0, .int a1, .int a2] h) (fun v h => ru 64 16 ls (v.toList ++ [.int u0, .int u1, .ref u2]) h)) ∧
  (∀ (a0 : Nat) (a1 : Int32) (a2 : Int32) (a3 : Int32) (ls : eL) (h : eH), ru 64 16 ls [.int a3, .int a2, .int a1, .ref a0] h = cl (den 27 [.ref a0, .int a1, .int a2, .int a3] h) (fun v h => ru 64 19 ls (v.toList ++ []) h)) ∧
  (∀ (v : Nat) (t : eL) (st : List Value) (h : eH), ru 64 19 (some (.ref v) :: t) st h = ru 64 20 (some (.ref v) :: t) (.ref v :: st) h) ∧
  (∀ (ls : eL) (st : List Value) (h : eH), ru 64 20 ls st h = ru 64 22 ls (.int (nI 7) :: st) h) ∧
  (∀ (v : Nat) (t : eL) (st : List Value) (h : eH), ru 64 22 (some (.ref v) :: t) st h = ru 64 23 (some (.ref v) :: t) (.ref v :: st) h) ∧
  (∀ (x0 : Option Value) (v : Int32) (t : eL) (st : List Value) (h : eH), ru 64 23 (x0 :: some (.int v) :: t) st h = ru 64 24 (x0 :: some (.int v) :: t) (.int v :: st) h) ∧
  (∀ (x0 x1 x2 x3 : Option Value) (v : Int32) (t : eL) (st : List Value) (h : eH), ru 64 24 (x0 :: x1 :: x2 :: x3 :: some (.int v) :: t) st h = ru 64 26 (x0 :: x1 :: x2 :: x3 :: some (.int v) :: t) (.int v :: st) h) ∧
  (∀ (a0 : Nat) (a1 : Int32) (a2 : Int32) (u0 : Int32) (u1 : Nat) (ls : eL) (h : eH), ru 64 26 ls [.int a2, .int a1, .ref a0, .int u0, .ref u1] h = cl (den 51 [.ref a0, .int a1, .int a2] h) (fun v h => ru 64 29 ls (v.toList ++ [.int u0, .ref u1]) h)) ∧
  (∀ (v : Nat) (t : eL) (st : List Value) (h : eH), ru 64 29 (some (.ref v) :: t) st h = ru 64 30 (some (.ref v) :: t) (.ref v :: st) h) ∧
  (∀ (x0 x1 : Option Value) (v : Int32) (t : eL) (st : List Value) (h : eH), ru 64 30 (x0 :: x1 :: some (.int v) :: t) st h = ru 64 31 (x0 :: x1 :: some (.int v) :: t) (.int v :: st) h) ∧
  (∀ (x0 x1 x2 : Option Value) (v : Int32) (t : eL) (st : List Value) (h : eH), ru 64 31 (x0 :: x1 :: x2 :: some (.int v) :: t) st h = ru 64 32 (x0 :: x1 :: x2 :: some (.int v) :: t) (.int v :: st) h) ∧
  (∀ (a0 : Nat) (a1 : Int32) (a2 : Int32) (u0 : Int32) (u1 : Int32) (u2 : Nat) (ls : eL) (h : eH), ru 64 32 ls [.int a2, .int a1, .ref a0, .int u0, .int u1, .ref u2] h = cl (den 51 [.ref a0, .int a1, .int a2] h) (fun v h => ru 64 35 ls (v.toList ++ [.int u0, .int u1, .ref u2]) h)) ∧
  (∀ (a0 : Nat) (a1 : Int32) (a2 : Int32) (a3 : Int32) (ls : eL) (h : eH), ru 64 35 ls [.int a3, .int a2, .int a1, .ref a0] h = cl (den 27 [.ref a0, .int a1, .int a2, .int a3] h) (fun v h => ru 64 38 ls (v.toList ++ []) h)) ∧
  (∀ (v : Nat) (t : eL) (st : List Value) (h : eH), ru 64 38 (some (.ref v) :: t) st h = ru 64 39 (some (.ref v) :: t) (.ref v :: st) h) ∧
  (∀ (x0 x1 x2 x3 x4 : Option Value) (v : Int32) (t : eL) (st : List Value) (h : eH), ru 64 39 (x0 :: x1 :: x2 :: x3 :: x4 :: some (.int v) :: t) st h = ru 64 41 (x0 :: x1 :: x2 :: x3 :: x4 :: some (.int v) :: t) (.int v :: st) h) ∧
  (∀ (ls : eL) (st : List Value) (h : eH), ru 64 41 ls st h = ru 64 43 ls (.int (nI 6) :: st) h) ∧
  (∀ (a0 : Nat) (a1 : Int32) (a2 : Int32) (ls : eL) (h : eH), ru 64 43 ls [.int a2, .int a1, .ref a0] h = cl (den 20 [.ref a0, .int a1, .int a2] h) (fun v h => ru 64 46 ls (v.toList ++ []) h)) ∧
  (∀ (v : Nat) (t : eL) (st : List Value) (h : eH), ru 64 46 (some (.ref v) :: t) st h = ru 64 47 (some (.ref v) :: t) (.ref v :: st) h) ∧
  (∀ (x0 x1 x2 x3 x4 : Option Value) (v : Int32) (t : eL) (st : List Value) (h : eH), ru 64 47 (x0 :: x1 :: x2 :: x3 :: x4 :: some (.int v) :: t) st h = ru 64 49 (x0 :: x1 :: x2 :: x3 :: x4 :: some (.int v) :: t) (.int v :: st) h) ∧
  (∀ (ls : eL) (st : List Value) (h : eH), ru 64 49 ls st h = ru 64 51 ls (.int (nI 7) :: st) h) ∧
  (∀ (ls : eL) (st : List Value) (h : eH), ru 64 51 ls st h = ru 64 54 ls (.long (-lN 1) :: st) h) ∧
  (∀ (a0 : Nat) (a1 : Int32) (a2 : Int32) (a3 : Int64) (ls : eL) (h : eH), ru 64 54 ls [.long a3, .int a2, .int a1, .ref a0] h = cl (den 15 [.ref a0, .int a1, .int a2, .long a3] h) (fun v h => ru 64 57 ls (v.toList ++ []) h)) ∧
  (∀ (ls : eL) (h : eH), ru 64 57 ls [] h = some (none, h)) := ⟨fun v t st h => ru_go rfl rfl,
  fun ls st h => ru_go rfl rfl,
  fun v t st h => ru_go rfl rfl,
  fun x0 v t st h => ru_go rfl rfl,
  fun x0 x1 x2 v t st h => ru_go rfl rfl,
  fun a0 a1 a2 u0 u1 ls h => ru_inv rfl (by decide) rfl (Nat.le_of_ble_eq_true rfl),
  fun v t st h => ru_go rfl rfl,
  fun x0 x1 v t st h => ru_go rfl rfl,
  fun x0 x1 x2 x3 v t st h => ru_go rfl rfl,
  fun a0 a1 a2 u0 u1 u2 ls h => ru_inv rfl (by decide) rfl (Nat.le_of_ble_eq_true rfl),
  fun a0 a1 a2 a3 ls h => ru_inv rfl (by decide) rfl (Nat.le_of_ble_eq_true rfl),
  fun v t st h => ru_go rfl rfl,
  fun ls st h => ru_go rfl rfl,
  fun v t st h => ru_go rfl rfl,
  fun x0 v t st h => ru_go rfl rfl,
  fun x0 x1 x2 x3 v t st h => ru_go rfl rfl,
  fun a0 a1 a2 u0 u1 ls h => ru_inv rfl (by decide) rfl (Nat.le_of_ble_eq_true rfl),
  fun v t st h => ru_go rfl rfl,
  fun x0 x1 v t st h => ru_go rfl rfl,
  fun x0 x1 x2 v t st h => ru_go rfl rfl,
  fun a0 a1 a2 u0 u1 u2 ls h => ru_inv rfl (by decide) rfl (Nat.le_of_ble_eq_true rfl),
  fun a0 a1 a2 a3 ls h => ru_inv rfl (by decide) rfl (Nat.le_of_ble_eq_true rfl),
  fun v t st h => ru_go rfl rfl,
  fun x0 x1 x2 x3 x4 v t st h => ru_go rfl rfl,
  fun ls st h => ru_go rfl rfl,
  fun a0 a1 a2 ls h => ru_inv rfl (by decide) rfl (Nat.le_of_ble_eq_true rfl),
  fun v t st h => ru_go rfl rfl,
  fun x0 x1 x2 x3 x4 v t st h => ru_go rfl rfl,
  fun ls st h => ru_go rfl rfl,
  fun ls st h => ru_go rfl rfl,
  fun a0 a1 a2 a3 ls h => ru_inv rfl (by decide) rfl (Nat.le_of_ble_eq_true rfl),
  fun ls h => ru_ret rfl rfl⟩
theorem E64 (a0 : Nat) (a1 : Int32) (a2 : Int32) (a3 : Int32) (a4 : Int32) (a5 : Int32) {h : eH} {fs : List Value} (ha : h.1 a0 = .inr (11, fs)) : den 64 [.ref a0, .int a1, .int a2, .int a3, .int a4, .int a5] h = ru 64 0 [some (.ref a0), some (.int a1), some (.int a2), some (.int a3), some (.int a4), some (.int a5)] [] h := den_ob (Nat.le_of_ble_eq_true rfl) ha
/-! 65 X11_moves -/
set_option maxRecDepth 100000 in
theorem H65_20 : (∀ (x0 : Option Value) (v : Int32) (t : eL) (st : List Value) (h : eH), ru 65 20 (x0 :: some (.int v) :: t) st h = ru 65 21 (x0 :: some (.int v) :: t) (.int v :: st) h) := fun x0 v t st h => ru_go rfl rfl
set_option maxRecDepth 100000 in
theorem H65_30 : (∀ (x0 x1 : Option Value) (v : Int32) (t : eL) (st : List Value) (h : eH), ru 65 30 (x0 :: x1 :: some (.int v) :: t) st h = ru 65 31 (x0 :: x1 :: some (.int v) :: t) (.int v :: st) h) := fun x0 x1 v t st h => ru_go rfl rfl
set_option maxRecDepth 100000 in
theorem H65_40 : (∀ (x0 x1 x2 : Option Value) (v : Int32) (t : eL) (st : List Value) (h : eH), ru 65 40 (x0 :: x1 :: x2 :: some (.int v) :: t) st h = ru 65 41 (x0 :: x1 :: x2 :: some (.int v) :: t) (.int v :: st) h) := fun x0 x1 x2 v t st h => ru_go rfl rfl
set_option maxRecDepth 100000 in
theorem H65_86 : (∀ (x0 x1 : Option Value) (v : Int32) (t : eL) (st : List Value) (h : eH), ru 65 86 (x0 :: x1 :: some (.int v) :: t) st h = ru 65 89 (x0 :: eKl x1 :: some (.int (v + 1)) :: t) st h) := fun x0 x1 v t st h => ru_go rfl rfl
set_option maxRecDepth 100000 in
theorem H65_92 : (∀ (x0 : Option Value) (v : Int32) (t : eL) (st : List Value) (h : eH), ru 65 92 (x0 :: some (.int v) :: t) st h = ru 65 95 (eKl x0 :: some (.int (v + 1)) :: t) st h) := fun x0 v t st h => ru_go rfl rfl
set_option maxRecDepth 100000 in
theorem H65_98 : (∀ (v : Nat) (t : eL) (st : List Value) (h : eH), ru 65 98 (some (.ref v) :: t) st h = ru 65 99 (some (.ref v) :: t) (.ref v :: st) h) := fun v t st h => ru_go rfl rfl
set_option maxRecDepth 100000 in
theorem S65 : (∀ (v : Nat) (t : eL) (st : List Value) (h : eH), ru 65 0 (some (.ref v) :: t) st h = ru 65 1 (some (.ref v) :: t) (.ref v :: st) h) ∧
  (∀ (v : Nat) (t : eL) (st : List Value) (h : eH), ru 65 1 (some (.ref v) :: t) st h = ru 65 2 (some (.ref v) :: t) (.ref v :: st) h) ∧
  (∀ (a : Nat) (ls : eL) (st : List Value) (h : eH), ru 65 2 ls (.ref a :: st) h = gF (h.1 a) 11 10 (fun v => ru 65 5 ls (v :: st) h)) ∧
  (∀ (v : Int32) (a : Nat) (ls : eL) (st : List Value) (h : eH), ru 65 5 ls (.int v :: .ref a :: st) h = pF (h.1 a) 11 19 (.int v) (fun e => ru 65 8 ls st (eUp h a e))) ∧
  (∀ (v : Nat) (t : eL) (st : List Value) (h : eH), ru 65 8 (some (.ref v) :: t) st h = ru 65 9 (some (.ref v) :: t) (.ref v :: st) h) ∧
  (∀ (ls : eL) (st : List Value) (h : eH), ru 65 9 ls st h = ru 65 10 ls (.int (nI 2) :: st) h) ∧
  (∀ (v : Nat) (t : eL) (st : List Value) (h : eH), ru 65 10 (some (.ref v) :: t) st h = ru 65 11 (some (.ref v) :: t) (.ref v :: st) h) ∧
  (∀ (a0 : Nat) (u0 : Int32) (u1 : Nat) (ls : eL) (h : eH), ru 65 11 ls [.ref a0, .int u0, .ref u1] h = cl (den 23 [.ref a0] h) (fun v h => ru 65 14 ls (v.toList ++ [.int u0, .ref u1]) h)) ∧
  (∀ (x y : Int32) (ls : eL) (st : List Value) (h : eH), ru 65 14 ls (.int y :: .int x :: st) h = ru 65 15 ls (.int (x * y) :: st) h) ∧
  (∀ (v : Int32) (a : Nat) (ls : eL) (st : List Value) (h : eH), ru 65 15 ls (.int v :: .ref a :: st) h = pF (h.1 a) 11 20 (.int v) (fun e => ru 65 18 ls st (eUp h a e))) ∧
  (∀ (ls : eL) (st : List Value) (h : eH), ru 65 18 ls st h = ru 65 19 ls (.int (nI 0) :: st) h) ∧
  (∀ (x0 x1 : Option Value) (v : Int32) (t : eL) (st : List Value) (h : eH), ru 65 19 (x0 :: x1 :: t) (.int v :: st) h = ru 65 20 (eKl x0 :: some (.int v) :: t) st h) ∧
  (∀ (v : Nat) (t : eL) (st : List Value) (h : eH), ru 65 21 (some (.ref v) :: t) st h = ru 65 22 (some (.ref v) :: t) (.ref v :: st) h) ∧
  (∀ (a : Nat) (ls : eL) (st : List Value) (h : eH), ru 65 22 ls (.ref a :: st) h = gF (h.1 a) 11 10 (fun v => ru 65 25 ls (v :: st) h)) ∧
  (∀ (x y : Int32) (ls : eL) (st : List Value) (h : eH), ru 65 25 ls (.int y :: .int x :: st) h = if y ≤ x then ru 65 98 ls st h else ru 65 28 ls st h) ∧
  (∀ (ls : eL) (st : List Value) (h : eH), ru 65 28 ls st h = ru 65 29 ls (.int (nI 0) :: st) h) ∧
  (∀ (x0 x1 x2 : Option Value) (v : Int32) (t : eL) (st : List Value) (h : eH), ru 65 29 (x0 :: x1 :: x2 :: t) (.int v :: st) h = ru 65 30 (x0 :: eKl x1 :: some (.int v) :: t) st h) ∧
  (∀ (v : Nat) (t : eL) (st : List Value) (h : eH), ru 65 31 (some (.ref v) :: t) st h = ru 65 32 (some (.ref v) :: t) (.ref v :: st) h) ∧
  (∀ (a : Nat) (ls : eL) (st : List Value) (h : eH), ru 65 32 ls (.ref a :: st) h = gF (h.1 a) 11 4 (fun v => ru 65 35 ls (v :: st) h)) ∧
  (∀ (x y : Int32) (ls : eL) (st : List Value) (h : eH), ru 65 35 ls (.int y :: .int x :: st) h = if y ≤ x then ru 65 92 ls st h else ru 65 38 ls st h) ∧
  (∀ (ls : eL) (st : List Value) (h : eH), ru 65 38 ls st h = ru 65 39 ls (.int (nI 0) :: st) h) ∧
  (∀ (x0 x1 x2 x3 : Option Value) (v : Int32) (t : eL) (st : List Value) (h : eH), ru 65 39 (x0 :: x1 :: x2 :: x3 :: t) (.int v :: st) h = ru 65 40 (x0 :: x1 :: eKl x2 :: some (.int v) :: t) st h) ∧
  (∀ (ls : eL) (st : List Value) (h : eH), ru 65 41 ls st h = ru 65 42 ls (.int (nI 2) :: st) h) ∧
  (∀ (x y : Int32) (ls : eL) (st : List Value) (h : eH), ru 65 42 ls (.int y :: .int x :: st) h = if y ≤ x then ru 65 86 ls st h else ru 65 45 ls st h) ∧
  (∀ (v : Nat) (t : eL) (st : List Value) (h : eH), ru 65 45 (some (.ref v) :: t) st h = ru 65 46 (some (.ref v) :: t) (.ref v :: st) h) ∧
  (∀ (a : Nat) (ls : eL) (st : List Value) (h : eH), ru 65 46 ls (.ref a :: st) h = gF (h.1 a) 11 7 (fun v => ru 65 49 ls (v :: st) h)) ∧
  (∀ (x0 x1 : Option Value) (v : Int32) (t : eL) (st : List Value) (h : eH), ru 65 49 (x0 :: x1 :: some (.int v) :: t) st h = ru 65 50 (x0 :: x1 :: some (.int v) :: t) (.int v :: st) h) ∧
  (∀ (i : Int32) (a : Nat) (ls : eL) (st : List Value) (h : eH), ru 65 50 ls (.int i :: .ref a :: st) h = aI (h.1 a) 2 i (fun v => ru 65 51 ls (.int v :: st) h)) ∧
  (∀ (x : Int32) (ls : eL) (st : List Value) (h : eH), ru 65 51 ls (.int x :: st) h = if x = 0 then ru 65 54 ls st h else ru 65 86 ls st h) ∧
  (∀ (v : Nat) (t : eL) (st : List Value) (h : eH), ru 65 54 (some (.ref v) :: t) st h = ru 65 55 (some (.ref v) :: t) (.ref v :: st) h) ∧
  (∀ (v : Nat) (t : eL) (st : List Value) (h : eH), ru 65 55 (some (.ref v) :: t) st h = ru 65 56 (some (.ref v) :: t) (.ref v :: st) h) ∧
  (∀ (x0 : Option Value) (v : Int32) (t : eL) (st : List Value) (h : eH), ru 65 56 (x0 :: some (.int v) :: t) st h = ru 65 57 (x0 :: some (.int v) :: t) (.int v :: st) h) ∧
  (∀ (ls : eL) (st : List Value) (h : eH), ru 65 57 ls st h = ru 65 58 ls (.int (nI 2) :: st) h) ∧
  (∀ (v : Nat) (t : eL) (st : List Value) (h : eH), ru 65 58 (some (.ref v) :: t) st h = ru 65 59 (some (.ref v) :: t) (.ref v :: st) h) ∧
  (∀ (x0 x1 : Option Value) (v : Int32) (t : eL) (st : List Value) (h : eH), ru 65 59 (x0 :: x1 :: some (.int v) :: t) st h = ru 65 60 (x0 :: x1 :: some (.int v) :: t) (.int v :: st) h) ∧
  (∀ (a0 : Nat) (a1 : Int32) (u0 : Int32) (u1 : Int32) (u2 : Nat) (u3 : Nat) (ls : eL) (h : eH), ru 65 60 ls [.int a1, .ref a0, .int u0, .int u1, .ref u2, .ref u3] h = cl (den 13 [.ref a0, .int a1] h) (fun v h => ru 65 63 ls (v.toList ++ [.int u0, .int u1, .ref u2, .ref u3]) h)) ∧
  (∀ (x y : Int32) (ls : eL) (st : List Value) (h : eH), ru 65 63 ls (.int y :: .int x :: st) h = ru 65 64 ls (.int (x * y) :: st) h) ∧
  (∀ (x0 x1 x2 : Option Value) (v : Int32) (t : eL) (st : List Value) (h : eH), ru 65 64 (x0 :: x1 :: x2 :: some (.int v) :: t) st h = ru 65 65 (x0 :: x1 :: x2 :: some (.int v) :: t) (.int v :: st) h) ∧
  (∀ (x y : Int32) (ls : eL) (st : List Value) (h : eH), ru 65 65 ls (.int y :: .int x :: st) h = ru 65 66 ls (.int (x + y) :: st) h) ∧
  (∀ (a0 : Nat) (a1 : Int32) (a2 : Int32) (u0 : Nat) (ls : eL) (h : eH), ru 65 66 ls [.int a2, .int a1, .ref a0, .ref u0] h = cl (den 21 [.ref a0, .int a1, .int a2] h) (fun v h => ru 65 69 ls (v.toList ++ [.ref u0]) h)) ∧
  (∀ (v : Nat) (t : eL) (st : List Value) (h : eH), ru 65 69 (some (.ref v) :: t) st h = ru 65 70 (some (.ref v) :: t) (.ref v :: st) h) ∧
  (∀ (x0 : Option Value) (v : Int32) (t : eL) (st : List Value) (h : eH), ru 65 70 (x0 :: some (.int v) :: t) st h = ru 65 71 (x0 :: some (.int v) :: t) (.int v :: st) h) ∧
  (∀ (x0 x1 : Option Value) (v : Int32) (t : eL) (st : List Value) (h : eH), ru 65 71 (x0 :: x1 :: some (.int v) :: t) st h = ru 65 72 (x0 :: x1 :: some (.int v) :: t) (.int v :: st) h) ∧
  (∀ (x0 x1 x2 : Option Value) (v : Int32) (t : eL) (st : List Value) (h : eH), ru 65 72 (x0 :: x1 :: x2 :: some (.int v) :: t) st h = ru 65 73 (x0 :: x1 :: x2 :: some (.int v) :: t) (.int v :: st) h) ∧
  (∀ (a0 : Nat) (a1 : Int32) (a2 : Int32) (a3 : Int32) (u0 : Int32) (u1 : Nat) (ls : eL) (h : eH), ru 65 73 ls [.int a3, .int a2, .int a1, .ref a0, .int u0, .ref u1] h = cl (den 24 [.ref a0, .int a1, .int a2, .int a3] h) (fun v h => ru 65 76 ls (v.toList ++ [.int u0, .ref u1]) h)) ∧
  (∀ (x : Int32) (ls : eL) (st : List Value) (h : eH), ru 65 76 ls (.int x :: st) h = ru 65 77 ls (.long (x.toInt64) :: st) h) ∧
  (∀ (a0 : Nat) (a1 : Int32) (a2 : Int64) (ls : eL) (h : eH), ru 65 77 ls [.long a2, .int a1, .ref a0] h = cl (den 12 [.ref a0, .int a1, .long a2] h) (fun v h => ru 65 80 ls (v.toList ++ []) h)) ∧
  (∀ (x0 x1 x2 : Option Value) (v : Int32) (t : eL) (st : List Value) (h : eH), ru 65 80 (x0 :: x1 :: x2 :: some (.int v) :: t) st h = ru 65 83 (x0 :: x1 :: eKl x2 :: some (.int (v + 1)) :: t) st h) ∧
  (∀ (ls : eL) (st : List Value) (h : eH), ru 65 83 ls st h = ru 65 40 ls st h) ∧
  (∀ (ls : eL) (st : List Value) (h : eH), ru 65 89 ls st h = ru 65 30 ls st h) ∧
  (∀ (ls : eL) (st : List Value) (h : eH), ru 65 95 ls st h = ru 65 20 ls st h) ∧
  (∀ (v : Nat) (t : eL) (st : List Value) (h : eH), ru 65 99 (some (.ref v) :: t) st h = ru 65 100 (some (.ref v) :: t) (.ref v :: st) h) ∧
  (∀ (a : Nat) (ls : eL) (st : List Value) (h : eH), ru 65 100 ls (.ref a :: st) h = gF (h.1 a) 11 20 (fun v => ru 65 103 ls (v :: st) h)) ∧
  (∀ (a0 : Nat) (a1 : Int32) (ls : eL) (h : eH), ru 65 103 ls [.int a1, .ref a0] h = cl (den 31 [.ref a0, .int a1] h) (fun v h => ru 65 106 ls (v.toList ++ []) h)) ∧
  (∀ (ls : eL) (h : eH), ru 65 106 ls [] h = some (none, h)) := ⟨fun v t st h => ru_go rfl rfl,
  fun v t st h => ru_go rfl rfl,
  fun a ls st h => ru_getf rfl,
  fun v a ls st h => ru_putf rfl,
  fun v t st h => ru_go rfl rfl,
  fun ls st h => ru_go rfl rfl,
  fun v t st h => ru_go rfl rfl,
  fun a0 u0 u1 ls h => ru_inv rfl (by decide) rfl (Nat.le_of_ble_eq_true rfl),
  fun x y ls st h => ru_go rfl rfl,
  fun v a ls st h => ru_putf rfl,
  fun ls st h => ru_go rfl rfl,
  fun x0 x1 v t st h => ru_go rfl rfl,
  fun v t st h => ru_go rfl rfl,
  fun a ls st h => ru_getf rfl,
  fun x y ls st h => ru_if rfl rfl,
  fun ls st h => ru_go rfl rfl,
  fun x0 x1 x2 v t st h => ru_go rfl rfl,
  fun v t st h => ru_go rfl rfl,
  fun a ls st h => ru_getf rfl,
  fun x y ls st h => ru_if rfl rfl,
  fun ls st h => ru_go rfl rfl,
  fun x0 x1 x2 x3 v t st h => ru_go rfl rfl,
  fun ls st h => ru_go rfl rfl,
  fun x y ls st h => ru_if rfl rfl,
  fun v t st h => ru_go rfl rfl,
  fun a ls st h => ru_getf rfl,
  fun x0 x1 v t st h => ru_go rfl rfl,
  fun i a ls st h => ru_zald rfl,
  fun x ls st h => ru_if rfl rfl,
  fun v t st h => ru_go rfl rfl,
  fun v t st h => ru_go rfl rfl,
  fun x0 v t st h => ru_go rfl rfl,
  fun ls st h => ru_go rfl rfl,
  fun v t st h => ru_go rfl rfl,
  fun x0 x1 v t st h => ru_go rfl rfl,
  fun a0 a1 u0 u1 u2 u3 ls h => ru_inv rfl (by decide) rfl (Nat.le_of_ble_eq_true rfl),
  fun x y ls st h => ru_go rfl rfl,
  fun x0 x1 x2 v t st h => ru_go rfl rfl,
  fun x y ls st h => ru_go rfl rfl,
  fun a0 a1 a2 u0 ls h => ru_inv rfl (by decide) rfl (Nat.le_of_ble_eq_true rfl),
  fun v t st h => ru_go rfl rfl,
  fun x0 v t st h => ru_go rfl rfl,
  fun x0 x1 v t st h => ru_go rfl rfl,
  fun x0 x1 x2 v t st h => ru_go rfl rfl,
  fun a0 a1 a2 a3 u0 u1 ls h => ru_inv rfl (by decide) rfl (Nat.le_of_ble_eq_true rfl),
  fun x ls st h => ru_go rfl rfl,
  fun a0 a1 a2 ls h => ru_inv rfl (by decide) rfl (Nat.le_of_ble_eq_true rfl),
  fun x0 x1 x2 v t st h => ru_go rfl rfl,
  fun ls st h => ru_go rfl rfl,
  fun ls st h => ru_go rfl rfl,
  fun ls st h => ru_go rfl rfl,
  fun v t st h => ru_go rfl rfl,
  fun a ls st h => ru_getf rfl,
  fun a0 a1 ls h => ru_inv rfl (by decide) rfl (Nat.le_of_ble_eq_true rfl),
  fun ls h => ru_ret rfl rfl⟩
theorem E65 (a0 : Nat) {h : eH} {fs : List Value} (ha : h.1 a0 = .inr (11, fs)) : den 65 [.ref a0] h = ru 65 0 [some (.ref a0), none, none, none] [] h := den_ob (Nat.le_of_ble_eq_true rfl) ha
/-! 66 X11_net -/
set_option maxRecDepth 100000 in
theorem H66_39 : (∀ (ls : eL) (st : List Value) (h : eH), ru 66 39 ls st h = ru 66 40 ls (.int (nI 1) :: st) h) := fun ls st h => ru_go rfl rfl
set_option maxRecDepth 100000 in
theorem H66_445 : (∀ (v : Nat) (t : eL) (st : List Value) (h : eH), ru 66 445 (some (.ref v) :: t) st h = ru 66 446 (some (.ref v) :: t) (.ref v :: st) h) := fun v t st h => ru_go rfl rfl
set_option maxRecDepth 100000 in
theorem H66_454 : (∀ (x0 x1 x2 x3 x4 x5 : Option Value) (v : Int32) (t : eL) (st : List Value) (h : eH), ru 66 454 (x0 :: x1 :: x2 :: x3 :: x4 :: x5 :: some (.int v) :: t) st h = ru 66 456 (x0 :: x1 :: x2 :: x3 :: x4 :: x5 :: some (.int v) :: t) (.int v :: st) h) := fun x0 x1 x2 x3 x4 x5 v t st h => ru_go rfl rfl
set_option maxRecDepth 100000 in
theorem H66_546 : (∀ (v : Nat) (t : eL) (st : List Value) (h : eH), ru 66 546 (some (.ref v) :: t) st h = ru 66 547 (some (.ref v) :: t) (.ref v :: st) h) := fun v t st h => ru_go rfl rfl
set_option maxRecDepth 100000 in
theorem H66_555 : (∀ (x0 x1 x2 x3 x4 x5 : Option Value) (v : Int32) (t : eL) (st : List Value) (h : eH), ru 66 555 (x0 :: x1 :: x2 :: x3 :: x4 :: x5 :: some (.int v) :: t) st h = ru 66 557 (x0 :: x1 :: x2 :: x3 :: x4 :: x5 :: some (.int v) :: t) (.int v :: st) h) := fun x0 x1 x2 x3 x4 x5 v t st h => ru_go rfl rfl
set_option maxRecDepth 100000 in
theorem H66_645 : (∀ (x0 x1 x2 x3 x4 : Option Value) (v : Int32) (t : eL) (st : List Value) (h : eH), ru 66 645 (x0 :: x1 :: x2 :: x3 :: x4 :: some (.int v) :: t) st h = ru 66 647 (x0 :: x1 :: x2 :: x3 :: x4 :: some (.int v) :: t) (.int v :: st) h) := fun x0 x1 x2 x3 x4 v t st h => ru_go rfl rfl
set_option maxRecDepth 100000 in
theorem S66 : (∀ (x0 : Option Value) (v : Int32) (t : eL) (st : List Value) (h : eH), ru 66 0 (x0 :: some (.int v) :: t) st h = ru 66 1 (x0 :: some (.int v) :: t) (.int v :: st) h) ∧
  (∀ (a0 : Int32) (ls : eL) (h : eH), ru 66 1 ls [.int a0] h = cl (den 57 [.int a0] h) (fun v h => ru 66 4 ls (v.toList ++ []) h)) ∧
  (∀ (x : Int32) (ls : eL) (st : List Value) (h : eH), ru 66 4 ls (.int x :: st) h = if x = 0 then ru 66 7 ls st h else ru 66 10 ls st h) ∧
  (∀ (ls : eL) (st : List Value) (h : eH), ru 66 7 ls st h = ru 66 9 ls (.int ((-2)) :: st) h) ∧
  (∀ (x : Int32) (ls : eL) (h : eH), ru 66 9 ls [.int x] h = some (some (.int x), h)) ∧
  (∀ (v : Nat) (t : eL) (st : List Value) (h : eH), ru 66 10 (some (.ref v) :: t) st h = ru 66 11 (some (.ref v) :: t) (.ref v :: st) h) ∧
  (∀ (a : Nat) (ls : eL) (st : List Value) (h : eH), ru 66 11 ls (.ref a :: st) h = gF (h.1 a) 11 1 (fun v => ru 66 14 ls (v :: st) h)) ∧
  (∀ (x0 : Option Value) (v : Int32) (t : eL) (st : List Value) (h : eH), ru 66 14 (x0 :: some (.int v) :: t) st h = ru 66 15 (x0 :: some (.int v) :: t) (.int v :: st) h) ∧
  (∀ (i : Int32) (a : Nat) (ls : eL) (st : List Value) (h : eH), ru 66 15 ls (.int i :: .ref a :: st) h = aI (h.1 a) 0 i (fun v => ru 66 16 ls (.int v :: st) h)) ∧
  (∀ (x : Int32) (ls : eL) (st : List Value) (h : eH), ru 66 16 ls (.int x :: st) h = if x = 0 then ru 66 19 ls st h else ru 66 22 ls st h) ∧
  (∀ (ls : eL) (st : List Value) (h : eH), ru 66 19 ls st h = ru 66 21 ls (.int ((-5)) :: st) h) ∧
  (∀ (x : Int32) (ls : eL) (h : eH), ru 66 21 ls [.int x] h = some (some (.int x), h)) ∧
  (∀ (v : Nat) (t : eL) (st : List Value) (h : eH), ru 66 22 (some (.ref v) :: t) st h = ru 66 23 (some (.ref v) :: t) (.ref v :: st) h) ∧
  (∀ (a : Nat) (ls : eL) (st : List Value) (h : eH), ru 66 23 ls (.ref a :: st) h = gF (h.1 a) 11 1 (fun v => ru 66 26 ls (v :: st) h)) ∧
  (∀ (x0 : Option Value) (v : Int32) (t : eL) (st : List Value) (h : eH), ru 66 26 (x0 :: some (.int v) :: t) st h = ru 66 27 (x0 :: some (.int v) :: t) (.int v :: st) h) ∧
  (∀ (i : Int32) (a : Nat) (ls : eL) (st : List Value) (h : eH), ru 66 27 ls (.int i :: .ref a :: st) h = aI (h.1 a) 0 i (fun v => ru 66 28 ls (.int v :: st) h)) ∧
  (∀ (ls : eL) (st : List Value) (h : eH), ru 66 28 ls st h = ru 66 29 ls (.int (nI 1) :: st) h) ∧
  (∀ (x y : Int32) (ls : eL) (st : List Value) (h : eH), ru 66 29 ls (.int y :: .int x :: st) h = ru 66 30 ls (.int (x - y) :: st) h) ∧
  (∀ (x0 x1 x2 : Option Value) (v : Int32) (t : eL) (st : List Value) (h : eH), ru 66 30 (x0 :: x1 :: x2 :: t) (.int v :: st) h = ru 66 31 (x0 :: eKl x1 :: some (.int v) :: t) st h) ∧
  (∀ (ls : eL) (st : List Value) (h : eH), ru 66 31 ls st h = ru 66 32 ls (.int (nI 0) :: st) h) ∧
  (∀ (x0 x1 x2 x3 : Option Value) (v : Int32) (t : eL) (st : List Value) (h : eH), ru 66 32 (x0 :: x1 :: x2 :: x3 :: t) (.int v :: st) h = ru 66 33 (x0 :: x1 :: eKl x2 :: some (.int v) :: t) st h) ∧
  (∀ (ls : eL) (st : List Value) (h : eH), ru 66 33 ls st h = ru 66 34 ls (.int (nI 0) :: st) h) ∧
  (∀ (x0 x1 x2 x3 x4 : Option Value) (v : Int32) (t : eL) (st : List Value) (h : eH), ru 66 34 (x0 :: x1 :: x2 :: x3 :: x4 :: t) (.int v :: st) h = ru 66 36 (x0 :: x1 :: x2 :: eKl x3 :: some (.int v) :: t) st h) ∧
  (∀ (ls : eL) (st : List Value) (h : eH), ru 66 36 ls st h = ru 66 37 ls (.int (nI 0) :: st) h) ∧
  (∀ (x0 x1 x2 x3 x4 x5 : Option Value) (v : Int32) (t : eL) (st : List Value) (h : eH), ru 66 37 (x0 :: x1 :: x2 :: x3 :: x4 :: x5 :: t) (.int v :: st) h = ru 66 39 (x0 :: x1 :: x2 :: x3 :: eKl x4 :: some (.int v) :: t) st h) ∧
  (∀ (ls : eL) (st : List Value) (h : eH), ru 66 40 ls st h = ru 66 41 ls (.int (nI 3) :: st) h) ∧
  (∀ (x0 x1 x2 x3 : Option Value) (v : Int32) (t : eL) (st : List Value) (h : eH), ru 66 41 (x0 :: x1 :: x2 :: x3 :: some (.int v) :: t) st h = ru 66 43 (x0 :: x1 :: x2 :: x3 :: some (.int v) :: t) (.int v :: st) h) ∧
  (∀ (x y : Int32) (ls : eL) (st : List Value) (h : eH), ru 66 43 ls (.int y :: .int x :: st) h = ru 66 44 ls (.int (x * y) :: st) h) ∧
  (∀ (x y : Int32) (ls : eL) (st : List Value) (h : eH), ru 66 44 ls (.int y :: .int x :: st) h = ru 66 45 ls (.int (x + y) :: st) h) ∧
  (∀ (x0 x1 x2 x3 x4 x5 x6 : Option Value) (v : Int32) (t : eL) (st : List Value) (h : eH), ru 66 45 (x0 :: x1 :: x2 :: x3 :: x4 :: x5 :: x6 :: t) (.int v :: st) h = ru 66 47 (x0 :: x1 :: x2 :: x3 :: x4 :: eKl x5 :: some (.int v) :: t) st h) ∧
  (∀ (x0 x1 x2 : Option Value) (v : Int32) (t : eL) (st : List Value) (h : eH), ru 66 47 (x0 :: x1 :: x2 :: some (.int v) :: t) st h = ru 66 48 (x0 :: x1 :: x2 :: some (.int v) :: t) (.int v :: st) h) ∧
  (∀ (x : Int32) (ls : eL) (st : List Value) (h : eH), ru 66 48 ls (.int x :: st) h = if x = 0 then ru 66 51 ls st h else ru 66 55 ls st h) ∧
  (∀ (ls : eL) (st : List Value) (h : eH), ru 66 51 ls st h = ru 66 52 ls (.int (nI 1) :: st) h) ∧
  (∀ (ls : eL) (st : List Value) (h : eH), ru 66 52 ls st h = ru 66 77 ls st h) ∧
  (∀ (x0 x1 x2 : Option Value) (v : Int32) (t : eL) (st : List Value) (h : eH), ru 66 55 (x0 :: x1 :: x2 :: some (.int v) :: t) st h = ru 66 56 (x0 :: x1 :: x2 :: some (.int v) :: t) (.int v :: st) h) ∧
  (∀ (x0 x1 x2 x3 x4 x5 : Option Value) (v : Int32) (t : eL) (st : List Value) (h : eH), ru 66 56 (x0 :: x1 :: x2 :: x3 :: x4 :: x5 :: some (.int v) :: t) st h = ru 66 58 (x0 :: x1 :: x2 :: x3 :: x4 :: x5 :: some (.int v) :: t) (.int v :: st) h) ∧
  (∀ (x y : Int32) (ls : eL) (st : List Value) (h : eH), ru 66 58 ls (.int y :: .int x :: st) h = if y < x then ru 66 68 ls st h else ru 66 61 ls st h) ∧
  (∀ (x0 x1 x2 x3 x4 x5 : Option Value) (v : Int32) (t : eL) (st : List Value) (h : eH), ru 66 61 (x0 :: x1 :: x2 :: x3 :: x4 :: x5 :: some (.int v) :: t) st h = ru 66 63 (x0 :: x1 :: x2 :: x3 :: x4 :: x5 :: some (.int v) :: t) (.int v :: st) h) ∧
  (∀ (ls : eL) (st : List Value) (h : eH), ru 66 63 ls st h = ru 66 64 ls (.int (nI 1) :: st) h) ∧
  (∀ (x y : Int32) (ls : eL) (st : List Value) (h : eH), ru 66 64 ls (.int y :: .int x :: st) h = ru 66 65 ls (.int (x + y) :: st) h) ∧
  (∀ (ls : eL) (st : List Value) (h : eH), ru 66 65 ls st h = ru 66 77 ls st h) ∧
  (∀ (x0 x1 x2 x3 x4 x5 : Option Value) (v : Int32) (t : eL) (st : List Value) (h : eH), ru 66 68 (x0 :: x1 :: x2 :: x3 :: x4 :: x5 :: some (.int v) :: t) st h = ru 66 70 (x0 :: x1 :: x2 :: x3 :: x4 :: x5 :: some (.int v) :: t) (.int v :: st) h) ∧
  (∀ (ls : eL) (st : List Value) (h : eH), ru 66 70 ls st h = ru 66 71 ls (.int (nI 1) :: st) h) ∧
  (∀ (x y : Int32) (ls : eL) (st : List Value) (h : eH), ru 66 71 ls (.int y :: .int x :: st) h = ru 66 72 ls (.int (x + y) :: st) h) ∧
  (∀ (ls : eL) (st : List Value) (h : eH), ru 66 72 ls st h = ru 66 73 ls (.int (nI 3) :: st) h) ∧
  (∀ (x0 x1 x2 x3 x4 : Option Value) (v : Int32) (t : eL) (st : List Value) (h : eH), ru 66 73 (x0 :: x1 :: x2 :: x3 :: x4 :: some (.int v) :: t) st h = ru 66 75 (x0 :: x1 :: x2 :: x3 :: x4 :: some (.int v) :: t) (.int v :: st) h) ∧
  (∀ (x y : Int32) (ls : eL) (st : List Value) (h : eH), ru 66 75 ls (.int y :: .int x :: st) h = ru 66 76 ls (.int (x * y) :: st) h) ∧
  (∀ (x y : Int32) (ls : eL) (st : List Value) (h : eH), ru 66 76 ls (.int y :: .int x :: st) h = ru 66 77 ls (.int (x + y) :: st) h) ∧
  (∀ (x0 x1 x2 x3 x4 x5 x6 x7 : Option Value) (v : Int32) (t : eL) (st : List Value) (h : eH), ru 66 77 (x0 :: x1 :: x2 :: x3 :: x4 :: x5 :: x6 :: x7 :: t) (.int v :: st) h = ru 66 79 (x0 :: x1 :: x2 :: x3 :: x4 :: x5 :: eKl x6 :: some (.int v) :: t) st h) ∧
  (∀ (x0 x1 x2 : Option Value) (v : Int32) (t : eL) (st : List Value) (h : eH), ru 66 79 (x0 :: x1 :: x2 :: some (.int v) :: t) st h = ru 66 80 (x0 :: x1 :: x2 :: some (.int v) :: t) (.int v :: st) h) ∧
  (∀ (x : Int32) (ls : eL) (st : List Value) (h : eH), ru 66 80 ls (.int x :: st) h = if x ≤ 0 then ru 66 92 ls st h else ru 66 83 ls st h) ∧
  (∀ (x0 x1 x2 : Option Value) (v : Int32) (t : eL) (st : List Value) (h : eH), ru 66 83 (x0 :: x1 :: x2 :: some (.int v) :: t) st h = ru 66 84 (x0 :: x1 :: x2 :: some (.int v) :: t) (.int v :: st) h) ∧
  (∀ (x0 x1 x2 x3 x4 x5 x6 : Option Value) (v : Int32) (t : eL) (st : List Value) (h : eH), ru 66 84 (x0 :: x1 :: x2 :: x3 :: x4 :: x5 :: x6 :: some (.int v) :: t) st h = ru 66 86 (x0 :: x1 :: x2 :: x3 :: x4 :: x5 :: x6 :: some (.int v) :: t) (.int v :: st) h) ∧
  (∀ (x y : Int32) (ls : eL) (st : List Value) (h : eH), ru 66 86 ls (.int y :: .int x :: st) h = if x < y then ru 66 92 ls st h else ru 66 89 ls st h) ∧
  (∀ (ls : eL) (st : List Value) (h : eH), ru 66 89 ls st h = ru 66 445 ls st h) ∧
  (∀ (x0 x1 x2 : Option Value) (v : Int32) (t : eL) (st : List Value) (h : eH), ru 66 92 (x0 :: x1 :: x2 :: some (.int v) :: t) st h = ru 66 93 (x0 :: x1 :: x2 :: some (.int v) :: t) (.int v :: st) h) ∧
  (∀ (x0 x1 : Option Value) (v : Int32) (t : eL) (st : List Value) (h : eH), ru 66 93 (x0 :: x1 :: some (.int v) :: t) st h = ru 66 94 (x0 :: x1 :: some (.int v) :: t) (.int v :: st) h) ∧
  (∀ (x y : Int32) (ls : eL) (st : List Value) (h : eH), ru 66 94 ls (.int y :: .int x :: st) h = if x < y then ru 66 100 ls st h else ru 66 97 ls st h) ∧
  (∀ (ls : eL) (st : List Value) (h : eH), ru 66 97 ls st h = ru 66 99 ls (.int ((-6)) :: st) h) ∧
  (∀ (x : Int32) (ls : eL) (h : eH), ru 66 99 ls [.int x] h = some (some (.int x), h)) ∧
  (∀ (v : Nat) (t : eL) (st : List Value) (h : eH), ru 66 100 (some (.ref v) :: t) st h = ru 66 101 (some (.ref v) :: t) (.ref v :: st) h) ∧
  (∀ (a : Nat) (ls : eL) (st : List Value) (h : eH), ru 66 101 ls (.ref a :: st) h = gF (h.1 a) 11 3 (fun v => ru 66 104 ls (v :: st) h)) ∧
  (∀ (ls : eL) (st : List Value) (h : eH), ru 66 104 ls st h = ru 66 106 ls (.int (nI 60) :: st) h) ∧
  (∀ (x0 : Option Value) (v : Int32) (t : eL) (st : List Value) (h : eH), ru 66 106 (x0 :: some (.int v) :: t) st h = ru 66 107 (x0 :: some (.int v) :: t) (.int v :: st) h) ∧
  (∀ (x y : Int32) (ls : eL) (st : List Value) (h : eH), ru 66 107 ls (.int y :: .int x :: st) h = ru 66 108 ls (.int (x * y) :: st) h) ∧
  (∀ (x0 x1 x2 : Option Value) (v : Int32) (t : eL) (st : List Value) (h : eH), ru 66 108 (x0 :: x1 :: x2 :: some (.int v) :: t) st h = ru 66 109 (x0 :: x1 :: x2 :: some (.int v) :: t) (.int v :: st) h) ∧
  (∀ (x y : Int32) (ls : eL) (st : List Value) (h : eH), ru 66 109 ls (.int y :: .int x :: st) h = ru 66 110 ls (.int (x + y) :: st) h) ∧
  (∀ (i : Int32) (a : Nat) (ls : eL) (st : List Value) (h : eH), ru 66 110 ls (.int i :: .ref a :: st) h = aL (h.1 a) i (fun v => ru 66 111 ls (.long v :: st) h)) ∧
  (∀ (x0 x1 x2 x3 x4 x5 x6 x7 x8 x9 : Option Value) (v : Int64) (t : eL) (st : List Value) (h : eH), ru 66 111 (x0 :: x1 :: x2 :: x3 :: x4 :: x5 :: x6 :: x7 :: x8 :: x9 :: t) (.long v :: st) h = ru 66 113 (x0 :: x1 :: x2 :: x3 :: x4 :: x5 :: x6 :: eKl x7 :: some (.long v) :: none :: t) st h) ∧
  (∀ (x0 x1 x2 : Option Value) (v : Int32) (t : eL) (st : List Value) (h : eH), ru 66 113 (x0 :: x1 :: x2 :: some (.int v) :: t) st h = ru 66 114 (x0 :: x1 :: x2 :: some (.int v) :: t) (.int v :: st) h) ∧
  (∀ (x : Int32) (ls : eL) (st : List Value) (h : eH), ru 66 114 ls (.int x :: st) h = if x = 0 then ru 66 117 ls st h else ru 66 121 ls st h) ∧
  (∀ (ls : eL) (st : List Value) (h : eH), ru 66 117 ls st h = ru 66 118 ls (.int (nI 0) :: st) h) ∧
  (∀ (ls : eL) (st : List Value) (h : eH), ru 66 118 ls st h = ru 66 157 ls st h) ∧
  (∀ (x0 x1 x2 : Option Value) (v : Int32) (t : eL) (st : List Value) (h : eH), ru 66 121 (x0 :: x1 :: x2 :: some (.int v) :: t) st h = ru 66 122 (x0 :: x1 :: x2 :: some (.int v) :: t) (.int v :: st) h) ∧
  (∀ (x0 x1 x2 x3 x4 x5 : Option Value) (v : Int32) (t : eL) (st : List Value) (h : eH), ru 66 122 (x0 :: x1 :: x2 :: x3 :: x4 :: x5 :: some (.int v) :: t) st h = ru 66 124 (x0 :: x1 :: x2 :: x3 :: x4 :: x5 :: some (.int v) :: t) (.int v :: st) h) ∧
  (∀ (x y : Int32) (ls : eL) (st : List Value) (h : eH), ru 66 124 ls (.int y :: .int x :: st) h = if y ≤ x then ru 66 137 ls st h else ru 66 127 ls st h) ∧
  (∀ (ls : eL) (st : List Value) (h : eH), ru 66 127 ls st h = ru 66 128 ls (.int (nI 1) :: st) h) ∧
  (∀ (x0 x1 x2 : Option Value) (v : Int32) (t : eL) (st : List Value) (h : eH), ru 66 128 (x0 :: x1 :: x2 :: some (.int v) :: t) st h = ru 66 129 (x0 :: x1 :: x2 :: some (.int v) :: t) (.int v :: st) h) ∧
  (∀ (ls : eL) (st : List Value) (h : eH), ru 66 129 ls st h = ru 66 130 ls (.int (nI 1) :: st) h) ∧
  (∀ (x y : Int32) (ls : eL) (st : List Value) (h : eH), ru 66 130 ls (.int y :: .int x :: st) h = ru 66 131 ls (.int (x - y) :: st) h) ∧
  (∀ (ls : eL) (st : List Value) (h : eH), ru 66 131 ls st h = ru 66 132 ls (.int (nI 3) :: st) h) ∧
  (∀ (x y : Int32) (ls : eL) (st : List Value) (h : eH), ru 66 132 ls (.int y :: .int x :: st) h = if y = 0 then none else ru 66 133 ls (.int (x - x / y * y) :: st) h) ∧
  (∀ (x y : Int32) (ls : eL) (st : List Value) (h : eH), ru 66 133 ls (.int y :: .int x :: st) h = ru 66 134 ls (.int (x + y) :: st) h) ∧
  (∀ (ls : eL) (st : List Value) (h : eH), ru 66 134 ls st h = ru 66 157 ls st h) ∧
  (∀ (x0 x1 x2 : Option Value) (v : Int32) (t : eL) (st : List Value) (h : eH), ru 66 137 (x0 :: x1 :: x2 :: some (.int v) :: t) st h = ru 66 138 (x0 :: x1 :: x2 :: some (.int v) :: t) (.int v :: st) h) ∧
  (∀ (x0 x1 x2 x3 x4 x5 : Option Value) (v : Int32) (t : eL) (st : List Value) (h : eH), ru 66 138 (x0 :: x1 :: x2 :: x3 :: x4 :: x5 :: some (.int v) :: t) st h = ru 66 140 (x0 :: x1 :: x2 :: x3 :: x4 :: x5 :: some (.int v) :: t) (.int v :: st) h) ∧
  (∀ (x y : Int32) (ls : eL) (st : List Value) (h : eH), ru 66 140 ls (.int y :: .int x :: st) h = if x = y then ru 66 143 ls st h else ru 66 147 ls st h) ∧
  (∀ (ls : eL) (st : List Value) (h : eH), ru 66 143 ls st h = ru 66 144 ls (.int (nI 4) :: st) h) ∧
  (∀ (ls : eL) (st : List Value) (h : eH), ru 66 144 ls st h = ru 66 157 ls st h) ∧
  (∀ (ls : eL) (st : List Value) (h : eH), ru 66 147 ls st h = ru 66 148 ls (.int (nI 5) :: st) h) ∧
  (∀ (x0 x1 x2 : Option Value) (v : Int32) (t : eL) (st : List Value) (h : eH), ru 66 148 (x0 :: x1 :: x2 :: some (.int v) :: t) st h = ru 66 149 (x0 :: x1 :: x2 :: some (.int v) :: t) (.int v :: st) h) ∧
  (∀ (x0 x1 x2 x3 x4 x5 : Option Value) (v : Int32) (t : eL) (st : List Value) (h : eH), ru 66 149 (x0 :: x1 :: x2 :: x3 :: x4 :: x5 :: some (.int v) :: t) st h = ru 66 151 (x0 :: x1 :: x2 :: x3 :: x4 :: x5 :: some (.int v) :: t) (.int v :: st) h) ∧
  (∀ (x y : Int32) (ls : eL) (st : List Value) (h : eH), ru 66 151 ls (.int y :: .int x :: st) h = ru 66 152 ls (.int (x - y) :: st) h) ∧
  (∀ (ls : eL) (st : List Value) (h : eH), ru 66 152 ls st h = ru 66 153 ls (.int (nI 1) :: st) h) ∧
  (∀ (x y : Int32) (ls : eL) (st : List Value) (h : eH), ru 66 153 ls (.int y :: .int x :: st) h = ru 66 154 ls (.int (x - y) :: st) h) ∧
  (∀ (ls : eL) (st : List Value) (h : eH), ru 66 154 ls st h = ru 66 155 ls (.int (nI 3) :: st) h) ∧
  (∀ (x y : Int32) (ls : eL) (st : List Value) (h : eH), ru 66 155 ls (.int y :: .int x :: st) h = if y = 0 then none else ru 66 156 ls (.int (x - x / y * y) :: st) h) ∧
  (∀ (x y : Int32) (ls : eL) (st : List Value) (h : eH), ru 66 156 ls (.int y :: .int x :: st) h = ru 66 157 ls (.int (x + y) :: st) h) ∧
  (∀ (x0 x1 x2 x3 x4 x5 x6 x7 x8 x9 x10 : Option Value) (v : Int32) (t : eL) (st : List Value) (h : eH), ru 66 157 (x0 :: x1 :: x2 :: x3 :: x4 :: x5 :: x6 :: x7 :: x8 :: x9 :: x10 :: t) (.int v :: st) h = ru 66 159 (x0 :: x1 :: x2 :: x3 :: x4 :: x5 :: x6 :: x7 :: x8 :: eKl x9 :: some (.int v) :: t) st h) ∧
  (∀ (x0 x1 x2 x3 x4 x5 x6 x7 x8 x9 : Option Value) (v : Int32) (t : eL) (st : List Value) (h : eH), ru 66 159 (x0 :: x1 :: x2 :: x3 :: x4 :: x5 :: x6 :: x7 :: x8 :: x9 :: some (.int v) :: t) st h = ru 66 161 (x0 :: x1 :: x2 :: x3 :: x4 :: x5 :: x6 :: x7 :: x8 :: x9 :: some (.int v) :: t) (.int v :: st) h) ∧
  (∀ (x : Int32) (ls : eL) (st : List Value) (h : eH), ru 66 161 ls (.int x :: st) h = swF (eSw 161 x 217 0 6 #[43, 69, 69, 97, 121, 147, 173]) (fun z => ru 66 z ls st h)) ∧
  (∀ (x0 x1 x2 x3 x4 x5 x6 x7 : Option Value) (v : Int64) (t : eL) (st : List Value) (h : eH), ru 66 204 (x0 :: x1 :: x2 :: x3 :: x4 :: x5 :: x6 :: x7 :: some (.long v) :: t) st h = ru 66 206 (x0 :: x1 :: x2 :: x3 :: x4 :: x5 :: x6 :: x7 :: some (.long v) :: t) (.long v :: st) h) ∧
  (∀ (ls : eL) (st : List Value) (h : eH), ru 66 206 ls st h = ru 66 207 ls (.long (lN 1) :: st) h) ∧
  (∀ (x y : Int64) (ls : eL) (st : List Value) (h : eH), ru 66 207 ls (.long y :: .long x :: st) h = ru 66 208 ls (.int (lg_cmp x y) :: st) h) ∧
  (∀ (x : Int32) (ls : eL) (st : List Value) (h : eH), ru 66 208 ls (.int x :: st) h = if x < 0 then ru 66 224 ls st h else ru 66 211 ls st h) ∧
  (∀ (x0 x1 x2 x3 x4 x5 x6 x7 : Option Value) (v : Int64) (t : eL) (st : List Value) (h : eH), ru 66 211 (x0 :: x1 :: x2 :: x3 :: x4 :: x5 :: x6 :: x7 :: some (.long v) :: t) st h = ru 66 213 (x0 :: x1 :: x2 :: x3 :: x4 :: x5 :: x6 :: x7 :: some (.long v) :: t) (.long v :: st) h) ∧
  (∀ (ls : eL) (st : List Value) (h : eH), ru 66 213 ls st h = ru 66 216 ls (.long (lN 8) :: st) h) ∧
  (∀ (x y : Int64) (ls : eL) (st : List Value) (h : eH), ru 66 216 ls (.long y :: .long x :: st) h = ru 66 217 ls (.int (lg_cmp x y) :: st) h) ∧
  (∀ (x : Int32) (ls : eL) (st : List Value) (h : eH), ru 66 217 ls (.int x :: st) h = if 0 < x then ru 66 224 ls st h else ru 66 220 ls st h) ∧
  (∀ (ls : eL) (st : List Value) (h : eH), ru 66 220 ls st h = ru 66 221 ls (.int (nI 1) :: st) h) ∧
  (∀ (ls : eL) (st : List Value) (h : eH), ru 66 221 ls st h = ru 66 225 ls st h) ∧
  (∀ (ls : eL) (st : List Value) (h : eH), ru 66 224 ls st h = ru 66 225 ls (.int (nI 0) :: st) h) ∧
  (∀ (x0 x1 x2 x3 x4 x5 x6 x7 x8 x9 x10 x11 : Option Value) (v : Int32) (t : eL) (st : List Value) (h : eH), ru 66 225 (x0 :: x1 :: x2 :: x3 :: x4 :: x5 :: x6 :: x7 :: x8 :: x9 :: x10 :: x11 :: t) (.int v :: st) h = ru 66 227 (x0 :: x1 :: x2 :: x3 :: x4 :: x5 :: x6 :: x7 :: x8 :: x9 :: eKl x10 :: some (.int v) :: t) st h) ∧
  (∀ (ls : eL) (st : List Value) (h : eH), ru 66 227 ls st h = ru 66 401 ls st h) ∧
  (∀ (x0 x1 x2 x3 x4 x5 x6 x7 : Option Value) (v : Int64) (t : eL) (st : List Value) (h : eH), ru 66 230 (x0 :: x1 :: x2 :: x3 :: x4 :: x5 :: x6 :: x7 :: some (.long v) :: t) st h = ru 66 232 (x0 :: x1 :: x2 :: x3 :: x4 :: x5 :: x6 :: x7 :: some (.long v) :: t) (.long v :: st) h) ∧
  (∀ (ls : eL) (st : List Value) (h : eH), ru 66 232 ls st h = ru 66 235 ls (.long (-lN 20) :: st) h) ∧
  (∀ (x y : Int64) (ls : eL) (st : List Value) (h : eH), ru 66 235 ls (.long y :: .long x :: st) h = ru 66 236 ls (.int (lg_cmp x y) :: st) h) ∧
  (∀ (x : Int32) (ls : eL) (st : List Value) (h : eH), ru 66 236 ls (.int x :: st) h = if x < 0 then ru 66 252 ls st h else ru 66 239 ls st h) ∧
  (∀ (x0 x1 x2 x3 x4 x5 x6 x7 : Option Value) (v : Int64) (t : eL) (st : List Value) (h : eH), ru 66 239 (x0 :: x1 :: x2 :: x3 :: x4 :: x5 :: x6 :: x7 :: some (.long v) :: t) st h = ru 66 241 (x0 :: x1 :: x2 :: x3 :: x4 :: x5 :: x6 :: x7 :: some (.long v) :: t) (.long v :: st) h) ∧
  (∀ (ls : eL) (st : List Value) (h : eH), ru 66 241 ls st h = ru 66 244 ls (.long (lN 20) :: st) h) ∧
  (∀ (x y : Int64) (ls : eL) (st : List Value) (h : eH), ru 66 244 ls (.long y :: .long x :: st) h = ru 66 245 ls (.int (lg_cmp x y) :: st) h) ∧
  (∀ (x : Int32) (ls : eL) (st : List Value) (h : eH), ru 66 245 ls (.int x :: st) h = if 0 < x then ru 66 252 ls st h else ru 66 248 ls st h) ∧
  (∀ (ls : eL) (st : List Value) (h : eH), ru 66 248 ls st h = ru 66 249 ls (.int (nI 1) :: st) h) ∧
  (∀ (ls : eL) (st : List Value) (h : eH), ru 66 249 ls st h = ru 66 253 ls st h) ∧
  (∀ (ls : eL) (st : List Value) (h : eH), ru 66 252 ls st h = ru 66 253 ls (.int (nI 0) :: st) h) ∧
  (∀ (x0 x1 x2 x3 x4 x5 x6 x7 x8 x9 x10 x11 : Option Value) (v : Int32) (t : eL) (st : List Value) (h : eH), ru 66 253 (x0 :: x1 :: x2 :: x3 :: x4 :: x5 :: x6 :: x7 :: x8 :: x9 :: x10 :: x11 :: t) (.int v :: st) h = ru 66 255 (x0 :: x1 :: x2 :: x3 :: x4 :: x5 :: x6 :: x7 :: x8 :: x9 :: eKl x10 :: some (.int v) :: t) st h) ∧
  (∀ (ls : eL) (st : List Value) (h : eH), ru 66 255 ls st h = ru 66 401 ls st h) ∧
  (∀ (x0 x1 x2 x3 x4 x5 x6 x7 : Option Value) (v : Int64) (t : eL) (st : List Value) (h : eH), ru 66 258 (x0 :: x1 :: x2 :: x3 :: x4 :: x5 :: x6 :: x7 :: some (.long v) :: t) st h = ru 66 260 (x0 :: x1 :: x2 :: x3 :: x4 :: x5 :: x6 :: x7 :: some (.long v) :: t) (.long v :: st) h) ∧
  (∀ (ls : eL) (st : List Value) (h : eH), ru 66 260 ls st h = ru 66 261 ls (.long (lN 0) :: st) h) ∧
  (∀ (x y : Int64) (ls : eL) (st : List Value) (h : eH), ru 66 261 ls (.long y :: .long x :: st) h = ru 66 262 ls (.int (lg_cmp x y) :: st) h) ∧
  (∀ (x : Int32) (ls : eL) (st : List Value) (h : eH), ru 66 262 ls (.int x :: st) h = if x = 0 then ru 66 272 ls st h else ru 66 265 ls st h) ∧
  (∀ (x0 x1 x2 x3 x4 x5 x6 x7 : Option Value) (v : Int64) (t : eL) (st : List Value) (h : eH), ru 66 265 (x0 :: x1 :: x2 :: x3 :: x4 :: x5 :: x6 :: x7 :: some (.long v) :: t) st h = ru 66 267 (x0 :: x1 :: x2 :: x3 :: x4 :: x5 :: x6 :: x7 :: some (.long v) :: t) (.long v :: st) h) ∧
  (∀ (ls : eL) (st : List Value) (h : eH), ru 66 267 ls st h = ru 66 268 ls (.long (lN 1) :: st) h) ∧
  (∀ (x y : Int64) (ls : eL) (st : List Value) (h : eH), ru 66 268 ls (.long y :: .long x :: st) h = ru 66 269 ls (.int (lg_cmp x y) :: st) h) ∧
  (∀ (x : Int32) (ls : eL) (st : List Value) (h : eH), ru 66 269 ls (.int x :: st) h = if x = 0 then ru 66 272 ls st h else ru 66 276 ls st h) ∧
  (∀ (ls : eL) (st : List Value) (h : eH), ru 66 272 ls st h = ru 66 273 ls (.int (nI 1) :: st) h) ∧
  (∀ (ls : eL) (st : List Value) (h : eH), ru 66 273 ls st h = ru 66 277 ls st h) ∧
  (∀ (ls : eL) (st : List Value) (h : eH), ru 66 276 ls st h = ru 66 277 ls (.int (nI 0) :: st) h) ∧
  (∀ (x0 x1 x2 x3 x4 x5 x6 x7 x8 x9 x10 x11 : Option Value) (v : Int32) (t : eL) (st : List Value) (h : eH), ru 66 277 (x0 :: x1 :: x2 :: x3 :: x4 :: x5 :: x6 :: x7 :: x8 :: x9 :: x10 :: x11 :: t) (.int v :: st) h = ru 66 279 (x0 :: x1 :: x2 :: x3 :: x4 :: x5 :: x6 :: x7 :: x8 :: x9 :: eKl x10 :: some (.int v) :: t) st h) ∧
  (∀ (ls : eL) (st : List Value) (h : eH), ru 66 279 ls st h = ru 66 401 ls st h) ∧
  (∀ (x0 x1 x2 x3 x4 x5 x6 x7 : Option Value) (v : Int64) (t : eL) (st : List Value) (h : eH), ru 66 282 (x0 :: x1 :: x2 :: x3 :: x4 :: x5 :: x6 :: x7 :: some (.long v) :: t) st h = ru 66 284 (x0 :: x1 :: x2 :: x3 :: x4 :: x5 :: x6 :: x7 :: some (.long v) :: t) (.long v :: st) h) ∧
  (∀ (ls : eL) (st : List Value) (h : eH), ru 66 284 ls st h = ru 66 285 ls (.long (lN 0) :: st) h) ∧
  (∀ (x y : Int64) (ls : eL) (st : List Value) (h : eH), ru 66 285 ls (.long y :: .long x :: st) h = ru 66 286 ls (.int (lg_cmp x y) :: st) h) ∧
  (∀ (x : Int32) (ls : eL) (st : List Value) (h : eH), ru 66 286 ls (.int x :: st) h = if x < 0 then ru 66 302 ls st h else ru 66 289 ls st h) ∧
  (∀ (x0 x1 x2 x3 x4 x5 x6 x7 : Option Value) (v : Int64) (t : eL) (st : List Value) (h : eH), ru 66 289 (x0 :: x1 :: x2 :: x3 :: x4 :: x5 :: x6 :: x7 :: some (.long v) :: t) st h = ru 66 291 (x0 :: x1 :: x2 :: x3 :: x4 :: x5 :: x6 :: x7 :: some (.long v) :: t) (.long v :: st) h) ∧
  (∀ (ls : eL) (st : List Value) (h : eH), ru 66 291 ls st h = ru 66 294 ls (.long (lN 14) :: st) h) ∧
  (∀ (x y : Int64) (ls : eL) (st : List Value) (h : eH), ru 66 294 ls (.long y :: .long x :: st) h = ru 66 295 ls (.int (lg_cmp x y) :: st) h) ∧
  (∀ (x : Int32) (ls : eL) (st : List Value) (h : eH), ru 66 295 ls (.int x :: st) h = if 0 < x then ru 66 302 ls st h else ru 66 298 ls st h) ∧
  (∀ (ls : eL) (st : List Value) (h : eH), ru 66 298 ls st h = ru 66 299 ls (.int (nI 1) :: st) h) ∧
  (∀ (ls : eL) (st : List Value) (h : eH), ru 66 299 ls st h = ru 66 303 ls st h) ∧
  (∀ (ls : eL) (st : List Value) (h : eH), ru 66 302 ls st h = ru 66 303 ls (.int (nI 0) :: st) h) ∧
  (∀ (x0 x1 x2 x3 x4 x5 x6 x7 x8 x9 x10 x11 : Option Value) (v : Int32) (t : eL) (st : List Value) (h : eH), ru 66 303 (x0 :: x1 :: x2 :: x3 :: x4 :: x5 :: x6 :: x7 :: x8 :: x9 :: x10 :: x11 :: t) (.int v :: st) h = ru 66 305 (x0 :: x1 :: x2 :: x3 :: x4 :: x5 :: x6 :: x7 :: x8 :: x9 :: eKl x10 :: some (.int v) :: t) st h) ∧
  (∀ (ls : eL) (st : List Value) (h : eH), ru 66 305 ls st h = ru 66 401 ls st h) ∧
  (∀ (x0 x1 x2 x3 x4 x5 x6 x7 : Option Value) (v : Int64) (t : eL) (st : List Value) (h : eH), ru 66 308 (x0 :: x1 :: x2 :: x3 :: x4 :: x5 :: x6 :: x7 :: some (.long v) :: t) st h = ru 66 310 (x0 :: x1 :: x2 :: x3 :: x4 :: x5 :: x6 :: x7 :: some (.long v) :: t) (.long v :: st) h) ∧
  (∀ (ls : eL) (st : List Value) (h : eH), ru 66 310 ls st h = ru 66 311 ls (.long (lN 0) :: st) h) ∧
  (∀ (x y : Int64) (ls : eL) (st : List Value) (h : eH), ru 66 311 ls (.long y :: .long x :: st) h = ru 66 312 ls (.int (lg_cmp x y) :: st) h) ∧
  (∀ (x : Int32) (ls : eL) (st : List Value) (h : eH), ru 66 312 ls (.int x :: st) h = if x < 0 then ru 66 328 ls st h else ru 66 315 ls st h) ∧
  (∀ (x0 x1 x2 x3 x4 x5 x6 x7 : Option Value) (v : Int64) (t : eL) (st : List Value) (h : eH), ru 66 315 (x0 :: x1 :: x2 :: x3 :: x4 :: x5 :: x6 :: x7 :: some (.long v) :: t) st h = ru 66 317 (x0 :: x1 :: x2 :: x3 :: x4 :: x5 :: x6 :: x7 :: some (.long v) :: t) (.long v :: st) h) ∧
  (∀ (x0 x1 x2 x3 : Option Value) (v : Int32) (t : eL) (st : List Value) (h : eH), ru 66 317 (x0 :: x1 :: x2 :: x3 :: some (.int v) :: t) st h = ru 66 319 (x0 :: x1 :: x2 :: x3 :: some (.int v) :: t) (.int v :: st) h) ∧
  (∀ (x : Int32) (ls : eL) (st : List Value) (h : eH), ru 66 319 ls (.int x :: st) h = ru 66 320 ls (.long (x.toInt64) :: st) h) ∧
  (∀ (x y : Int64) (ls : eL) (st : List Value) (h : eH), ru 66 320 ls (.long y :: .long x :: st) h = ru 66 321 ls (.int (lg_cmp x y) :: st) h) ∧
  (∀ (x : Int32) (ls : eL) (st : List Value) (h : eH), ru 66 321 ls (.int x :: st) h = if 0 ≤ x then ru 66 328 ls st h else ru 66 324 ls st h) ∧
  (∀ (ls : eL) (st : List Value) (h : eH), ru 66 324 ls st h = ru 66 325 ls (.int (nI 1) :: st) h) ∧
  (∀ (ls : eL) (st : List Value) (h : eH), ru 66 325 ls st h = ru 66 329 ls st h) ∧
  (∀ (ls : eL) (st : List Value) (h : eH), ru 66 328 ls st h = ru 66 329 ls (.int (nI 0) :: st) h) ∧
  (∀ (x0 x1 x2 x3 x4 x5 x6 x7 x8 x9 x10 x11 : Option Value) (v : Int32) (t : eL) (st : List Value) (h : eH), ru 66 329 (x0 :: x1 :: x2 :: x3 :: x4 :: x5 :: x6 :: x7 :: x8 :: x9 :: x10 :: x11 :: t) (.int v :: st) h = ru 66 331 (x0 :: x1 :: x2 :: x3 :: x4 :: x5 :: x6 :: x7 :: x8 :: x9 :: eKl x10 :: some (.int v) :: t) st h) ∧
  (∀ (ls : eL) (st : List Value) (h : eH), ru 66 331 ls st h = ru 66 401 ls st h) ∧
  (∀ (x0 x1 x2 x3 x4 x5 x6 x7 : Option Value) (v : Int64) (t : eL) (st : List Value) (h : eH), ru 66 334 (x0 :: x1 :: x2 :: x3 :: x4 :: x5 :: x6 :: x7 :: some (.long v) :: t) st h = ru 66 336 (x0 :: x1 :: x2 :: x3 :: x4 :: x5 :: x6 :: x7 :: some (.long v) :: t) (.long v :: st) h) ∧
  (∀ (ls : eL) (st : List Value) (h : eH), ru 66 336 ls st h = ru 66 337 ls (.long (lN 0) :: st) h) ∧
  (∀ (x y : Int64) (ls : eL) (st : List Value) (h : eH), ru 66 337 ls (.long y :: .long x :: st) h = ru 66 338 ls (.int (lg_cmp x y) :: st) h) ∧
  (∀ (x : Int32) (ls : eL) (st : List Value) (h : eH), ru 66 338 ls (.int x :: st) h = if x < 0 then ru 66 372 ls st h else ru 66 341 ls st h) ∧
  (∀ (x0 x1 x2 x3 x4 x5 x6 x7 : Option Value) (v : Int64) (t : eL) (st : List Value) (h : eH), ru 66 341 (x0 :: x1 :: x2 :: x3 :: x4 :: x5 :: x6 :: x7 :: some (.long v) :: t) st h = ru 66 343 (x0 :: x1 :: x2 :: x3 :: x4 :: x5 :: x6 :: x7 :: some (.long v) :: t) (.long v :: st) h) ∧
  (∀ (x0 x1 x2 x3 : Option Value) (v : Int32) (t : eL) (st : List Value) (h : eH), ru 66 343 (x0 :: x1 :: x2 :: x3 :: some (.int v) :: t) st h = ru 66 345 (x0 :: x1 :: x2 :: x3 :: some (.int v) :: t) (.int v :: st) h) ∧
  (∀ (x : Int32) (ls : eL) (st : List Value) (h : eH), ru 66 345 ls (.int x :: st) h = ru 66 346 ls (.long (x.toInt64) :: st) h) ∧
  (∀ (x y : Int64) (ls : eL) (st : List Value) (h : eH), ru 66 346 ls (.long y :: .long x :: st) h = ru 66 347 ls (.int (lg_cmp x y) :: st) h) ∧
  (∀ (x : Int32) (ls : eL) (st : List Value) (h : eH), ru 66 347 ls (.int x :: st) h = if 0 ≤ x then ru 66 372 ls st h else ru 66 350 ls st h) ∧
  (∀ (v : Nat) (t : eL) (st : List Value) (h : eH), ru 66 350 (some (.ref v) :: t) st h = ru 66 351 (some (.ref v) :: t) (.ref v :: st) h) ∧
  (∀ (v : Nat) (t : eL) (st : List Value) (h : eH), ru 66 351 (some (.ref v) :: t) st h = ru 66 352 (some (.ref v) :: t) (.ref v :: st) h) ∧
  (∀ (a : Nat) (ls : eL) (st : List Value) (h : eH), ru 66 352 ls (.ref a :: st) h = gF (h.1 a) 11 18 (fun v => ru 66 355 ls (v :: st) h)) ∧
  (∀ (x0 x1 x2 : Option Value) (v : Int32) (t : eL) (st : List Value) (h : eH), ru 66 355 (x0 :: x1 :: x2 :: some (.int v) :: t) st h = ru 66 356 (x0 :: x1 :: x2 :: some (.int v) :: t) (.int v :: st) h) ∧
  (∀ (ls : eL) (st : List Value) (h : eH), ru 66 356 ls st h = ru 66 357 ls (.int (nI 1) :: st) h) ∧
  (∀ (x y : Int32) (ls : eL) (st : List Value) (h : eH), ru 66 357 ls (.int y :: .int x :: st) h = ru 66 358 ls (.int (x - y) :: st) h) ∧
  (∀ (i : Int32) (a : Nat) (ls : eL) (st : List Value) (h : eH), ru 66 358 ls (.int i :: .ref a :: st) h = aI (h.1 a) 0 i (fun v => ru 66 359 ls (.int v :: st) h)) ∧
  (∀ (x0 x1 x2 x3 x4 x5 x6 x7 : Option Value) (v : Int64) (t : eL) (st : List Value) (h : eH), ru 66 359 (x0 :: x1 :: x2 :: x3 :: x4 :: x5 :: x6 :: x7 :: some (.long v) :: t) st h = ru 66 361 (x0 :: x1 :: x2 :: x3 :: x4 :: x5 :: x6 :: x7 :: some (.long v) :: t) (.long v :: st) h) ∧
  (∀ (x : Int64) (ls : eL) (st : List Value) (h : eH), ru 66 361 ls (.long x :: st) h = ru 66 362 ls (.int (x.toInt32) :: st) h) ∧
  (∀ (a0 : Nat) (a1 : Int32) (a2 : Int32) (ls : eL) (h : eH), ru 66 362 ls [.int a2, .int a1, .ref a0] h = cl (den 54 [.ref a0, .int a1, .int a2] h) (fun v h => ru 66 365 ls (v.toList ++ []) h)) ∧
  (∀ (x : Int32) (ls : eL) (st : List Value) (h : eH), ru 66 365 ls (.int x :: st) h = if x = 0 then ru 66 372 ls st h else ru 66 368 ls st h) ∧
  (∀ (ls : eL) (st : List Value) (h : eH), ru 66 368 ls st h = ru 66 369 ls (.int (nI 1) :: st) h) ∧
  (∀ (ls : eL) (st : List Value) (h : eH), ru 66 369 ls st h = ru 66 373 ls st h) ∧
  (∀ (ls : eL) (st : List Value) (h : eH), ru 66 372 ls st h = ru 66 373 ls (.int (nI 0) :: st) h) ∧
  (∀ (x0 x1 x2 x3 x4 x5 x6 x7 x8 x9 x10 x11 : Option Value) (v : Int32) (t : eL) (st : List Value) (h : eH), ru 66 373 (x0 :: x1 :: x2 :: x3 :: x4 :: x5 :: x6 :: x7 :: x8 :: x9 :: x10 :: x11 :: t) (.int v :: st) h = ru 66 375 (x0 :: x1 :: x2 :: x3 :: x4 :: x5 :: x6 :: x7 :: x8 :: x9 :: eKl x10 :: some (.int v) :: t) st h) ∧
  (∀ (ls : eL) (st : List Value) (h : eH), ru 66 375 ls st h = ru 66 401 ls st h) ∧
  (∀ (x0 x1 x2 x3 x4 x5 x6 x7 : Option Value) (v : Int64) (t : eL) (st : List Value) (h : eH), ru 66 378 (x0 :: x1 :: x2 :: x3 :: x4 :: x5 :: x6 :: x7 :: some (.long v) :: t) st h = ru 66 380 (x0 :: x1 :: x2 :: x3 :: x4 :: x5 :: x6 :: x7 :: some (.long v) :: t) (.long v :: st) h) ∧
  (∀ (ls : eL) (st : List Value) (h : eH), ru 66 380 ls st h = ru 66 381 ls (.long (lN 0) :: st) h) ∧
  (∀ (x y : Int64) (ls : eL) (st : List Value) (h : eH), ru 66 381 ls (.long y :: .long x :: st) h = ru 66 382 ls (.int (lg_cmp x y) :: st) h) ∧
  (∀ (x : Int32) (ls : eL) (st : List Value) (h : eH), ru 66 382 ls (.int x :: st) h = if x < 0 then ru 66 398 ls st h else ru 66 385 ls st h) ∧
  (∀ (x0 x1 x2 x3 x4 x5 x6 x7 : Option Value) (v : Int64) (t : eL) (st : List Value) (h : eH), ru 66 385 (x0 :: x1 :: x2 :: x3 :: x4 :: x5 :: x6 :: x7 :: some (.long v) :: t) st h = ru 66 387 (x0 :: x1 :: x2 :: x3 :: x4 :: x5 :: x6 :: x7 :: some (.long v) :: t) (.long v :: st) h) ∧
  (∀ (ls : eL) (st : List Value) (h : eH), ru 66 387 ls st h = ru 66 390 ls (.long (lN 2) :: st) h) ∧
  (∀ (x y : Int64) (ls : eL) (st : List Value) (h : eH), ru 66 390 ls (.long y :: .long x :: st) h = ru 66 391 ls (.int (lg_cmp x y) :: st) h) ∧
  (∀ (x : Int32) (ls : eL) (st : List Value) (h : eH), ru 66 391 ls (.int x :: st) h = if 0 < x then ru 66 398 ls st h else ru 66 394 ls st h) ∧
  (∀ (ls : eL) (st : List Value) (h : eH), ru 66 394 ls st h = ru 66 395 ls (.int (nI 1) :: st) h) ∧
  (∀ (ls : eL) (st : List Value) (h : eH), ru 66 395 ls st h = ru 66 399 ls st h) ∧
  (∀ (ls : eL) (st : List Value) (h : eH), ru 66 398 ls st h = ru 66 399 ls (.int (nI 0) :: st) h) ∧
  (∀ (x0 x1 x2 x3 x4 x5 x6 x7 x8 x9 x10 x11 : Option Value) (v : Int32) (t : eL) (st : List Value) (h : eH), ru 66 399 (x0 :: x1 :: x2 :: x3 :: x4 :: x5 :: x6 :: x7 :: x8 :: x9 :: x10 :: x11 :: t) (.int v :: st) h = ru 66 401 (x0 :: x1 :: x2 :: x3 :: x4 :: x5 :: x6 :: x7 :: x8 :: x9 :: eKl x10 :: some (.int v) :: t) st h) ∧
  (∀ (x0 x1 x2 x3 x4 x5 x6 x7 x8 x9 x10 : Option Value) (v : Int32) (t : eL) (st : List Value) (h : eH), ru 66 401 (x0 :: x1 :: x2 :: x3 :: x4 :: x5 :: x6 :: x7 :: x8 :: x9 :: x10 :: some (.int v) :: t) st h = ru 66 403 (x0 :: x1 :: x2 :: x3 :: x4 :: x5 :: x6 :: x7 :: x8 :: x9 :: x10 :: some (.int v) :: t) (.int v :: st) h) ∧
  (∀ (x : Int32) (ls : eL) (st : List Value) (h : eH), ru 66 403 ls (.int x :: st) h = if x = 0 then ru 66 406 ls st h else ru 66 409 ls st h) ∧
  (∀ (ls : eL) (st : List Value) (h : eH), ru 66 406 ls st h = ru 66 408 ls (.int ((-4)) :: st) h) ∧
  (∀ (x : Int32) (ls : eL) (h : eH), ru 66 408 ls [.int x] h = some (some (.int x), h)) ∧
  (∀ (v : Nat) (t : eL) (st : List Value) (h : eH), ru 66 409 (some (.ref v) :: t) st h = ru 66 410 (some (.ref v) :: t) (.ref v :: st) h) ∧
  (∀ (a : Nat) (ls : eL) (st : List Value) (h : eH), ru 66 410 ls (.ref a :: st) h = gF (h.1 a) 11 18 (fun v => ru 66 413 ls (v :: st) h)) ∧
  (∀ (x0 x1 x2 : Option Value) (v : Int32) (t : eL) (st : List Value) (h : eH), ru 66 413 (x0 :: x1 :: x2 :: some (.int v) :: t) st h = ru 66 414 (x0 :: x1 :: x2 :: some (.int v) :: t) (.int v :: st) h) ∧
  (∀ (x0 x1 x2 x3 x4 x5 x6 x7 : Option Value) (v : Int64) (t : eL) (st : List Value) (h : eH), ru 66 414 (x0 :: x1 :: x2 :: x3 :: x4 :: x5 :: x6 :: x7 :: some (.long v) :: t) st h = ru 66 416 (x0 :: x1 :: x2 :: x3 :: x4 :: x5 :: x6 :: x7 :: some (.long v) :: t) (.long v :: st) h) ∧
  (∀ (x : Int64) (ls : eL) (st : List Value) (h : eH), ru 66 416 ls (.long x :: st) h = ru 66 417 ls (.int (x.toInt32) :: st) h) ∧
  (∀ (x : Int32) (i : Int32) (a : Nat) (ls : eL) (st : List Value) (h : eH), ru 66 417 ls (.int x :: .int i :: .ref a :: st) h = wI (h.1 a) i x (fun e => ru 66 418 ls st (eUp h a e))) ∧
  (∀ (x0 x1 x2 x3 x4 x5 x6 x7 x8 x9 : Option Value) (v : Int32) (t : eL) (st : List Value) (h : eH), ru 66 418 (x0 :: x1 :: x2 :: x3 :: x4 :: x5 :: x6 :: x7 :: x8 :: x9 :: some (.int v) :: t) st h = ru 66 420 (x0 :: x1 :: x2 :: x3 :: x4 :: x5 :: x6 :: x7 :: x8 :: x9 :: some (.int v) :: t) (.int v :: st) h) ∧
  (∀ (x : Int32) (ls : eL) (st : List Value) (h : eH), ru 66 420 ls (.int x :: st) h = if x = 0 then ru 66 423 ls st h else ru 66 428 ls st h) ∧
  (∀ (x0 x1 x2 x3 x4 x5 x6 x7 : Option Value) (v : Int64) (t : eL) (st : List Value) (h : eH), ru 66 423 (x0 :: x1 :: x2 :: x3 :: x4 :: x5 :: x6 :: x7 :: some (.long v) :: t) st h = ru 66 425 (x0 :: x1 :: x2 :: x3 :: x4 :: x5 :: x6 :: x7 :: some (.long v) :: t) (.long v :: st) h) ∧
  (∀ (x : Int64) (ls : eL) (st : List Value) (h : eH), ru 66 425 ls (.long x :: st) h = ru 66 426 ls (.int (x.toInt32) :: st) h) ∧
  (∀ (x0 x1 x2 x3 x4 : Option Value) (v : Int32) (t : eL) (st : List Value) (h : eH), ru 66 426 (x0 :: x1 :: x2 :: x3 :: x4 :: t) (.int v :: st) h = ru 66 428 (x0 :: x1 :: x2 :: eKl x3 :: some (.int v) :: t) st h) ∧
  (∀ (x0 x1 x2 x3 x4 x5 x6 x7 x8 x9 : Option Value) (v : Int32) (t : eL) (st : List Value) (h : eH), ru 66 428 (x0 :: x1 :: x2 :: x3 :: x4 :: x5 :: x6 :: x7 :: x8 :: x9 :: some (.int v) :: t) st h = ru 66 430 (x0 :: x1 :: x2 :: x3 :: x4 :: x5 :: x6 :: x7 :: x8 :: x9 :: some (.int v) :: t) (.int v :: st) h) ∧
  (∀ (ls : eL) (st : List Value) (h : eH), ru 66 430 ls st h = ru 66 431 ls (.int (nI 4) :: st) h) ∧
  (∀ (x y : Int32) (ls : eL) (st : List Value) (h : eH), ru 66 431 ls (.int y :: .int x :: st) h = if x = y then ru 66 434 ls st h else ru 66 439 ls st h) ∧
  (∀ (x0 x1 x2 x3 x4 x5 x6 x7 : Option Value) (v : Int64) (t : eL) (st : List Value) (h : eH), ru 66 434 (x0 :: x1 :: x2 :: x3 :: x4 :: x5 :: x6 :: x7 :: some (.long v) :: t) st h = ru 66 436 (x0 :: x1 :: x2 :: x3 :: x4 :: x5 :: x6 :: x7 :: some (.long v) :: t) (.long v :: st) h) ∧
  (∀ (x : Int64) (ls : eL) (st : List Value) (h : eH), ru 66 436 ls (.long x :: st) h = ru 66 437 ls (.int (x.toInt32) :: st) h) ∧
  (∀ (x0 x1 x2 x3 x4 x5 : Option Value) (v : Int32) (t : eL) (st : List Value) (h : eH), ru 66 437 (x0 :: x1 :: x2 :: x3 :: x4 :: x5 :: t) (.int v :: st) h = ru 66 439 (x0 :: x1 :: x2 :: x3 :: eKl x4 :: some (.int v) :: t) st h) ∧
  (∀ (x0 x1 x2 : Option Value) (v : Int32) (t : eL) (st : List Value) (h : eH), ru 66 439 (x0 :: x1 :: x2 :: some (.int v) :: t) st h = ru 66 442 (x0 :: x1 :: eKl x2 :: some (.int (v + 1)) :: t) st h) ∧
  (∀ (ls : eL) (st : List Value) (h : eH), ru 66 442 ls st h = ru 66 39 ls st h) ∧
  (∀ (x0 x1 x2 x3 : Option Value) (v : Int32) (t : eL) (st : List Value) (h : eH), ru 66 446 (x0 :: x1 :: x2 :: x3 :: some (.int v) :: t) st h = ru 66 448 (x0 :: x1 :: x2 :: x3 :: some (.int v) :: t) (.int v :: st) h) ∧
  (∀ (v : Int32) (a : Nat) (ls : eL) (st : List Value) (h : eH), ru 66 448 ls (.int v :: .ref a :: st) h = pF (h.1 a) 11 4 (.int v) (fun e => ru 66 451 ls st (eUp h a e))) ∧
  (∀ (ls : eL) (st : List Value) (h : eH), ru 66 451 ls st h = ru 66 452 ls (.int (nI 0) :: st) h) ∧
  (∀ (x0 x1 x2 x3 x4 x5 x6 : Option Value) (v : Int32) (t : eL) (st : List Value) (h : eH), ru 66 452 (x0 :: x1 :: x2 :: x3 :: x4 :: x5 :: x6 :: t) (.int v :: st) h = ru 66 454 (x0 :: x1 :: x2 :: x3 :: x4 :: eKl x5 :: some (.int v) :: t) st h) ∧
  (∀ (x0 x1 x2 x3 : Option Value) (v : Int32) (t : eL) (st : List Value) (h : eH), ru 66 456 (x0 :: x1 :: x2 :: x3 :: some (.int v) :: t) st h = ru 66 458 (x0 :: x1 :: x2 :: x3 :: some (.int v) :: t) (.int v :: st) h) ∧
  (∀ (x y : Int32) (ls : eL) (st : List Value) (h : eH), ru 66 458 ls (.int y :: .int x :: st) h = if y ≤ x then ru 66 546 ls st h else ru 66 461 ls st h) ∧
  (∀ (v : Nat) (t : eL) (st : List Value) (h : eH), ru 66 461 (some (.ref v) :: t) st h = ru 66 462 (some (.ref v) :: t) (.ref v :: st) h) ∧
  (∀ (a : Nat) (ls : eL) (st : List Value) (h : eH), ru 66 462 ls (.ref a :: st) h = gF (h.1 a) 11 5 (fun v => ru 66 465 ls (v :: st) h)) ∧
  (∀ (x0 x1 x2 x3 x4 x5 : Option Value) (v : Int32) (t : eL) (st : List Value) (h : eH), ru 66 465 (x0 :: x1 :: x2 :: x3 :: x4 :: x5 :: some (.int v) :: t) st h = ru 66 467 (x0 :: x1 :: x2 :: x3 :: x4 :: x5 :: some (.int v) :: t) (.int v :: st) h) ∧
  (∀ (v : Nat) (t : eL) (st : List Value) (h : eH), ru 66 467 (some (.ref v) :: t) st h = ru 66 468 (some (.ref v) :: t) (.ref v :: st) h) ∧
  (∀ (a : Nat) (ls : eL) (st : List Value) (h : eH), ru 66 468 ls (.ref a :: st) h = gF (h.1 a) 11 18 (fun v => ru 66 471 ls (v :: st) h)) ∧
  (∀ (ls : eL) (st : List Value) (h : eH), ru 66 471 ls st h = ru 66 472 ls (.int (nI 1) :: st) h) ∧
  (∀ (ls : eL) (st : List Value) (h : eH), ru 66 472 ls st h = ru 66 473 ls (.int (nI 3) :: st) h) ∧
  (∀ (x0 x1 x2 x3 x4 x5 : Option Value) (v : Int32) (t : eL) (st : List Value) (h : eH), ru 66 473 (x0 :: x1 :: x2 :: x3 :: x4 :: x5 :: some (.int v) :: t) st h = ru 66 475 (x0 :: x1 :: x2 :: x3 :: x4 :: x5 :: some (.int v) :: t) (.int v :: st) h) ∧
  (∀ (x y : Int32) (ls : eL) (st : List Value) (h : eH), ru 66 475 ls (.int y :: .int x :: st) h = ru 66 476 ls (.int (x * y) :: st) h) ∧
  (∀ (x y : Int32) (ls : eL) (st : List Value) (h : eH), ru 66 476 ls (.int y :: .int x :: st) h = ru 66 477 ls (.int (x + y) :: st) h) ∧
  (∀ (i : Int32) (a : Nat) (ls : eL) (st : List Value) (h : eH), ru 66 477 ls (.int i :: .ref a :: st) h = aI (h.1 a) 0 i (fun v => ru 66 478 ls (.int v :: st) h)) ∧
  (∀ (x : Int32) (i : Int32) (a : Nat) (ls : eL) (st : List Value) (h : eH), ru 66 478 ls (.int x :: .int i :: .ref a :: st) h = wI (h.1 a) i x (fun e => ru 66 479 ls st (eUp h a e))) ∧
  (∀ (v : Nat) (t : eL) (st : List Value) (h : eH), ru 66 479 (some (.ref v) :: t) st h = ru 66 480 (some (.ref v) :: t) (.ref v :: st) h) ∧
  (∀ (a : Nat) (ls : eL) (st : List Value) (h : eH), ru 66 480 ls (.ref a :: st) h = gF (h.1 a) 11 6 (fun v => ru 66 483 ls (v :: st) h)) ∧
  (∀ (x0 x1 x2 x3 x4 x5 : Option Value) (v : Int32) (t : eL) (st : List Value) (h : eH), ru 66 483 (x0 :: x1 :: x2 :: x3 :: x4 :: x5 :: some (.int v) :: t) st h = ru 66 485 (x0 :: x1 :: x2 :: x3 :: x4 :: x5 :: some (.int v) :: t) (.int v :: st) h) ∧
  (∀ (v : Nat) (t : eL) (st : List Value) (h : eH), ru 66 485 (some (.ref v) :: t) st h = ru 66 486 (some (.ref v) :: t) (.ref v :: st) h) ∧
  (∀ (a : Nat) (ls : eL) (st : List Value) (h : eH), ru 66 486 ls (.ref a :: st) h = gF (h.1 a) 11 18 (fun v => ru 66 489 ls (v :: st) h)) ∧
  (∀ (ls : eL) (st : List Value) (h : eH), ru 66 489 ls st h = ru 66 490 ls (.int (nI 2) :: st) h) ∧
  (∀ (ls : eL) (st : List Value) (h : eH), ru 66 490 ls st h = ru 66 491 ls (.int (nI 3) :: st) h) ∧
  (∀ (x0 x1 x2 x3 x4 x5 : Option Value) (v : Int32) (t : eL) (st : List Value) (h : eH), ru 66 491 (x0 :: x1 :: x2 :: x3 :: x4 :: x5 :: some (.int v) :: t) st h = ru 66 493 (x0 :: x1 :: x2 :: x3 :: x4 :: x5 :: some (.int v) :: t) (.int v :: st) h) ∧
  (∀ (x y : Int32) (ls : eL) (st : List Value) (h : eH), ru 66 493 ls (.int y :: .int x :: st) h = ru 66 494 ls (.int (x * y) :: st) h) ∧
  (∀ (x y : Int32) (ls : eL) (st : List Value) (h : eH), ru 66 494 ls (.int y :: .int x :: st) h = ru 66 495 ls (.int (x + y) :: st) h) ∧
  (∀ (i : Int32) (a : Nat) (ls : eL) (st : List Value) (h : eH), ru 66 495 ls (.int i :: .ref a :: st) h = aI (h.1 a) 0 i (fun v => ru 66 496 ls (.int v :: st) h)) ∧
  (∀ (x : Int32) (i : Int32) (a : Nat) (ls : eL) (st : List Value) (h : eH), ru 66 496 ls (.int x :: .int i :: .ref a :: st) h = wI (h.1 a) i x (fun e => ru 66 497 ls st (eUp h a e))) ∧
  (∀ (v : Nat) (t : eL) (st : List Value) (h : eH), ru 66 497 (some (.ref v) :: t) st h = ru 66 498 (some (.ref v) :: t) (.ref v :: st) h) ∧
  (∀ (a : Nat) (ls : eL) (st : List Value) (h : eH), ru 66 498 ls (.ref a :: st) h = gF (h.1 a) 11 7 (fun v => ru 66 501 ls (v :: st) h)) ∧
  (∀ (x0 x1 x2 x3 x4 x5 : Option Value) (v : Int32) (t : eL) (st : List Value) (h : eH), ru 66 501 (x0 :: x1 :: x2 :: x3 :: x4 :: x5 :: some (.int v) :: t) st h = ru 66 503 (x0 :: x1 :: x2 :: x3 :: x4 :: x5 :: some (.int v) :: t) (.int v :: st) h) ∧
  (∀ (v : Nat) (t : eL) (st : List Value) (h : eH), ru 66 503 (some (.ref v) :: t) st h = ru 66 504 (some (.ref v) :: t) (.ref v :: st) h) ∧
  (∀ (a : Nat) (ls : eL) (st : List Value) (h : eH), ru 66 504 ls (.ref a :: st) h = gF (h.1 a) 11 18 (fun v => ru 66 507 ls (v :: st) h)) ∧
  (∀ (ls : eL) (st : List Value) (h : eH), ru 66 507 ls st h = ru 66 508 ls (.int (nI 3) :: st) h) ∧
  (∀ (ls : eL) (st : List Value) (h : eH), ru 66 508 ls st h = ru 66 509 ls (.int (nI 3) :: st) h) ∧
  (∀ (x0 x1 x2 x3 x4 x5 : Option Value) (v : Int32) (t : eL) (st : List Value) (h : eH), ru 66 509 (x0 :: x1 :: x2 :: x3 :: x4 :: x5 :: some (.int v) :: t) st h = ru 66 511 (x0 :: x1 :: x2 :: x3 :: x4 :: x5 :: some (.int v) :: t) (.int v :: st) h) ∧
  (∀ (x y : Int32) (ls : eL) (st : List Value) (h : eH), ru 66 511 ls (.int y :: .int x :: st) h = ru 66 512 ls (.int (x * y) :: st) h) ∧
  (∀ (x y : Int32) (ls : eL) (st : List Value) (h : eH), ru 66 512 ls (.int y :: .int x :: st) h = ru 66 513 ls (.int (x + y) :: st) h) ∧
  (∀ (i : Int32) (a : Nat) (ls : eL) (st : List Value) (h : eH), ru 66 513 ls (.int i :: .ref a :: st) h = aI (h.1 a) 0 i (fun v => ru 66 514 ls (.int v :: st) h)) ∧
  (∀ (ls : eL) (st : List Value) (h : eH), ru 66 514 ls st h = ru 66 515 ls (.int (nI 1) :: st) h) ∧
  (∀ (x y : Int32) (ls : eL) (st : List Value) (h : eH), ru 66 515 ls (.int y :: .int x :: st) h = if x = y then ru 66 518 ls st h else ru 66 522 ls st h) ∧
  (∀ (ls : eL) (st : List Value) (h : eH), ru 66 518 ls st h = ru 66 519 ls (.int (nI 1) :: st) h) ∧
  (∀ (ls : eL) (st : List Value) (h : eH), ru 66 519 ls st h = ru 66 523 ls st h) ∧
  (∀ (ls : eL) (st : List Value) (h : eH), ru 66 522 ls st h = ru 66 523 ls (.int (nI 0) :: st) h) ∧
  (∀ (x : Int32) (i : Int32) (a : Nat) (ls : eL) (st : List Value) (h : eH), ru 66 523 ls (.int x :: .int i :: .ref a :: st) h = wZ (h.1 a) i x (fun e => ru 66 524 ls st (eUp h a e))) ∧
  (∀ (v : Nat) (t : eL) (st : List Value) (h : eH), ru 66 524 (some (.ref v) :: t) st h = ru 66 525 (some (.ref v) :: t) (.ref v :: st) h) ∧
  (∀ (a : Nat) (ls : eL) (st : List Value) (h : eH), ru 66 525 ls (.ref a :: st) h = gF (h.1 a) 11 8 (fun v => ru 66 528 ls (v :: st) h)) ∧
  (∀ (x0 x1 x2 x3 x4 x5 : Option Value) (v : Int32) (t : eL) (st : List Value) (h : eH), ru 66 528 (x0 :: x1 :: x2 :: x3 :: x4 :: x5 :: some (.int v) :: t) st h = ru 66 530 (x0 :: x1 :: x2 :: x3 :: x4 :: x5 :: some (.int v) :: t) (.int v :: st) h) ∧
  (∀ (ls : eL) (st : List Value) (h : eH), ru 66 530 ls st h = ru 66 531 ls (.int (nI 0) :: st) h) ∧
  (∀ (x : Int32) (i : Int32) (a : Nat) (ls : eL) (st : List Value) (h : eH), ru 66 531 ls (.int x :: .int i :: .ref a :: st) h = wI (h.1 a) i x (fun e => ru 66 532 ls st (eUp h a e))) ∧
  (∀ (v : Nat) (t : eL) (st : List Value) (h : eH), ru 66 532 (some (.ref v) :: t) st h = ru 66 533 (some (.ref v) :: t) (.ref v :: st) h) ∧
  (∀ (a : Nat) (ls : eL) (st : List Value) (h : eH), ru 66 533 ls (.ref a :: st) h = gF (h.1 a) 11 9 (fun v => ru 66 536 ls (v :: st) h)) ∧
  (∀ (x0 x1 x2 x3 x4 x5 : Option Value) (v : Int32) (t : eL) (st : List Value) (h : eH), ru 66 536 (x0 :: x1 :: x2 :: x3 :: x4 :: x5 :: some (.int v) :: t) st h = ru 66 538 (x0 :: x1 :: x2 :: x3 :: x4 :: x5 :: some (.int v) :: t) (.int v :: st) h) ∧
  (∀ (ls : eL) (st : List Value) (h : eH), ru 66 538 ls st h = ru 66 539 ls (.int (nI 0) :: st) h) ∧
  (∀ (x : Int32) (i : Int32) (a : Nat) (ls : eL) (st : List Value) (h : eH), ru 66 539 ls (.int x :: .int i :: .ref a :: st) h = wI (h.1 a) i x (fun e => ru 66 540 ls st (eUp h a e))) ∧
  (∀ (x0 x1 x2 x3 x4 x5 : Option Value) (v : Int32) (t : eL) (st : List Value) (h : eH), ru 66 540 (x0 :: x1 :: x2 :: x3 :: x4 :: x5 :: some (.int v) :: t) st h = ru 66 543 (x0 :: x1 :: x2 :: x3 :: x4 :: eKl x5 :: some (.int (v + 1)) :: t) st h) ∧
  (∀ (ls : eL) (st : List Value) (h : eH), ru 66 543 ls st h = ru 66 454 ls st h) ∧
  (∀ (x0 x1 x2 x3 x4 : Option Value) (v : Int32) (t : eL) (st : List Value) (h : eH), ru 66 547 (x0 :: x1 :: x2 :: x3 :: x4 :: some (.int v) :: t) st h = ru 66 549 (x0 :: x1 :: x2 :: x3 :: x4 :: some (.int v) :: t) (.int v :: st) h) ∧
  (∀ (v : Int32) (a : Nat) (ls : eL) (st : List Value) (h : eH), ru 66 549 ls (.int v :: .ref a :: st) h = pF (h.1 a) 11 10 (.int v) (fun e => ru 66 552 ls st (eUp h a e))) ∧
  (∀ (ls : eL) (st : List Value) (h : eH), ru 66 552 ls st h = ru 66 553 ls (.int (nI 0) :: st) h) ∧
  (∀ (x0 x1 x2 x3 x4 x5 x6 : Option Value) (v : Int32) (t : eL) (st : List Value) (h : eH), ru 66 553 (x0 :: x1 :: x2 :: x3 :: x4 :: x5 :: x6 :: t) (.int v :: st) h = ru 66 555 (x0 :: x1 :: x2 :: x3 :: x4 :: eKl x5 :: some (.int v) :: t) st h) ∧
  (∀ (x0 x1 x2 x3 x4 : Option Value) (v : Int32) (t : eL) (st : List Value) (h : eH), ru 66 557 (x0 :: x1 :: x2 :: x3 :: x4 :: some (.int v) :: t) st h = ru 66 559 (x0 :: x1 :: x2 :: x3 :: x4 :: some (.int v) :: t) (.int v :: st) h) ∧
  (∀ (x y : Int32) (ls : eL) (st : List Value) (h : eH), ru 66 559 ls (.int y :: .int x :: st) h = if y ≤ x then ru 66 645 ls st h else ru 66 562 ls st h) ∧
  (∀ (v : Nat) (t : eL) (st : List Value) (h : eH), ru 66 562 (some (.ref v) :: t) st h = ru 66 563 (some (.ref v) :: t) (.ref v :: st) h) ∧
  (∀ (a : Nat) (ls : eL) (st : List Value) (h : eH), ru 66 563 ls (.ref a :: st) h = gF (h.1 a) 11 11 (fun v => ru 66 566 ls (v :: st) h)) ∧
  (∀ (x0 x1 x2 x3 x4 x5 : Option Value) (v : Int32) (t : eL) (st : List Value) (h : eH), ru 66 566 (x0 :: x1 :: x2 :: x3 :: x4 :: x5 :: some (.int v) :: t) st h = ru 66 568 (x0 :: x1 :: x2 :: x3 :: x4 :: x5 :: some (.int v) :: t) (.int v :: st) h) ∧
  (∀ (v : Nat) (t : eL) (st : List Value) (h : eH), ru 66 568 (some (.ref v) :: t) st h = ru 66 569 (some (.ref v) :: t) (.ref v :: st) h) ∧
  (∀ (a : Nat) (ls : eL) (st : List Value) (h : eH), ru 66 569 ls (.ref a :: st) h = gF (h.1 a) 11 18 (fun v => ru 66 572 ls (v :: st) h)) ∧
  (∀ (ls : eL) (st : List Value) (h : eH), ru 66 572 ls st h = ru 66 573 ls (.int (nI 2) :: st) h) ∧
  (∀ (ls : eL) (st : List Value) (h : eH), ru 66 573 ls st h = ru 66 574 ls (.int (nI 3) :: st) h) ∧
  (∀ (x0 x1 x2 x3 : Option Value) (v : Int32) (t : eL) (st : List Value) (h : eH), ru 66 574 (x0 :: x1 :: x2 :: x3 :: some (.int v) :: t) st h = ru 66 576 (x0 :: x1 :: x2 :: x3 :: some (.int v) :: t) (.int v :: st) h) ∧
  (∀ (x y : Int32) (ls : eL) (st : List Value) (h : eH), ru 66 576 ls (.int y :: .int x :: st) h = ru 66 577 ls (.int (x * y) :: st) h) ∧
  (∀ (x y : Int32) (ls : eL) (st : List Value) (h : eH), ru 66 577 ls (.int y :: .int x :: st) h = ru 66 578 ls (.int (x + y) :: st) h) ∧
  (∀ (ls : eL) (st : List Value) (h : eH), ru 66 578 ls st h = ru 66 579 ls (.int (nI 3) :: st) h) ∧
  (∀ (x0 x1 x2 x3 x4 x5 : Option Value) (v : Int32) (t : eL) (st : List Value) (h : eH), ru 66 579 (x0 :: x1 :: x2 :: x3 :: x4 :: x5 :: some (.int v) :: t) st h = ru 66 581 (x0 :: x1 :: x2 :: x3 :: x4 :: x5 :: some (.int v) :: t) (.int v :: st) h) ∧
  (∀ (x y : Int32) (ls : eL) (st : List Value) (h : eH), ru 66 581 ls (.int y :: .int x :: st) h = ru 66 582 ls (.int (x * y) :: st) h) ∧
  (∀ (x y : Int32) (ls : eL) (st : List Value) (h : eH), ru 66 582 ls (.int y :: .int x :: st) h = ru 66 583 ls (.int (x + y) :: st) h) ∧
  (∀ (i : Int32) (a : Nat) (ls : eL) (st : List Value) (h : eH), ru 66 583 ls (.int i :: .ref a :: st) h = aI (h.1 a) 0 i (fun v => ru 66 584 ls (.int v :: st) h)) ∧
  (∀ (x : Int32) (i : Int32) (a : Nat) (ls : eL) (st : List Value) (h : eH), ru 66 584 ls (.int x :: .int i :: .ref a :: st) h = wI (h.1 a) i x (fun e => ru 66 585 ls st (eUp h a e))) ∧
  (∀ (v : Nat) (t : eL) (st : List Value) (h : eH), ru 66 585 (some (.ref v) :: t) st h = ru 66 586 (some (.ref v) :: t) (.ref v :: st) h) ∧
  (∀ (a : Nat) (ls : eL) (st : List Value) (h : eH), ru 66 586 ls (.ref a :: st) h = gF (h.1 a) 11 12 (fun v => ru 66 589 ls (v :: st) h)) ∧
  (∀ (x0 x1 x2 x3 x4 x5 : Option Value) (v : Int32) (t : eL) (st : List Value) (h : eH), ru 66 589 (x0 :: x1 :: x2 :: x3 :: x4 :: x5 :: some (.int v) :: t) st h = ru 66 591 (x0 :: x1 :: x2 :: x3 :: x4 :: x5 :: some (.int v) :: t) (.int v :: st) h) ∧
  (∀ (v : Nat) (t : eL) (st : List Value) (h : eH), ru 66 591 (some (.ref v) :: t) st h = ru 66 592 (some (.ref v) :: t) (.ref v :: st) h) ∧
  (∀ (a : Nat) (ls : eL) (st : List Value) (h : eH), ru 66 592 ls (.ref a :: st) h = gF (h.1 a) 11 18 (fun v => ru 66 595 ls (v :: st) h)) ∧
  (∀ (ls : eL) (st : List Value) (h : eH), ru 66 595 ls st h = ru 66 596 ls (.int (nI 3) :: st) h) ∧
  (∀ (ls : eL) (st : List Value) (h : eH), ru 66 596 ls st h = ru 66 597 ls (.int (nI 3) :: st) h) ∧
  (∀ (x0 x1 x2 x3 : Option Value) (v : Int32) (t : eL) (st : List Value) (h : eH), ru 66 597 (x0 :: x1 :: x2 :: x3 :: some (.int v) :: t) st h = ru 66 599 (x0 :: x1 :: x2 :: x3 :: some (.int v) :: t) (.int v :: st) h) ∧
  (∀ (x y : Int32) (ls : eL) (st : List Value) (h : eH), ru 66 599 ls (.int y :: .int x :: st) h = ru 66 600 ls (.int (x * y) :: st) h) ∧
  (∀ (x y : Int32) (ls : eL) (st : List Value) (h : eH), ru 66 600 ls (.int y :: .int x :: st) h = ru 66 601 ls (.int (x + y) :: st) h) ∧
  (∀ (ls : eL) (st : List Value) (h : eH), ru 66 601 ls st h = ru 66 602 ls (.int (nI 3) :: st) h) ∧
  (∀ (x0 x1 x2 x3 x4 x5 : Option Value) (v : Int32) (t : eL) (st : List Value) (h : eH), ru 66 602 (x0 :: x1 :: x2 :: x3 :: x4 :: x5 :: some (.int v) :: t) st h = ru 66 604 (x0 :: x1 :: x2 :: x3 :: x4 :: x5 :: some (.int v) :: t) (.int v :: st) h) ∧
  (∀ (x y : Int32) (ls : eL) (st : List Value) (h : eH), ru 66 604 ls (.int y :: .int x :: st) h = ru 66 605 ls (.int (x * y) :: st) h) ∧
  (∀ (x y : Int32) (ls : eL) (st : List Value) (h : eH), ru 66 605 ls (.int y :: .int x :: st) h = ru 66 606 ls (.int (x + y) :: st) h) ∧
  (∀ (i : Int32) (a : Nat) (ls : eL) (st : List Value) (h : eH), ru 66 606 ls (.int i :: .ref a :: st) h = aI (h.1 a) 0 i (fun v => ru 66 607 ls (.int v :: st) h)) ∧
  (∀ (x : Int32) (i : Int32) (a : Nat) (ls : eL) (st : List Value) (h : eH), ru 66 607 ls (.int x :: .int i :: .ref a :: st) h = wI (h.1 a) i x (fun e => ru 66 608 ls st (eUp h a e))) ∧
  (∀ (v : Nat) (t : eL) (st : List Value) (h : eH), ru 66 608 (some (.ref v) :: t) st h = ru 66 609 (some (.ref v) :: t) (.ref v :: st) h) ∧
  (∀ (a : Nat) (ls : eL) (st : List Value) (h : eH), ru 66 609 ls (.ref a :: st) h = gF (h.1 a) 11 13 (fun v => ru 66 612 ls (v :: st) h)) ∧
  (∀ (x0 x1 x2 x3 x4 x5 : Option Value) (v : Int32) (t : eL) (st : List Value) (h : eH), ru 66 612 (x0 :: x1 :: x2 :: x3 :: x4 :: x5 :: some (.int v) :: t) st h = ru 66 614 (x0 :: x1 :: x2 :: x3 :: x4 :: x5 :: some (.int v) :: t) (.int v :: st) h) ∧
  (∀ (v : Nat) (t : eL) (st : List Value) (h : eH), ru 66 614 (some (.ref v) :: t) st h = ru 66 615 (some (.ref v) :: t) (.ref v :: st) h) ∧
  (∀ (a : Nat) (ls : eL) (st : List Value) (h : eH), ru 66 615 ls (.ref a :: st) h = gF (h.1 a) 11 18 (fun v => ru 66 618 ls (v :: st) h)) ∧
  (∀ (ls : eL) (st : List Value) (h : eH), ru 66 618 ls st h = ru 66 619 ls (.int (nI 4) :: st) h) ∧
  (∀ (ls : eL) (st : List Value) (h : eH), ru 66 619 ls st h = ru 66 620 ls (.int (nI 3) :: st) h) ∧
  (∀ (x0 x1 x2 x3 : Option Value) (v : Int32) (t : eL) (st : List Value) (h : eH), ru 66 620 (x0 :: x1 :: x2 :: x3 :: some (.int v) :: t) st h = ru 66 622 (x0 :: x1 :: x2 :: x3 :: some (.int v) :: t) (.int v :: st) h) ∧
  (∀ (x y : Int32) (ls : eL) (st : List Value) (h : eH), ru 66 622 ls (.int y :: .int x :: st) h = ru 66 623 ls (.int (x * y) :: st) h) ∧
  (∀ (x y : Int32) (ls : eL) (st : List Value) (h : eH), ru 66 623 ls (.int y :: .int x :: st) h = ru 66 624 ls (.int (x + y) :: st) h) ∧
  (∀ (ls : eL) (st : List Value) (h : eH), ru 66 624 ls st h = ru 66 625 ls (.int (nI 3) :: st) h) ∧
  (∀ (x0 x1 x2 x3 x4 x5 : Option Value) (v : Int32) (t : eL) (st : List Value) (h : eH), ru 66 625 (x0 :: x1 :: x2 :: x3 :: x4 :: x5 :: some (.int v) :: t) st h = ru 66 627 (x0 :: x1 :: x2 :: x3 :: x4 :: x5 :: some (.int v) :: t) (.int v :: st) h) ∧
  (∀ (x y : Int32) (ls : eL) (st : List Value) (h : eH), ru 66 627 ls (.int y :: .int x :: st) h = ru 66 628 ls (.int (x * y) :: st) h) ∧
  (∀ (x y : Int32) (ls : eL) (st : List Value) (h : eH), ru 66 628 ls (.int y :: .int x :: st) h = ru 66 629 ls (.int (x + y) :: st) h) ∧
  (∀ (i : Int32) (a : Nat) (ls : eL) (st : List Value) (h : eH), ru 66 629 ls (.int i :: .ref a :: st) h = aI (h.1 a) 0 i (fun v => ru 66 630 ls (.int v :: st) h)) ∧
  (∀ (x : Int32) (i : Int32) (a : Nat) (ls : eL) (st : List Value) (h : eH), ru 66 630 ls (.int x :: .int i :: .ref a :: st) h = wI (h.1 a) i x (fun e => ru 66 631 ls st (eUp h a e))) ∧
  (∀ (v : Nat) (t : eL) (st : List Value) (h : eH), ru 66 631 (some (.ref v) :: t) st h = ru 66 632 (some (.ref v) :: t) (.ref v :: st) h) ∧
  (∀ (a : Nat) (ls : eL) (st : List Value) (h : eH), ru 66 632 ls (.ref a :: st) h = gF (h.1 a) 11 14 (fun v => ru 66 635 ls (v :: st) h)) ∧
  (∀ (x0 x1 x2 x3 x4 x5 : Option Value) (v : Int32) (t : eL) (st : List Value) (h : eH), ru 66 635 (x0 :: x1 :: x2 :: x3 :: x4 :: x5 :: some (.int v) :: t) st h = ru 66 637 (x0 :: x1 :: x2 :: x3 :: x4 :: x5 :: some (.int v) :: t) (.int v :: st) h) ∧
  (∀ (ls : eL) (st : List Value) (h : eH), ru 66 637 ls st h = ru 66 638 ls (.int (nI 0) :: st) h) ∧
  (∀ (x : Int32) (i : Int32) (a : Nat) (ls : eL) (st : List Value) (h : eH), ru 66 638 ls (.int x :: .int i :: .ref a :: st) h = wI (h.1 a) i x (fun e => ru 66 639 ls st (eUp h a e))) ∧
  (∀ (x0 x1 x2 x3 x4 x5 : Option Value) (v : Int32) (t : eL) (st : List Value) (h : eH), ru 66 639 (x0 :: x1 :: x2 :: x3 :: x4 :: x5 :: some (.int v) :: t) st h = ru 66 642 (x0 :: x1 :: x2 :: x3 :: x4 :: eKl x5 :: some (.int (v + 1)) :: t) st h) ∧
  (∀ (ls : eL) (st : List Value) (h : eH), ru 66 642 ls st h = ru 66 555 ls st h) ∧
  (∀ (x : Int32) (ls : eL) (h : eH), ru 66 647 ls [.int x] h = some (some (.int x), h)) := ⟨fun x0 v t st h => ru_go rfl rfl,
  fun a0 ls h => ru_inv rfl (by decide) rfl (Nat.le_of_ble_eq_true rfl),
  fun x ls st h => ru_if rfl rfl,
  fun ls st h => ru_go rfl rfl,
  fun x ls h => ru_ret rfl rfl,
  fun v t st h => ru_go rfl rfl,
  fun a ls st h => ru_getf rfl,
  fun x0 v t st h => ru_go rfl rfl,
  fun i a ls st h => ru_iald rfl,
  fun x ls st h => ru_if rfl rfl,
  fun ls st h => ru_go rfl rfl,
  fun x ls h => ru_ret rfl rfl,
  fun v t st h => ru_go rfl rfl,
  fun a ls st h => ru_getf rfl,
  fun x0 v t st h => ru_go rfl rfl,
  fun i a ls st h => ru_iald rfl,
  fun ls st h => ru_go rfl rfl,
  fun x y ls st h => ru_go rfl rfl,
  fun x0 x1 x2 v t st h => ru_go rfl rfl,
  fun ls st h => ru_go rfl rfl,
  fun x0 x1 x2 x3 v t st h => ru_go rfl rfl,
  fun ls st h => ru_go rfl rfl,
  fun x0 x1 x2 x3 x4 v t st h => ru_go rfl rfl,
  fun ls st h => ru_go rfl rfl,
  fun x0 x1 x2 x3 x4 x5 v t st h => ru_go rfl rfl,
  fun ls st h => ru_go rfl rfl,
  fun x0 x1 x2 x3 v t st h => ru_go rfl rfl,
  fun x y ls st h => ru_go rfl rfl,
  fun x y ls st h => ru_go rfl rfl,
  fun x0 x1 x2 x3 x4 x5 x6 v t st h => ru_go rfl rfl,
  fun x0 x1 x2 v t st h => ru_go rfl rfl,
  fun x ls st h => ru_if rfl rfl,
  fun ls st h => ru_go rfl rfl,
  fun ls st h => ru_go rfl rfl,
  fun x0 x1 x2 v t st h => ru_go rfl rfl,
  fun x0 x1 x2 x3 x4 x5 v t st h => ru_go rfl rfl,
  fun x y ls st h => ru_if rfl rfl,
  fun x0 x1 x2 x3 x4 x5 v t st h => ru_go rfl rfl,
  fun ls st h => ru_go rfl rfl,
  fun x y ls st h => ru_go rfl rfl,
  fun ls st h => ru_go rfl rfl,
  fun x0 x1 x2 x3 x4 x5 v t st h => ru_go rfl rfl,
  fun ls st h => ru_go rfl rfl,
  fun x y ls st h => ru_go rfl rfl,
  fun ls st h => ru_go rfl rfl,
  fun x0 x1 x2 x3 x4 v t st h => ru_go rfl rfl,
  fun x y ls st h => ru_go rfl rfl,
  fun x y ls st h => ru_go rfl rfl,
  fun x0 x1 x2 x3 x4 x5 x6 x7 v t st h => ru_go rfl rfl,
  fun x0 x1 x2 v t st h => ru_go rfl rfl,
  fun x ls st h => ru_if rfl rfl,
  fun x0 x1 x2 v t st h => ru_go rfl rfl,
  fun x0 x1 x2 x3 x4 x5 x6 v t st h => ru_go rfl rfl,
  fun x y ls st h => ru_if rfl rfl,
  fun ls st h => ru_go rfl rfl,
  fun x0 x1 x2 v t st h => ru_go rfl rfl,
  fun x0 x1 v t st h => ru_go rfl rfl,
  fun x y ls st h => ru_if rfl rfl,
  fun ls st h => ru_go rfl rfl,
  fun x ls h => ru_ret rfl rfl,
  fun v t st h => ru_go rfl rfl,
  fun a ls st h => ru_getf rfl,
  fun ls st h => ru_go rfl rfl,
  fun x0 v t st h => ru_go rfl rfl,
  fun x y ls st h => ru_go rfl rfl,
  fun x0 x1 x2 v t st h => ru_go rfl rfl,
  fun x y ls st h => ru_go rfl rfl,
  fun i a ls st h => ru_lald rfl,
  fun x0 x1 x2 x3 x4 x5 x6 x7 x8 x9 v t st h => ru_go rfl rfl,
  fun x0 x1 x2 v t st h => ru_go rfl rfl,
  fun x ls st h => ru_if rfl rfl,
  fun ls st h => ru_go rfl rfl,
  fun ls st h => ru_go rfl rfl,
  fun x0 x1 x2 v t st h => ru_go rfl rfl,
  fun x0 x1 x2 x3 x4 x5 v t st h => ru_go rfl rfl,
  fun x y ls st h => ru_if rfl rfl,
  fun ls st h => ru_go rfl rfl,
  fun x0 x1 x2 v t st h => ru_go rfl rfl,
  fun ls st h => ru_go rfl rfl,
  fun x y ls st h => ru_go rfl rfl,
  fun ls st h => ru_go rfl rfl,
  fun x y ls st h => ru_guard rfl rfl,
  fun x y ls st h => ru_go rfl rfl,
  fun ls st h => ru_go rfl rfl,
  fun x0 x1 x2 v t st h => ru_go rfl rfl,
  fun x0 x1 x2 x3 x4 x5 v t st h => ru_go rfl rfl,
  fun x y ls st h => ru_if rfl rfl,
  fun ls st h => ru_go rfl rfl,
  fun ls st h => ru_go rfl rfl,
  fun ls st h => ru_go rfl rfl,
  fun x0 x1 x2 v t st h => ru_go rfl rfl,
  fun x0 x1 x2 x3 x4 x5 v t st h => ru_go rfl rfl,
  fun x y ls st h => ru_go rfl rfl,
  fun ls st h => ru_go rfl rfl,
  fun x y ls st h => ru_go rfl rfl,
  fun ls st h => ru_go rfl rfl,
  fun x y ls st h => ru_guard rfl rfl,
  fun x y ls st h => ru_go rfl rfl,
  fun x0 x1 x2 x3 x4 x5 x6 x7 x8 x9 x10 v t st h => ru_go rfl rfl,
  fun x0 x1 x2 x3 x4 x5 x6 x7 x8 x9 v t st h => ru_go rfl rfl,
  fun x ls st h => ru_sw rfl,
  fun x0 x1 x2 x3 x4 x5 x6 x7 v t st h => ru_go rfl rfl,
  fun ls st h => ru_go rfl rfl,
  fun x y ls st h => ru_go rfl rfl,
  fun x ls st h => ru_if rfl rfl,
  fun x0 x1 x2 x3 x4 x5 x6 x7 v t st h => ru_go rfl rfl,
  fun ls st h => ru_go rfl rfl,
  fun x y ls st h => ru_go rfl rfl,
  fun x ls st h => ru_if rfl rfl,
  fun ls st h => ru_go rfl rfl,
  fun ls st h => ru_go rfl rfl,
  fun ls st h => ru_go rfl rfl,
  fun x0 x1 x2 x3 x4 x5 x6 x7 x8 x9 x10 x11 v t st h => ru_go rfl rfl,
  fun ls st h => ru_go rfl rfl,
  fun x0 x1 x2 x3 x4 x5 x6 x7 v t st h => ru_go rfl rfl,
  fun ls st h => ru_go rfl rfl,
  fun x y ls st h => ru_go rfl rfl,
  fun x ls st h => ru_if rfl rfl,
  fun x0 x1 x2 x3 x4 x5 x6 x7 v t st h => ru_go rfl rfl,
  fun ls st h => ru_go rfl rfl,
  fun x y ls st h => ru_go rfl rfl,
  fun x ls st h => ru_if rfl rfl,
  fun ls st h => ru_go rfl rfl,
  fun ls st h => ru_go rfl rfl,
  fun ls st h => ru_go rfl rfl,
  fun x0 x1 x2 x3 x4 x5 x6 x7 x8 x9 x10 x11 v t st h => ru_go rfl rfl,
  fun ls st h => ru_go rfl rfl,
  fun x0 x1 x2 x3 x4 x5 x6 x7 v t st h => ru_go rfl rfl,
  fun ls st h => ru_go rfl rfl,
  fun x y ls st h => ru_go rfl rfl,
  fun x ls st h => ru_if rfl rfl,
  fun x0 x1 x2 x3 x4 x5 x6 x7 v t st h => ru_go rfl rfl,
  fun ls st h => ru_go rfl rfl,
  fun x y ls st h => ru_go rfl rfl,
  fun x ls st h => ru_if rfl rfl,
  fun ls st h => ru_go rfl rfl,
  fun ls st h => ru_go rfl rfl,
  fun ls st h => ru_go rfl rfl,
  fun x0 x1 x2 x3 x4 x5 x6 x7 x8 x9 x10 x11 v t st h => ru_go rfl rfl,
  fun ls st h => ru_go rfl rfl,
  fun x0 x1 x2 x3 x4 x5 x6 x7 v t st h => ru_go rfl rfl,
  fun ls st h => ru_go rfl rfl,
  fun x y ls st h => ru_go rfl rfl,
  fun x ls st h => ru_if rfl rfl,
  fun x0 x1 x2 x3 x4 x5 x6 x7 v t st h => ru_go rfl rfl,
  fun ls st h => ru_go rfl rfl,
  fun x y ls st h => ru_go rfl rfl,
  fun x ls st h => ru_if rfl rfl,
  fun ls st h => ru_go rfl rfl,
  fun ls st h => ru_go rfl rfl,
  fun ls st h => ru_go rfl rfl,
  fun x0 x1 x2 x3 x4 x5 x6 x7 x8 x9 x10 x11 v t st h => ru_go rfl rfl,
  fun ls st h => ru_go rfl rfl,
  fun x0 x1 x2 x3 x4 x5 x6 x7 v t st h => ru_go rfl rfl,
  fun ls st h => ru_go rfl rfl,
  fun x y ls st h => ru_go rfl rfl,
  fun x ls st h => ru_if rfl rfl,
  fun x0 x1 x2 x3 x4 x5 x6 x7 v t st h => ru_go rfl rfl,
  fun x0 x1 x2 x3 v t st h => ru_go rfl rfl,
  fun x ls st h => ru_go rfl rfl,
  fun x y ls st h => ru_go rfl rfl,
  fun x ls st h => ru_if rfl rfl,
  fun ls st h => ru_go rfl rfl,
  fun ls st h => ru_go rfl rfl,
  fun ls st h => ru_go rfl rfl,
  fun x0 x1 x2 x3 x4 x5 x6 x7 x8 x9 x10 x11 v t st h => ru_go rfl rfl,
  fun ls st h => ru_go rfl rfl,
  fun x0 x1 x2 x3 x4 x5 x6 x7 v t st h => ru_go rfl rfl,
  fun ls st h => ru_go rfl rfl,
  fun x y ls st h => ru_go rfl rfl,
  fun x ls st h => ru_if rfl rfl,
  fun x0 x1 x2 x3 x4 x5 x6 x7 v t st h => ru_go rfl rfl,
  fun x0 x1 x2 x3 v t st h => ru_go rfl rfl,
  fun x ls st h => ru_go rfl rfl,
  fun x y ls st h => ru_go rfl rfl,
  fun x ls st h => ru_if rfl rfl,
  fun v t st h => ru_go rfl rfl,
  fun v t st h => ru_go rfl rfl,
  fun a ls st h => ru_getf rfl,
  fun x0 x1 x2 v t st h => ru_go rfl rfl,
  fun ls st h => ru_go rfl rfl,
  fun x y ls st h => ru_go rfl rfl,
  fun i a ls st h => ru_iald rfl,
  fun x0 x1 x2 x3 x4 x5 x6 x7 v t st h => ru_go rfl rfl,
  fun x ls st h => ru_go rfl rfl,
  fun a0 a1 a2 ls h => ru_inv rfl (by decide) rfl (Nat.le_of_ble_eq_true rfl),
  fun x ls st h => ru_if rfl rfl,
  fun ls st h => ru_go rfl rfl,
  fun ls st h => ru_go rfl rfl,
  fun ls st h => ru_go rfl rfl,
  fun x0 x1 x2 x3 x4 x5 x6 x7 x8 x9 x10 x11 v t st h => ru_go rfl rfl,
  fun ls st h => ru_go rfl rfl,
  fun x0 x1 x2 x3 x4 x5 x6 x7 v t st h => ru_go rfl rfl,
  fun ls st h => ru_go rfl rfl,
  fun x y ls st h => ru_go rfl rfl,
  fun x ls st h => ru_if rfl rfl,
  fun x0 x1 x2 x3 x4 x5 x6 x7 v t st h => ru_go rfl rfl,
  fun ls st h => ru_go rfl rfl,
  fun x y ls st h => ru_go rfl rfl,
  fun x ls st h => ru_if rfl rfl,
  fun ls st h => ru_go rfl rfl,
  fun ls st h => ru_go rfl rfl,
  fun ls st h => ru_go rfl rfl,
  fun x0 x1 x2 x3 x4 x5 x6 x7 x8 x9 x10 x11 v t st h => ru_go rfl rfl,
  fun x0 x1 x2 x3 x4 x5 x6 x7 x8 x9 x10 v t st h => ru_go rfl rfl,
  fun x ls st h => ru_if rfl rfl,
  fun ls st h => ru_go rfl rfl,
  fun x ls h => ru_ret rfl rfl,
  fun v t st h => ru_go rfl rfl,
  fun a ls st h => ru_getf rfl,
  fun x0 x1 x2 v t st h => ru_go rfl rfl,
  fun x0 x1 x2 x3 x4 x5 x6 x7 v t st h => ru_go rfl rfl,
  fun x ls st h => ru_go rfl rfl,
  fun x i a ls st h => ru_iast rfl,
  fun x0 x1 x2 x3 x4 x5 x6 x7 x8 x9 v t st h => ru_go rfl rfl,
  fun x ls st h => ru_if rfl rfl,
  fun x0 x1 x2 x3 x4 x5 x6 x7 v t st h => ru_go rfl rfl,
  fun x ls st h => ru_go rfl rfl,
  fun x0 x1 x2 x3 x4 v t st h => ru_go rfl rfl,
  fun x0 x1 x2 x3 x4 x5 x6 x7 x8 x9 v t st h => ru_go rfl rfl,
  fun ls st h => ru_go rfl rfl,
  fun x y ls st h => ru_if rfl rfl,
  fun x0 x1 x2 x3 x4 x5 x6 x7 v t st h => ru_go rfl rfl,
  fun x ls st h => ru_go rfl rfl,
  fun x0 x1 x2 x3 x4 x5 v t st h => ru_go rfl rfl,
  fun x0 x1 x2 v t st h => ru_go rfl rfl,
  fun ls st h => ru_go rfl rfl,
  fun x0 x1 x2 x3 v t st h => ru_go rfl rfl,
  fun v a ls st h => ru_putf rfl,
  fun ls st h => ru_go rfl rfl,
  fun x0 x1 x2 x3 x4 x5 x6 v t st h => ru_go rfl rfl,
  fun x0 x1 x2 x3 v t st h => ru_go rfl rfl,
  fun x y ls st h => ru_if rfl rfl,
  fun v t st h => ru_go rfl rfl,
  fun a ls st h => ru_getf rfl,
  fun x0 x1 x2 x3 x4 x5 v t st h => ru_go rfl rfl,
  fun v t st h => ru_go rfl rfl,
  fun a ls st h => ru_getf rfl,
  fun ls st h => ru_go rfl rfl,
  fun ls st h => ru_go rfl rfl,
  fun x0 x1 x2 x3 x4 x5 v t st h => ru_go rfl rfl,
  fun x y ls st h => ru_go rfl rfl,
  fun x y ls st h => ru_go rfl rfl,
  fun i a ls st h => ru_iald rfl,
  fun x i a ls st h => ru_iast rfl,
  fun v t st h => ru_go rfl rfl,
  fun a ls st h => ru_getf rfl,
  fun x0 x1 x2 x3 x4 x5 v t st h => ru_go rfl rfl,
  fun v t st h => ru_go rfl rfl,
  fun a ls st h => ru_getf rfl,
  fun ls st h => ru_go rfl rfl,
  fun ls st h => ru_go rfl rfl,
  fun x0 x1 x2 x3 x4 x5 v t st h => ru_go rfl rfl,
  fun x y ls st h => ru_go rfl rfl,
  fun x y ls st h => ru_go rfl rfl,
  fun i a ls st h => ru_iald rfl,
  fun x i a ls st h => ru_iast rfl,
  fun v t st h => ru_go rfl rfl,
  fun a ls st h => ru_getf rfl,
  fun x0 x1 x2 x3 x4 x5 v t st h => ru_go rfl rfl,
  fun v t st h => ru_go rfl rfl,
  fun a ls st h => ru_getf rfl,
  fun ls st h => ru_go rfl rfl,
  fun ls st h => ru_go rfl rfl,
  fun x0 x1 x2 x3 x4 x5 v t st h => ru_go rfl rfl,
  fun x y ls st h => ru_go rfl rfl,
  fun x y ls st h => ru_go rfl rfl,
  fun i a ls st h => ru_iald rfl,
  fun ls st h => ru_go rfl rfl,
  fun x y ls st h => ru_if rfl rfl,
  fun ls st h => ru_go rfl rfl,
  fun ls st h => ru_go rfl rfl,
  fun ls st h => ru_go rfl rfl,
  fun x i a ls st h => ru_zast rfl,
  fun v t st h => ru_go rfl rfl,
  fun a ls st h => ru_getf rfl,
  fun x0 x1 x2 x3 x4 x5 v t st h => ru_go rfl rfl,
  fun ls st h => ru_go rfl rfl,
  fun x i a ls st h => ru_iast rfl,
  fun v t st h => ru_go rfl rfl,
  fun a ls st h => ru_getf rfl,
  fun x0 x1 x2 x3 x4 x5 v t st h => ru_go rfl rfl,
  fun ls st h => ru_go rfl rfl,
  fun x i a ls st h => ru_iast rfl,
  fun x0 x1 x2 x3 x4 x5 v t st h => ru_go rfl rfl,
  fun ls st h => ru_go rfl rfl,
  fun x0 x1 x2 x3 x4 v t st h => ru_go rfl rfl,
  fun v a ls st h => ru_putf rfl,
  fun ls st h => ru_go rfl rfl,
  fun x0 x1 x2 x3 x4 x5 x6 v t st h => ru_go rfl rfl,
  fun x0 x1 x2 x3 x4 v t st h => ru_go rfl rfl,
  fun x y ls st h => ru_if rfl rfl,
  fun v t st h => ru_go rfl rfl,
  fun a ls st h => ru_getf rfl,
  fun x0 x1 x2 x3 x4 x5 v t st h => ru_go rfl rfl,
  fun v t st h => ru_go rfl rfl,
  fun a ls st h => ru_getf rfl,
  fun ls st h => ru_go rfl rfl,
  fun ls st h => ru_go rfl rfl,
  fun x0 x1 x2 x3 v t st h => ru_go rfl rfl,
  fun x y ls st h => ru_go rfl rfl,
  fun x y ls st h => ru_go rfl rfl,
  fun ls st h => ru_go rfl rfl,
  fun x0 x1 x2 x3 x4 x5 v t st h => ru_go rfl rfl,
  fun x y ls st h => ru_go rfl rfl,
  fun x y ls st h => ru_go rfl rfl,
  fun i a ls st h => ru_iald rfl,
  fun x i a ls st h => ru_iast rfl,
  fun v t st h => ru_go rfl rfl,
  fun a ls st h => ru_getf rfl,
  fun x0 x1 x2 x3 x4 x5 v t st h => ru_go rfl rfl,
  fun v t st h => ru_go rfl rfl,
  fun a ls st h => ru_getf rfl,
  fun ls st h => ru_go rfl rfl,
  fun ls st h => ru_go rfl rfl,
  fun x0 x1 x2 x3 v t st h => ru_go rfl rfl,
  fun x y ls st h => ru_go rfl rfl,
  fun x y ls st h => ru_go rfl rfl,
  fun ls st h => ru_go rfl rfl,
  fun x0 x1 x2 x3 x4 x5 v t st h => ru_go rfl rfl,
  fun x y ls st h => ru_go rfl rfl,
  fun x y ls st h => ru_go rfl rfl,
  fun i a ls st h => ru_iald rfl,
  fun x i a ls st h => ru_iast rfl,
  fun v t st h => ru_go rfl rfl,
  fun a ls st h => ru_getf rfl,
  fun x0 x1 x2 x3 x4 x5 v t st h => ru_go rfl rfl,
  fun v t st h => ru_go rfl rfl,
  fun a ls st h => ru_getf rfl,
  fun ls st h => ru_go rfl rfl,
  fun ls st h => ru_go rfl rfl,
  fun x0 x1 x2 x3 v t st h => ru_go rfl rfl,
  fun x y ls st h => ru_go rfl rfl,
  fun x y ls st h => ru_go rfl rfl,
  fun ls st h => ru_go rfl rfl,
  fun x0 x1 x2 x3 x4 x5 v t st h => ru_go rfl rfl,
  fun x y ls st h => ru_go rfl rfl,
  fun x y ls st h => ru_go rfl rfl,
  fun i a ls st h => ru_iald rfl,
  fun x i a ls st h => ru_iast rfl,
  fun v t st h => ru_go rfl rfl,
  fun a ls st h => ru_getf rfl,
  fun x0 x1 x2 x3 x4 x5 v t st h => ru_go rfl rfl,
  fun ls st h => ru_go rfl rfl,
  fun x i a ls st h => ru_iast rfl,
  fun x0 x1 x2 x3 x4 x5 v t st h => ru_go rfl rfl,
  fun ls st h => ru_go rfl rfl,
  fun x ls h => ru_ret rfl rfl⟩
theorem E66 (a0 : Nat) (a1 : Int32) {h : eH} {fs : List Value} (ha : h.1 a0 = .inr (11, fs)) : den 66 [.ref a0, .int a1] h = ru 66 0 [some (.ref a0), some (.int a1), none, none, none, none, none, none, none, none, none, none] [] h := den_ob (Nat.le_of_ble_eq_true rfl) ha
