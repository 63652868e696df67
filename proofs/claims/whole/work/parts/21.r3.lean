/-! 67 X11_part -/
set_option maxRecDepth 100000 in
theorem S67 : (∀ (v : Nat) (t : eL) (st : List Value) (h : eH), ru 67 0 (some (.ref v) :: t) st h = ru 67 1 (some (.ref v) :: t) (.ref v :: st) h) ∧
  (∀ (x0 : Option Value) (v : Int32) (t : eL) (st : List Value) (h : eH), ru 67 1 (x0 :: some (.int v) :: t) st h = ru 67 2 (x0 :: some (.int v) :: t) (.int v :: st) h) ∧
  (∀ (x : Int32) (ls : eL) (st : List Value) (h : eH), ru 67 2 ls (.int x :: st) h = if x = 0 then ru 67 9 ls st h else ru 67 5 ls st h) ∧
  (∀ (ls : eL) (st : List Value) (h : eH), ru 67 5 ls st h = ru 67 6 ls (.int (nI 1) :: st) h) ∧
  (∀ (ls : eL) (st : List Value) (h : eH), ru 67 6 ls st h = ru 67 10 ls st h) ∧
  (∀ (ls : eL) (st : List Value) (h : eH), ru 67 9 ls st h = ru 67 10 ls (.int (nI 0) :: st) h) ∧
  (∀ (v : Nat) (t : eL) (st : List Value) (h : eH), ru 67 10 (some (.ref v) :: t) st h = ru 67 11 (some (.ref v) :: t) (.ref v :: st) h) ∧
  (∀ (a : Nat) (ls : eL) (st : List Value) (h : eH), ru 67 11 ls (.ref a :: st) h = gF (h.1 a) 11 15 (fun v => ru 67 14 ls (v :: st) h)) ∧
  (∀ (a0 : Nat) (a1 : Int32) (a2 : Nat) (ls : eL) (h : eH), ru 67 14 ls [.ref a2, .int a1, .ref a0] h = cl (den 19 [.ref a0, .int a1, .ref a2] h) (fun v h => ru 67 17 ls (v.toList ++ []) h)) ∧
  (∀ (x0 x1 : Option Value) (v : Int32) (t : eL) (st : List Value) (h : eH), ru 67 17 (x0 :: x1 :: some (.int v) :: t) st h = ru 67 18 (x0 :: x1 :: some (.int v) :: t) (.int v :: st) h) ∧
  (∀ (x : Int32) (ls : eL) (st : List Value) (h : eH), ru 67 18 ls (.int x :: st) h = if x < 0 then ru 67 27 ls st h else ru 67 21 ls st h) ∧
  (∀ (x0 x1 : Option Value) (v : Int32) (t : eL) (st : List Value) (h : eH), ru 67 21 (x0 :: x1 :: some (.int v) :: t) st h = ru 67 22 (x0 :: x1 :: some (.int v) :: t) (.int v :: st) h) ∧
  (∀ (ls : eL) (st : List Value) (h : eH), ru 67 22 ls st h = ru 67 24 ls (.int (nI 24) :: st) h) ∧
  (∀ (x y : Int32) (ls : eL) (st : List Value) (h : eH), ru 67 24 ls (.int y :: .int x :: st) h = if x < y then ru 67 31 ls st h else ru 67 27 ls st h) ∧
  (∀ (ls : eL) (st : List Value) (h : eH), ru 67 27 ls st h = ru 67 28 ls (.int (nI 0) :: st) h) ∧
  (∀ (ls : eL) (st : List Value) (h : eH), ru 67 28 ls st h = ru 67 38 ls st h) ∧
  (∀ (v : Nat) (t : eL) (st : List Value) (h : eH), ru 67 31 (some (.ref v) :: t) st h = ru 67 32 (some (.ref v) :: t) (.ref v :: st) h) ∧
  (∀ (a : Nat) (ls : eL) (st : List Value) (h : eH), ru 67 32 ls (.ref a :: st) h = gF (h.1 a) 11 15 (fun v => ru 67 35 ls (v :: st) h)) ∧
  (∀ (x0 x1 : Option Value) (v : Int32) (t : eL) (st : List Value) (h : eH), ru 67 35 (x0 :: x1 :: some (.int v) :: t) st h = ru 67 36 (x0 :: x1 :: some (.int v) :: t) (.int v :: st) h) ∧
  (∀ (i : Int32) (a : Nat) (ls : eL) (st : List Value) (h : eH), ru 67 36 ls (.int i :: .ref a :: st) h = aL (h.1 a) i (fun v => ru 67 37 ls (.long v :: st) h)) ∧
  (∀ (x : Int64) (ls : eL) (st : List Value) (h : eH), ru 67 37 ls (.long x :: st) h = ru 67 38 ls (.int (x.toInt32) :: st) h) ∧
  (∀ (x : Int32) (ls : eL) (h : eH), ru 67 38 ls [.int x] h = some (some (.int x), h)) := ⟨fun v t st h => ru_go rfl rfl,
  fun x0 v t st h => ru_go rfl rfl,
  fun x ls st h => ru_if rfl rfl,
  fun ls st h => ru_go rfl rfl,
  fun ls st h => ru_go rfl rfl,
  fun ls st h => ru_go rfl rfl,
  fun v t st h => ru_go rfl rfl,
  fun a ls st h => ru_getf rfl,
  fun a0 a1 a2 ls h => ru_inv rfl (by decide) rfl (Nat.le_of_ble_eq_true rfl),
  fun x0 x1 v t st h => ru_go rfl rfl,
  fun x ls st h => ru_if rfl rfl,
  fun x0 x1 v t st h => ru_go rfl rfl,
  fun ls st h => ru_go rfl rfl,
  fun x y ls st h => ru_if rfl rfl,
  fun ls st h => ru_go rfl rfl,
  fun ls st h => ru_go rfl rfl,
  fun v t st h => ru_go rfl rfl,
  fun a ls st h => ru_getf rfl,
  fun x0 x1 v t st h => ru_go rfl rfl,
  fun i a ls st h => ru_lald rfl,
  fun x ls st h => ru_go rfl rfl,
  fun x ls h => ru_ret rfl rfl⟩
theorem E67 (a0 : Nat) (a1 : Int32) (a2 : Int32) {h : eH} {fs : List Value} (ha : h.1 a0 = .inr (11, fs)) : den 67 [.ref a0, .int a1, .int a2] h = ru 67 0 [some (.ref a0), some (.int a1), some (.int a2)] [] h := den_ob (Nat.le_of_ble_eq_true rfl) ha
/-! 68 X11_pull -/
set_option maxRecDepth 100000 in
theorem S68 : (∀ (v : Nat) (t : eL) (st : List Value) (h : eH), ru 68 0 (some (.ref v) :: t) st h = ru 68 1 (some (.ref v) :: t) (.ref v :: st) h) ∧
  (∀ (x0 : Option Value) (v : Int32) (t : eL) (st : List Value) (h : eH), ru 68 1 (x0 :: some (.int v) :: t) st h = ru 68 2 (x0 :: some (.int v) :: t) (.int v :: st) h) ∧
  (∀ (a0 : Nat) (a1 : Int32) (ls : eL) (h : eH), ru 68 2 ls [.int a1, .ref a0] h = cl (den 34 [.ref a0, .int a1] h) (fun v h => ru 68 5 ls (v.toList ++ []) h)) ∧
  (∀ (x : Int32) (ls : eL) (st : List Value) (h : eH), ru 68 5 ls (.int x :: st) h = if x = 0 then ru 68 8 ls st h else ru 68 11 ls st h) ∧
  (∀ (ls : eL) (st : List Value) (h : eH), ru 68 8 ls st h = ru 68 10 ls (.int ((-2)) :: st) h) ∧
  (∀ (x : Int32) (ls : eL) (h : eH), ru 68 10 ls [.int x] h = some (some (.int x), h)) ∧
  (∀ (x0 x1 : Option Value) (v : Int32) (t : eL) (st : List Value) (h : eH), ru 68 11 (x0 :: x1 :: some (.int v) :: t) st h = ru 68 12 (x0 :: x1 :: some (.int v) :: t) (.int v :: st) h) ∧
  (∀ (a0 : Int32) (ls : eL) (h : eH), ru 68 12 ls [.int a0] h = cl (den 59 [.int a0] h) (fun v h => ru 68 15 ls (v.toList ++ []) h)) ∧
  (∀ (x : Int32) (ls : eL) (st : List Value) (h : eH), ru 68 15 ls (.int x :: st) h = if x = 0 then ru 68 18 ls st h else ru 68 21 ls st h) ∧
  (∀ (ls : eL) (st : List Value) (h : eH), ru 68 18 ls st h = ru 68 20 ls (.int ((-4)) :: st) h) ∧
  (∀ (x : Int32) (ls : eL) (h : eH), ru 68 20 ls [.int x] h = some (some (.int x), h)) ∧
  (∀ (v : Nat) (t : eL) (st : List Value) (h : eH), ru 68 21 (some (.ref v) :: t) st h = ru 68 22 (some (.ref v) :: t) (.ref v :: st) h) ∧
  (∀ (a : Nat) (ls : eL) (st : List Value) (h : eH), ru 68 22 ls (.ref a :: st) h = gF (h.1 a) 11 14 (fun v => ru 68 25 ls (v :: st) h)) ∧
  (∀ (x0 : Option Value) (v : Int32) (t : eL) (st : List Value) (h : eH), ru 68 25 (x0 :: some (.int v) :: t) st h = ru 68 26 (x0 :: some (.int v) :: t) (.int v :: st) h) ∧
  (∀ (x0 x1 : Option Value) (v : Int32) (t : eL) (st : List Value) (h : eH), ru 68 26 (x0 :: x1 :: some (.int v) :: t) st h = ru 68 27 (x0 :: x1 :: some (.int v) :: t) (.int v :: st) h) ∧
  (∀ (x : Int32) (i : Int32) (a : Nat) (ls : eL) (st : List Value) (h : eH), ru 68 27 ls (.int x :: .int i :: .ref a :: st) h = wI (h.1 a) i x (fun e => ru 68 28 ls st (eUp h a e))) ∧
  (∀ (ls : eL) (st : List Value) (h : eH), ru 68 28 ls st h = ru 68 29 ls (.int (nI 0) :: st) h) ∧
  (∀ (x : Int32) (ls : eL) (h : eH), ru 68 29 ls [.int x] h = some (some (.int x), h)) := ⟨fun v t st h => ru_go rfl rfl,
  fun x0 v t st h => ru_go rfl rfl,
  fun a0 a1 ls h => ru_inv rfl (by decide) rfl (Nat.le_of_ble_eq_true rfl),
  fun x ls st h => ru_if rfl rfl,
  fun ls st h => ru_go rfl rfl,
  fun x ls h => ru_ret rfl rfl,
  fun x0 x1 v t st h => ru_go rfl rfl,
  fun a0 ls h => ru_inv rfl (by decide) rfl (Nat.le_of_ble_eq_true rfl),
  fun x ls st h => ru_if rfl rfl,
  fun ls st h => ru_go rfl rfl,
  fun x ls h => ru_ret rfl rfl,
  fun v t st h => ru_go rfl rfl,
  fun a ls st h => ru_getf rfl,
  fun x0 v t st h => ru_go rfl rfl,
  fun x0 x1 v t st h => ru_go rfl rfl,
  fun x i a ls st h => ru_iast rfl,
  fun ls st h => ru_go rfl rfl,
  fun x ls h => ru_ret rfl rfl⟩
theorem E68 (a0 : Nat) (a1 : Int32) (a2 : Int32) {h : eH} {fs : List Value} (ha : h.1 a0 = .inr (11, fs)) : den 68 [.ref a0, .int a1, .int a2] h = ru 68 0 [some (.ref a0), some (.int a1), some (.int a2)] [] h := den_ob (Nat.le_of_ble_eq_true rfl) ha
/-! 69 X11_row -/
set_option maxRecDepth 100000 in
theorem H69_51 : (∀ (x0 x1 x2 x3 : Option Value) (v : Int32) (t : eL) (st : List Value) (h : eH), ru 69 51 (x0 :: x1 :: x2 :: x3 :: some (.int v) :: t) st h = ru 69 53 (x0 :: x1 :: x2 :: x3 :: some (.int v) :: t) (.int v :: st) h) := fun x0 x1 x2 x3 v t st h => ru_go rfl rfl
set_option maxRecDepth 100000 in
theorem H69_76 : (∀ (ls : eL) (st : List Value) (h : eH), ru 69 76 ls st h = ru 69 77 ls (.int (nI 0) :: st) h) := fun ls st h => ru_go rfl rfl
set_option maxRecDepth 100000 in
theorem S69 : (∀ (x0 : Option Value) (v : Int32) (t : eL) (st : List Value) (h : eH), ru 69 0 (x0 :: some (.int v) :: t) st h = ru 69 1 (x0 :: some (.int v) :: t) (.int v :: st) h) ∧
  (∀ (a0 : Int32) (ls : eL) (h : eH), ru 69 1 ls [.int a0] h = cl (den 57 [.int a0] h) (fun v h => ru 69 4 ls (v.toList ++ []) h)) ∧
  (∀ (x : Int32) (ls : eL) (st : List Value) (h : eH), ru 69 4 ls (.int x :: st) h = if x = 0 then ru 69 22 ls st h else ru 69 7 ls st h) ∧
  (∀ (x0 x1 : Option Value) (v : Int32) (t : eL) (st : List Value) (h : eH), ru 69 7 (x0 :: x1 :: some (.int v) :: t) st h = ru 69 8 (x0 :: x1 :: some (.int v) :: t) (.int v :: st) h) ∧
  (∀ (x : Int32) (ls : eL) (st : List Value) (h : eH), ru 69 8 ls (.int x :: st) h = if x < 0 then ru 69 22 ls st h else ru 69 11 ls st h) ∧
  (∀ (x0 x1 : Option Value) (v : Int32) (t : eL) (st : List Value) (h : eH), ru 69 11 (x0 :: x1 :: some (.int v) :: t) st h = ru 69 12 (x0 :: x1 :: some (.int v) :: t) (.int v :: st) h) ∧
  (∀ (ls : eL) (st : List Value) (h : eH), ru 69 12 ls st h = ru 69 13 ls (.int (nI 3) :: st) h) ∧
  (∀ (x y : Int32) (ls : eL) (st : List Value) (h : eH), ru 69 13 ls (.int y :: .int x :: st) h = if y < x then ru 69 22 ls st h else ru 69 16 ls st h) ∧
  (∀ (x0 x1 x2 : Option Value) (v : Int32) (t : eL) (st : List Value) (h : eH), ru 69 16 (x0 :: x1 :: x2 :: some (.int v) :: t) st h = ru 69 17 (x0 :: x1 :: x2 :: some (.int v) :: t) (.int v :: st) h) ∧
  (∀ (ls : eL) (st : List Value) (h : eH), ru 69 17 ls st h = ru 69 19 ls (.int (nI 60) :: st) h) ∧
  (∀ (x y : Int32) (ls : eL) (st : List Value) (h : eH), ru 69 19 ls (.int y :: .int x :: st) h = if x ≤ y then ru 69 25 ls st h else ru 69 22 ls st h) ∧
  (∀ (ls : eL) (st : List Value) (h : eH), ru 69 22 ls st h = ru 69 24 ls (.int ((-2)) :: st) h) ∧
  (∀ (x : Int32) (ls : eL) (h : eH), ru 69 24 ls [.int x] h = some (some (.int x), h)) ∧
  (∀ (x0 x1 x2 : Option Value) (v : Int32) (t : eL) (st : List Value) (h : eH), ru 69 25 (x0 :: x1 :: x2 :: some (.int v) :: t) st h = ru 69 26 (x0 :: x1 :: x2 :: some (.int v) :: t) (.int v :: st) h) ∧
  (∀ (x : Int32) (ls : eL) (st : List Value) (h : eH), ru 69 26 ls (.int x :: st) h = if 0 ≤ x then ru 69 32 ls st h else ru 69 29 ls st h) ∧
  (∀ (ls : eL) (st : List Value) (h : eH), ru 69 29 ls st h = ru 69 31 ls (.int ((-3)) :: st) h) ∧
  (∀ (x : Int32) (ls : eL) (h : eH), ru 69 31 ls [.int x] h = some (some (.int x), h)) ∧
  (∀ (v : Nat) (t : eL) (st : List Value) (h : eH), ru 69 32 (some (.ref v) :: t) st h = ru 69 33 (some (.ref v) :: t) (.ref v :: st) h) ∧
  (∀ (a : Nat) (ls : eL) (st : List Value) (h : eH), ru 69 33 ls (.ref a :: st) h = gF (h.1 a) 11 1 (fun v => ru 69 36 ls (v :: st) h)) ∧
  (∀ (x0 : Option Value) (v : Int32) (t : eL) (st : List Value) (h : eH), ru 69 36 (x0 :: some (.int v) :: t) st h = ru 69 37 (x0 :: some (.int v) :: t) (.int v :: st) h) ∧
  (∀ (x0 x1 x2 : Option Value) (v : Int32) (t : eL) (st : List Value) (h : eH), ru 69 37 (x0 :: x1 :: x2 :: some (.int v) :: t) st h = ru 69 38 (x0 :: x1 :: x2 :: some (.int v) :: t) (.int v :: st) h) ∧
  (∀ (ls : eL) (st : List Value) (h : eH), ru 69 38 ls st h = ru 69 39 ls (.int (nI 1) :: st) h) ∧
  (∀ (x y : Int32) (ls : eL) (st : List Value) (h : eH), ru 69 39 ls (.int y :: .int x :: st) h = ru 69 40 ls (.int (x + y) :: st) h) ∧
  (∀ (x : Int32) (i : Int32) (a : Nat) (ls : eL) (st : List Value) (h : eH), ru 69 40 ls (.int x :: .int i :: .ref a :: st) h = wI (h.1 a) i x (fun e => ru 69 41 ls st (eUp h a e))) ∧
  (∀ (v : Nat) (t : eL) (st : List Value) (h : eH), ru 69 41 (some (.ref v) :: t) st h = ru 69 42 (some (.ref v) :: t) (.ref v :: st) h) ∧
  (∀ (a : Nat) (ls : eL) (st : List Value) (h : eH), ru 69 42 ls (.ref a :: st) h = gF (h.1 a) 11 2 (fun v => ru 69 45 ls (v :: st) h)) ∧
  (∀ (x0 : Option Value) (v : Int32) (t : eL) (st : List Value) (h : eH), ru 69 45 (x0 :: some (.int v) :: t) st h = ru 69 46 (x0 :: some (.int v) :: t) (.int v :: st) h) ∧
  (∀ (x0 x1 : Option Value) (v : Int32) (t : eL) (st : List Value) (h : eH), ru 69 46 (x0 :: x1 :: some (.int v) :: t) st h = ru 69 47 (x0 :: x1 :: some (.int v) :: t) (.int v :: st) h) ∧
  (∀ (x : Int32) (i : Int32) (a : Nat) (ls : eL) (st : List Value) (h : eH), ru 69 47 ls (.int x :: .int i :: .ref a :: st) h = wI (h.1 a) i x (fun e => ru 69 48 ls st (eUp h a e))) ∧
  (∀ (ls : eL) (st : List Value) (h : eH), ru 69 48 ls st h = ru 69 49 ls (.int (nI 0) :: st) h) ∧
  (∀ (x0 x1 x2 x3 x4 : Option Value) (v : Int32) (t : eL) (st : List Value) (h : eH), ru 69 49 (x0 :: x1 :: x2 :: x3 :: x4 :: t) (.int v :: st) h = ru 69 51 (x0 :: x1 :: x2 :: eKl x3 :: some (.int v) :: t) st h) ∧
  (∀ (x0 x1 x2 : Option Value) (v : Int32) (t : eL) (st : List Value) (h : eH), ru 69 53 (x0 :: x1 :: x2 :: some (.int v) :: t) st h = ru 69 54 (x0 :: x1 :: x2 :: some (.int v) :: t) (.int v :: st) h) ∧
  (∀ (x y : Int32) (ls : eL) (st : List Value) (h : eH), ru 69 54 ls (.int y :: .int x :: st) h = if y ≤ x then ru 69 76 ls st h else ru 69 57 ls st h) ∧
  (∀ (v : Nat) (t : eL) (st : List Value) (h : eH), ru 69 57 (some (.ref v) :: t) st h = ru 69 58 (some (.ref v) :: t) (.ref v :: st) h) ∧
  (∀ (a : Nat) (ls : eL) (st : List Value) (h : eH), ru 69 58 ls (.ref a :: st) h = gF (h.1 a) 11 3 (fun v => ru 69 61 ls (v :: st) h)) ∧
  (∀ (ls : eL) (st : List Value) (h : eH), ru 69 61 ls st h = ru 69 63 ls (.int (nI 60) :: st) h) ∧
  (∀ (x0 : Option Value) (v : Int32) (t : eL) (st : List Value) (h : eH), ru 69 63 (x0 :: some (.int v) :: t) st h = ru 69 64 (x0 :: some (.int v) :: t) (.int v :: st) h) ∧
  (∀ (x y : Int32) (ls : eL) (st : List Value) (h : eH), ru 69 64 ls (.int y :: .int x :: st) h = ru 69 65 ls (.int (x * y) :: st) h) ∧
  (∀ (x0 x1 x2 x3 : Option Value) (v : Int32) (t : eL) (st : List Value) (h : eH), ru 69 65 (x0 :: x1 :: x2 :: x3 :: some (.int v) :: t) st h = ru 69 67 (x0 :: x1 :: x2 :: x3 :: some (.int v) :: t) (.int v :: st) h) ∧
  (∀ (x y : Int32) (ls : eL) (st : List Value) (h : eH), ru 69 67 ls (.int y :: .int x :: st) h = ru 69 68 ls (.int (x + y) :: st) h) ∧
  (∀ (ls : eL) (st : List Value) (h : eH), ru 69 68 ls st h = ru 69 69 ls (.long (lN 0) :: st) h) ∧
  (∀ (x : Int64) (i : Int32) (a : Nat) (ls : eL) (st : List Value) (h : eH), ru 69 69 ls (.long x :: .int i :: .ref a :: st) h = wL (h.1 a) i x (fun e => ru 69 70 ls st (eUp h a e))) ∧
  (∀ (x0 x1 x2 x3 : Option Value) (v : Int32) (t : eL) (st : List Value) (h : eH), ru 69 70 (x0 :: x1 :: x2 :: x3 :: some (.int v) :: t) st h = ru 69 73 (x0 :: x1 :: x2 :: eKl x3 :: some (.int (v + 1)) :: t) st h) ∧
  (∀ (ls : eL) (st : List Value) (h : eH), ru 69 73 ls st h = ru 69 51 ls st h) ∧
  (∀ (x : Int32) (ls : eL) (h : eH), ru 69 77 ls [.int x] h = some (some (.int x), h)) := ⟨fun x0 v t st h => ru_go rfl rfl,
  fun a0 ls h => ru_inv rfl (by decide) rfl (Nat.le_of_ble_eq_true rfl),
  fun x ls st h => ru_if rfl rfl,
  fun x0 x1 v t st h => ru_go rfl rfl,
  fun x ls st h => ru_if rfl rfl,
  fun x0 x1 v t st h => ru_go rfl rfl,
  fun ls st h => ru_go rfl rfl,
  fun x y ls st h => ru_if rfl rfl,
  fun x0 x1 x2 v t st h => ru_go rfl rfl,
  fun ls st h => ru_go rfl rfl,
  fun x y ls st h => ru_if rfl rfl,
  fun ls st h => ru_go rfl rfl,
  fun x ls h => ru_ret rfl rfl,
  fun x0 x1 x2 v t st h => ru_go rfl rfl,
  fun x ls st h => ru_if rfl rfl,
  fun ls st h => ru_go rfl rfl,
  fun x ls h => ru_ret rfl rfl,
  fun v t st h => ru_go rfl rfl,
  fun a ls st h => ru_getf rfl,
  fun x0 v t st h => ru_go rfl rfl,
  fun x0 x1 x2 v t st h => ru_go rfl rfl,
  fun ls st h => ru_go rfl rfl,
  fun x y ls st h => ru_go rfl rfl,
  fun x i a ls st h => ru_iast rfl,
  fun v t st h => ru_go rfl rfl,
  fun a ls st h => ru_getf rfl,
  fun x0 v t st h => ru_go rfl rfl,
  fun x0 x1 v t st h => ru_go rfl rfl,
  fun x i a ls st h => ru_iast rfl,
  fun ls st h => ru_go rfl rfl,
  fun x0 x1 x2 x3 x4 v t st h => ru_go rfl rfl,
  fun x0 x1 x2 v t st h => ru_go rfl rfl,
  fun x y ls st h => ru_if rfl rfl,
  fun v t st h => ru_go rfl rfl,
  fun a ls st h => ru_getf rfl,
  fun ls st h => ru_go rfl rfl,
  fun x0 v t st h => ru_go rfl rfl,
  fun x y ls st h => ru_go rfl rfl,
  fun x0 x1 x2 x3 v t st h => ru_go rfl rfl,
  fun x y ls st h => ru_go rfl rfl,
  fun ls st h => ru_go rfl rfl,
  fun x i a ls st h => ru_last rfl,
  fun x0 x1 x2 x3 v t st h => ru_go rfl rfl,
  fun ls st h => ru_go rfl rfl,
  fun x ls h => ru_ret rfl rfl⟩
theorem E69 (a0 : Nat) (a1 : Int32) (a2 : Int32) (a3 : Int32) {h : eH} {fs : List Value} (ha : h.1 a0 = .inr (11, fs)) : den 69 [.ref a0, .int a1, .int a2, .int a3] h = ru 69 0 [some (.ref a0), some (.int a1), some (.int a2), some (.int a3), none] [] h := den_ob (Nat.le_of_ble_eq_true rfl) ha
/-! 70 X11_shape -/
set_option maxRecDepth 100000 in
theorem S70 : (∀ (v : Nat) (t : eL) (st : List Value) (h : eH), ru 70 0 (some (.ref v) :: t) st h = ru 70 1 (some (.ref v) :: t) (.ref v :: st) h) ∧
  (∀ (a0 : Nat) (ls : eL) (h : eH), ru 70 1 ls [.ref a0] h = cl (den 56 [.ref a0] h) (fun v h => ru 70 4 ls (v.toList ++ []) h)) ∧
  (∀ (x : Int32) (ls : eL) (st : List Value) (h : eH), ru 70 4 ls (.int x :: st) h = if x = 0 then ru 70 24 ls st h else ru 70 7 ls st h) ∧
  (∀ (v : Nat) (t : eL) (st : List Value) (h : eH), ru 70 7 (some (.ref v) :: t) st h = ru 70 8 (some (.ref v) :: t) (.ref v :: st) h) ∧
  (∀ (x0 : Option Value) (v : Int32) (t : eL) (st : List Value) (h : eH), ru 70 8 (x0 :: some (.int v) :: t) st h = ru 70 9 (x0 :: some (.int v) :: t) (.int v :: st) h) ∧
  (∀ (a0 : Nat) (a1 : Int32) (ls : eL) (h : eH), ru 70 9 ls [.int a1, .ref a0] h = cl (den 55 [.ref a0, .int a1] h) (fun v h => ru 70 12 ls (v.toList ++ []) h)) ∧
  (∀ (x : Int32) (ls : eL) (st : List Value) (h : eH), ru 70 12 ls (.int x :: st) h = if x = 0 then ru 70 24 ls st h else ru 70 15 ls st h) ∧
  (∀ (x0 x1 : Option Value) (v : Int32) (t : eL) (st : List Value) (h : eH), ru 70 15 (x0 :: x1 :: some (.int v) :: t) st h = ru 70 16 (x0 :: x1 :: some (.int v) :: t) (.int v :: st) h) ∧
  (∀ (x : Int32) (ls : eL) (st : List Value) (h : eH), ru 70 16 ls (.int x :: st) h = if x < 0 then ru 70 24 ls st h else ru 70 19 ls st h) ∧
  (∀ (x0 x1 : Option Value) (v : Int32) (t : eL) (st : List Value) (h : eH), ru 70 19 (x0 :: x1 :: some (.int v) :: t) st h = ru 70 20 (x0 :: x1 :: some (.int v) :: t) (.int v :: st) h) ∧
  (∀ (ls : eL) (st : List Value) (h : eH), ru 70 20 ls st h = ru 70 21 ls (.int (nI 1) :: st) h) ∧
  (∀ (x y : Int32) (ls : eL) (st : List Value) (h : eH), ru 70 21 ls (.int y :: .int x :: st) h = if x ≤ y then ru 70 26 ls st h else ru 70 24 ls st h) ∧
  (∀ (ls : eL) (st : List Value) (h : eH), ru 70 24 ls st h = ru 70 25 ls (.int (nI 0) :: st) h) ∧
  (∀ (x : Int32) (ls : eL) (h : eH), ru 70 25 ls [.int x] h = bo (x == 0 || x == 1) (some (some (.int x), h))) ∧
  (∀ (v : Nat) (t : eL) (st : List Value) (h : eH), ru 70 26 (some (.ref v) :: t) st h = ru 70 27 (some (.ref v) :: t) (.ref v :: st) h) ∧
  (∀ (a : Nat) (ls : eL) (st : List Value) (h : eH), ru 70 27 ls (.ref a :: st) h = gF (h.1 a) 11 7 (fun v => ru 70 30 ls (v :: st) h)) ∧
  (∀ (x0 : Option Value) (v : Int32) (t : eL) (st : List Value) (h : eH), ru 70 30 (x0 :: some (.int v) :: t) st h = ru 70 31 (x0 :: some (.int v) :: t) (.int v :: st) h) ∧
  (∀ (i : Int32) (a : Nat) (ls : eL) (st : List Value) (h : eH), ru 70 31 ls (.int i :: .ref a :: st) h = aI (h.1 a) 2 i (fun v => ru 70 32 ls (.int v :: st) h)) ∧
  (∀ (x : Int32) (ls : eL) (st : List Value) (h : eH), ru 70 32 ls (.int x :: st) h = if x = 0 then ru 70 77 ls st h else ru 70 35 ls st h) ∧
  (∀ (v : Nat) (t : eL) (st : List Value) (h : eH), ru 70 35 (some (.ref v) :: t) st h = ru 70 36 (some (.ref v) :: t) (.ref v :: st) h) ∧
  (∀ (ls : eL) (st : List Value) (h : eH), ru 70 36 ls st h = ru 70 37 ls (.int (nI 5) :: st) h) ∧
  (∀ (x0 x1 : Option Value) (v : Int32) (t : eL) (st : List Value) (h : eH), ru 70 37 (x0 :: x1 :: some (.int v) :: t) st h = ru 70 38 (x0 :: x1 :: some (.int v) :: t) (.int v :: st) h) ∧
  (∀ (x : Int32) (ls : eL) (st : List Value) (h : eH), ru 70 38 ls (.int x :: st) h = if x = 0 then ru 70 41 ls st h else ru 70 51 ls st h) ∧
  (∀ (v : Nat) (t : eL) (st : List Value) (h : eH), ru 70 41 (some (.ref v) :: t) st h = ru 70 42 (some (.ref v) :: t) (.ref v :: st) h) ∧
  (∀ (a : Nat) (ls : eL) (st : List Value) (h : eH), ru 70 42 ls (.ref a :: st) h = gF (h.1 a) 11 5 (fun v => ru 70 45 ls (v :: st) h)) ∧
  (∀ (x0 : Option Value) (v : Int32) (t : eL) (st : List Value) (h : eH), ru 70 45 (x0 :: some (.int v) :: t) st h = ru 70 46 (x0 :: some (.int v) :: t) (.int v :: st) h) ∧
  (∀ (i : Int32) (a : Nat) (ls : eL) (st : List Value) (h : eH), ru 70 46 ls (.int i :: .ref a :: st) h = aI (h.1 a) 0 i (fun v => ru 70 47 ls (.int v :: st) h)) ∧
  (∀ (x : Int32) (ls : eL) (st : List Value) (h : eH), ru 70 47 ls (.int x :: st) h = ru 70 48 ls (.long (x.toInt64) :: st) h) ∧
  (∀ (ls : eL) (st : List Value) (h : eH), ru 70 48 ls st h = ru 70 58 ls st h) ∧
  (∀ (v : Nat) (t : eL) (st : List Value) (h : eH), ru 70 51 (some (.ref v) :: t) st h = ru 70 52 (some (.ref v) :: t) (.ref v :: st) h) ∧
  (∀ (a : Nat) (ls : eL) (st : List Value) (h : eH), ru 70 52 ls (.ref a :: st) h = gF (h.1 a) 11 6 (fun v => ru 70 55 ls (v :: st) h)) ∧
  (∀ (x0 : Option Value) (v : Int32) (t : eL) (st : List Value) (h : eH), ru 70 55 (x0 :: some (.int v) :: t) st h = ru 70 56 (x0 :: some (.int v) :: t) (.int v :: st) h) ∧
  (∀ (i : Int32) (a : Nat) (ls : eL) (st : List Value) (h : eH), ru 70 56 ls (.int i :: .ref a :: st) h = aI (h.1 a) 0 i (fun v => ru 70 57 ls (.int v :: st) h)) ∧
  (∀ (x : Int32) (ls : eL) (st : List Value) (h : eH), ru 70 57 ls (.int x :: st) h = ru 70 58 ls (.long (x.toInt64) :: st) h) ∧
  (∀ (a0 : Nat) (a1 : Int32) (a2 : Int64) (ls : eL) (h : eH), ru 70 58 ls [.long a2, .int a1, .ref a0] h = cl (den 12 [.ref a0, .int a1, .long a2] h) (fun v h => ru 70 61 ls (v.toList ++ []) h)) ∧
  (∀ (v : Nat) (t : eL) (st : List Value) (h : eH), ru 70 61 (some (.ref v) :: t) st h = ru 70 62 (some (.ref v) :: t) (.ref v :: st) h) ∧
  (∀ (ls : eL) (st : List Value) (h : eH), ru 70 62 ls st h = ru 70 64 ls (.int (nI 6) :: st) h) ∧
  (∀ (ls : eL) (st : List Value) (h : eH), ru 70 64 ls st h = ru 70 65 ls (.long (lN 1) :: st) h) ∧
  (∀ (a0 : Nat) (a1 : Int32) (a2 : Int64) (ls : eL) (h : eH), ru 70 65 ls [.long a2, .int a1, .ref a0] h = cl (den 12 [.ref a0, .int a1, .long a2] h) (fun v h => ru 70 68 ls (v.toList ++ []) h)) ∧
  (∀ (v : Nat) (t : eL) (st : List Value) (h : eH), ru 70 68 (some (.ref v) :: t) st h = ru 70 69 (some (.ref v) :: t) (.ref v :: st) h) ∧
  (∀ (ls : eL) (st : List Value) (h : eH), ru 70 69 ls st h = ru 70 70 ls (.int (nI 5) :: st) h) ∧
  (∀ (ls : eL) (st : List Value) (h : eH), ru 70 70 ls st h = ru 70 72 ls (.int (nI 6) :: st) h) ∧
  (∀ (a0 : Nat) (a1 : Int32) (a2 : Int32) (ls : eL) (h : eH), ru 70 72 ls [.int a2, .int a1, .ref a0] h = cl (den 38 [.ref a0, .int a1, .int a2] h) (fun v h => ru 70 75 ls (v.toList ++ []) h)) ∧
  (∀ (ls : eL) (st : List Value) (h : eH), ru 70 75 ls st h = ru 70 76 ls (.int (nI 1) :: st) h) ∧
  (∀ (x : Int32) (ls : eL) (h : eH), ru 70 76 ls [.int x] h = bo (x == 0 || x == 1) (some (some (.int x), h))) ∧
  (∀ (v : Nat) (t : eL) (st : List Value) (h : eH), ru 70 77 (some (.ref v) :: t) st h = ru 70 78 (some (.ref v) :: t) (.ref v :: st) h) ∧
  (∀ (ls : eL) (st : List Value) (h : eH), ru 70 78 ls st h = ru 70 79 ls (.int (nI 5) :: st) h) ∧
  (∀ (v : Nat) (t : eL) (st : List Value) (h : eH), ru 70 79 (some (.ref v) :: t) st h = ru 70 80 (some (.ref v) :: t) (.ref v :: st) h) ∧
  (∀ (v : Nat) (t : eL) (st : List Value) (h : eH), ru 70 80 (some (.ref v) :: t) st h = ru 70 81 (some (.ref v) :: t) (.ref v :: st) h) ∧
  (∀ (a : Nat) (ls : eL) (st : List Value) (h : eH), ru 70 81 ls (.ref a :: st) h = gF (h.1 a) 11 22 (fun v => ru 70 84 ls (v :: st) h)) ∧
  (∀ (v : Nat) (t : eL) (st : List Value) (h : eH), ru 70 84 (some (.ref v) :: t) st h = ru 70 85 (some (.ref v) :: t) (.ref v :: st) h) ∧
  (∀ (x0 : Option Value) (v : Int32) (t : eL) (st : List Value) (h : eH), ru 70 85 (x0 :: some (.int v) :: t) st h = ru 70 86 (x0 :: some (.int v) :: t) (.int v :: st) h) ∧
  (∀ (a0 : Nat) (a1 : Int32) (u0 : Nat) (u1 : Nat) (u2 : Int32) (u3 : Nat) (ls : eL) (h : eH), ru 70 86 ls [.int a1, .ref a0, .ref u0, .ref u1, .int u2, .ref u3] h = cl (den 13 [.ref a0, .int a1] h) (fun v h => ru 70 89 ls (v.toList ++ [.ref u0, .ref u1, .int u2, .ref u3]) h)) ∧
  (∀ (i : Int32) (a : Nat) (ls : eL) (st : List Value) (h : eH), ru 70 89 ls (.int i :: .ref a :: st) h = aI (h.1 a) 0 i (fun v => ru 70 90 ls (.int v :: st) h)) ∧
  (∀ (v : Nat) (t : eL) (st : List Value) (h : eH), ru 70 90 (some (.ref v) :: t) st h = ru 70 91 (some (.ref v) :: t) (.ref v :: st) h) ∧
  (∀ (a0 : Nat) (u0 : Int32) (u1 : Nat) (u2 : Int32) (u3 : Nat) (ls : eL) (h : eH), ru 70 91 ls [.ref a0, .int u0, .ref u1, .int u2, .ref u3] h = cl (den 23 [.ref a0] h) (fun v h => ru 70 94 ls (v.toList ++ [.int u0, .ref u1, .int u2, .ref u3]) h)) ∧
  (∀ (x0 x1 : Option Value) (v : Int32) (t : eL) (st : List Value) (h : eH), ru 70 94 (x0 :: x1 :: some (.int v) :: t) st h = ru 70 95 (x0 :: x1 :: some (.int v) :: t) (.int v :: st) h) ∧
  (∀ (x y : Int32) (ls : eL) (st : List Value) (h : eH), ru 70 95 ls (.int y :: .int x :: st) h = ru 70 96 ls (.int (x + y) :: st) h) ∧
  (∀ (a0 : Nat) (a1 : Int32) (a2 : Int32) (u0 : Int32) (u1 : Nat) (ls : eL) (h : eH), ru 70 96 ls [.int a2, .int a1, .ref a0, .int u0, .ref u1] h = cl (den 21 [.ref a0, .int a1, .int a2] h) (fun v h => ru 70 99 ls (v.toList ++ [.int u0, .ref u1]) h)) ∧
  (∀ (a0 : Nat) (a1 : Int32) (a2 : Int32) (ls : eL) (h : eH), ru 70 99 ls [.int a2, .int a1, .ref a0] h = cl (den 20 [.ref a0, .int a1, .int a2] h) (fun v h => ru 70 102 ls (v.toList ++ []) h)) ∧
  (∀ (v : Nat) (t : eL) (st : List Value) (h : eH), ru 70 102 (some (.ref v) :: t) st h = ru 70 103 (some (.ref v) :: t) (.ref v :: st) h) ∧
  (∀ (ls : eL) (st : List Value) (h : eH), ru 70 103 ls st h = ru 70 104 ls (.int (nI 5) :: st) h) ∧
  (∀ (ls : eL) (st : List Value) (h : eH), ru 70 104 ls st h = ru 70 106 ls (.int (nI 8) :: st) h) ∧
  (∀ (a0 : Nat) (a1 : Int32) (a2 : Int32) (ls : eL) (h : eH), ru 70 106 ls [.int a2, .int a1, .ref a0] h = cl (den 38 [.ref a0, .int a1, .int a2] h) (fun v h => ru 70 109 ls (v.toList ++ []) h)) ∧
  (∀ (ls : eL) (st : List Value) (h : eH), ru 70 109 ls st h = ru 70 110 ls (.int (nI 1) :: st) h) ∧
  (∀ (x : Int32) (ls : eL) (h : eH), ru 70 110 ls [.int x] h = bo (x == 0 || x == 1) (some (some (.int x), h))) := ⟨fun v t st h => ru_go rfl rfl,
  fun a0 ls h => ru_inv rfl (by decide) rfl (Nat.le_of_ble_eq_true rfl),
  fun x ls st h => ru_if rfl rfl,
  fun v t st h => ru_go rfl rfl,
  fun x0 v t st h => ru_go rfl rfl,
  fun a0 a1 ls h => ru_inv rfl (by decide) rfl (Nat.le_of_ble_eq_true rfl),
  fun x ls st h => ru_if rfl rfl,
  fun x0 x1 v t st h => ru_go rfl rfl,
  fun x ls st h => ru_if rfl rfl,
  fun x0 x1 v t st h => ru_go rfl rfl,
  fun ls st h => ru_go rfl rfl,
  fun x y ls st h => ru_if rfl rfl,
  fun ls st h => ru_go rfl rfl,
  fun x ls h => ru_bret rfl rfl,
  fun v t st h => ru_go rfl rfl,
  fun a ls st h => ru_getf rfl,
  fun x0 v t st h => ru_go rfl rfl,
  fun i a ls st h => ru_zald rfl,
  fun x ls st h => ru_if rfl rfl,
  fun v t st h => ru_go rfl rfl,
  fun ls st h => ru_go rfl rfl,
  fun x0 x1 v t st h => ru_go rfl rfl,
  fun x ls st h => ru_if rfl rfl,
  fun v t st h => ru_go rfl rfl,
  fun a ls st h => ru_getf rfl,
  fun x0 v t st h => ru_go rfl rfl,
  fun i a ls st h => ru_iald rfl,
  fun x ls st h => ru_go rfl rfl,
  fun ls st h => ru_go rfl rfl,
  fun v t st h => ru_go rfl rfl,
  fun a ls st h => ru_getf rfl,
  fun x0 v t st h => ru_go rfl rfl,
  fun i a ls st h => ru_iald rfl,
  fun x ls st h => ru_go rfl rfl,
  fun a0 a1 a2 ls h => ru_inv rfl (by decide) rfl (Nat.le_of_ble_eq_true rfl),
  fun v t st h => ru_go rfl rfl,
  fun ls st h => ru_go rfl rfl,
  fun ls st h => ru_go rfl rfl,
  fun a0 a1 a2 ls h => ru_inv rfl (by decide) rfl (Nat.le_of_ble_eq_true rfl),
  fun v t st h => ru_go rfl rfl,
  fun ls st h => ru_go rfl rfl,
  fun ls st h => ru_go rfl rfl,
  fun a0 a1 a2 ls h => ru_inv rfl (by decide) rfl (Nat.le_of_ble_eq_true rfl),
  fun ls st h => ru_go rfl rfl,
  fun x ls h => ru_bret rfl rfl,
  fun v t st h => ru_go rfl rfl,
  fun ls st h => ru_go rfl rfl,
  fun v t st h => ru_go rfl rfl,
  fun v t st h => ru_go rfl rfl,
  fun a ls st h => ru_getf rfl,
  fun v t st h => ru_go rfl rfl,
  fun x0 v t st h => ru_go rfl rfl,
  fun a0 a1 u0 u1 u2 u3 ls h => ru_inv rfl (by decide) rfl (Nat.le_of_ble_eq_true rfl),
  fun i a ls st h => ru_iald rfl,
  fun v t st h => ru_go rfl rfl,
  fun a0 u0 u1 u2 u3 ls h => ru_inv rfl (by decide) rfl (Nat.le_of_ble_eq_true rfl),
  fun x0 x1 v t st h => ru_go rfl rfl,
  fun x y ls st h => ru_go rfl rfl,
  fun a0 a1 a2 u0 u1 ls h => ru_inv rfl (by decide) rfl (Nat.le_of_ble_eq_true rfl),
  fun a0 a1 a2 ls h => ru_inv rfl (by decide) rfl (Nat.le_of_ble_eq_true rfl),
  fun v t st h => ru_go rfl rfl,
  fun ls st h => ru_go rfl rfl,
  fun ls st h => ru_go rfl rfl,
  fun a0 a1 a2 ls h => ru_inv rfl (by decide) rfl (Nat.le_of_ble_eq_true rfl),
  fun ls st h => ru_go rfl rfl,
  fun x ls h => ru_bret rfl rfl⟩
theorem E70 (a0 : Nat) (a1 : Int32) (a2 : Int32) {h : eH} {fs : List Value} (ha : h.1 a0 = .inr (11, fs)) : den 70 [.ref a0, .int a1, .int a2] h = ru 70 0 [some (.ref a0), some (.int a1), some (.int a2)] [] h := den_ob (Nat.le_of_ble_eq_true rfl) ha
/-! 71 X11_shaped -/
set_option maxRecDepth 100000 in
theorem S71 : (∀ (v : Nat) (t : eL) (st : List Value) (h : eH), ru 71 0 (some (.ref v) :: t) st h = ru 71 1 (some (.ref v) :: t) (.ref v :: st) h) ∧
  (∀ (a0 : Nat) (ls : eL) (h : eH), ru 71 1 ls [.ref a0] h = cl (den 56 [.ref a0] h) (fun v h => ru 71 4 ls (v.toList ++ []) h)) ∧
  (∀ (x : Int32) (ls : eL) (h : eH), ru 71 4 ls [.int x] h = bo (x == 0 || x == 1) (some (some (.int x), h))) := ⟨fun v t st h => ru_go rfl rfl,
  fun a0 ls h => ru_inv rfl (by decide) rfl (Nat.le_of_ble_eq_true rfl),
  fun x ls h => ru_bret rfl rfl⟩
theorem E71 (a0 : Nat) {h : eH} {fs : List Value} (ha : h.1 a0 = .inr (11, fs)) : den 71 [.ref a0] h = ru 71 0 [some (.ref a0)] [] h := den_ob (Nat.le_of_ble_eq_true rfl) ha
/-! 72 X11_stiff -/
set_option maxRecDepth 100000 in
theorem H72_34 : (∀ (x0 x1 : Option Value) (v : Int32) (t : eL) (st : List Value) (h : eH), ru 72 34 (x0 :: x1 :: some (.int v) :: t) st h = ru 72 35 (x0 :: x1 :: some (.int v) :: t) (.int v :: st) h) := fun x0 x1 v t st h => ru_go rfl rfl
set_option maxRecDepth 100000 in
theorem H72_52 : (∀ (x0 x1 x2 x3 : Option Value) (v : Int32) (t : eL) (st : List Value) (h : eH), ru 72 52 (x0 :: x1 :: x2 :: x3 :: some (.int v) :: t) st h = ru 72 54 (x0 :: x1 :: x2 :: x3 :: some (.int v) :: t) (.int v :: st) h) := fun x0 x1 x2 x3 v t st h => ru_go rfl rfl
set_option maxRecDepth 100000 in
theorem H72_86 : (∀ (x0 x1 : Option Value) (v : Int32) (t : eL) (st : List Value) (h : eH), ru 72 86 (x0 :: x1 :: some (.int v) :: t) st h = ru 72 89 (x0 :: eKl x1 :: some (.int (v + 1)) :: t) st h) := fun x0 x1 v t st h => ru_go rfl rfl
set_option maxRecDepth 100000 in
theorem H72_92 : (∀ (ls : eL) (st : List Value) (h : eH), ru 72 92 ls st h = ru 72 93 ls (.int (nI 0) :: st) h) := fun ls st h => ru_go rfl rfl
set_option maxRecDepth 100000 in
theorem H72_94 : (∀ (x0 x1 : Option Value) (v : Int32) (t : eL) (st : List Value) (h : eH), ru 72 94 (x0 :: x1 :: some (.int v) :: t) st h = ru 72 95 (x0 :: x1 :: some (.int v) :: t) (.int v :: st) h) := fun x0 x1 v t st h => ru_go rfl rfl
set_option maxRecDepth 100000 in
theorem H72_101 : (∀ (x0 x1 x2 : Option Value) (v : Int32) (t : eL) (st : List Value) (h : eH), ru 72 101 (x0 :: x1 :: x2 :: some (.int v) :: t) st h = ru 72 102 (x0 :: x1 :: x2 :: some (.int v) :: t) (.int v :: st) h) := fun x0 x1 x2 v t st h => ru_go rfl rfl
set_option maxRecDepth 100000 in
theorem H72_120 : (∀ (x0 x1 x2 x3 : Option Value) (v : Int32) (t : eL) (st : List Value) (h : eH), ru 72 120 (x0 :: x1 :: x2 :: x3 :: some (.int v) :: t) st h = ru 72 122 (x0 :: x1 :: x2 :: x3 :: some (.int v) :: t) (.int v :: st) h) := fun x0 x1 x2 x3 v t st h => ru_go rfl rfl
set_option maxRecDepth 100000 in
theorem H72_132 : (∀ (x0 x1 x2 x3 x4 : Option Value) (v : Int32) (t : eL) (st : List Value) (h : eH), ru 72 132 (x0 :: x1 :: x2 :: x3 :: x4 :: some (.int v) :: t) st h = ru 72 134 (x0 :: x1 :: x2 :: x3 :: x4 :: some (.int v) :: t) (.int v :: st) h) := fun x0 x1 x2 x3 x4 v t st h => ru_go rfl rfl
set_option maxRecDepth 100000 in
theorem H72_192 : (∀ (x0 x1 x2 x3 : Option Value) (v : Int32) (t : eL) (st : List Value) (h : eH), ru 72 192 (x0 :: x1 :: x2 :: x3 :: some (.int v) :: t) st h = ru 72 195 (x0 :: x1 :: x2 :: eKl x3 :: some (.int (v + 1)) :: t) st h) := fun x0 x1 x2 x3 v t st h => ru_go rfl rfl
set_option maxRecDepth 100000 in
theorem H72_198 : (∀ (x0 x1 x2 : Option Value) (v : Int32) (t : eL) (st : List Value) (h : eH), ru 72 198 (x0 :: x1 :: x2 :: some (.int v) :: t) st h = ru 72 201 (x0 :: x1 :: eKl x2 :: some (.int (v + 1)) :: t) st h) := fun x0 x1 x2 v t st h => ru_go rfl rfl
set_option maxRecDepth 100000 in
theorem H72_204 : (∀ (x0 x1 : Option Value) (v : Int32) (t : eL) (st : List Value) (h : eH), ru 72 204 (x0 :: x1 :: some (.int v) :: t) st h = ru 72 207 (x0 :: eKl x1 :: some (.int (v + 1)) :: t) st h) := fun x0 x1 v t st h => ru_go rfl rfl
set_option maxRecDepth 100000 in
theorem H72_210 : (∀ (x0 : Option Value) (v : Int32) (t : eL) (st : List Value) (h : eH), ru 72 210 (x0 :: some (.int v) :: t) st h = ru 72 211 (x0 :: some (.int v) :: t) (.int v :: st) h) := fun x0 v t st h => ru_go rfl rfl
set_option maxRecDepth 100000 in
theorem H72_272 : (∀ (x0 x1 : Option Value) (v : Int32) (t : eL) (st : List Value) (h : eH), ru 72 272 (x0 :: x1 :: some (.int v) :: t) st h = ru 72 273 (x0 :: x1 :: some (.int v) :: t) (.int v :: st) h) := fun x0 x1 v t st h => ru_go rfl rfl
set_option maxRecDepth 100000 in
theorem H72_327 : (∀ (v : Nat) (t : eL) (st : List Value) (h : eH), ru 72 327 (some (.ref v) :: t) st h = ru 72 328 (some (.ref v) :: t) (.ref v :: st) h) := fun v t st h => ru_go rfl rfl
set_option maxRecDepth 100000 in
theorem S72 : (∀ (v : Nat) (t : eL) (st : List Value) (h : eH), ru 72 0 (some (.ref v) :: t) st h = ru 72 1 (some (.ref v) :: t) (.ref v :: st) h) ∧
  (∀ (ls : eL) (st : List Value) (h : eH), ru 72 1 ls st h = ru 72 2 ls (.int (nI 0) :: st) h) ∧
  (∀ (a0 : Nat) (a1 : Int32) (ls : eL) (h : eH), ru 72 2 ls [.int a1, .ref a0] h = cl (den 49 [.ref a0, .int a1] h) (fun v h => ru 72 5 ls (v.toList ++ []) h)) ∧
  (∀ (x : Int32) (ls : eL) (st : List Value) (h : eH), ru 72 5 ls (.int x :: st) h = if x = 0 then ru 72 8 ls st h else ru 72 10 ls st h) ∧
  (∀ (ls : eL) (st : List Value) (h : eH), ru 72 8 ls st h = ru 72 9 ls (.int (nI 0) :: st) h) ∧
  (∀ (x : Int32) (ls : eL) (h : eH), ru 72 9 ls [.int x] h = some (some (.int x), h)) ∧
  (∀ (v : Nat) (t : eL) (st : List Value) (h : eH), ru 72 10 (some (.ref v) :: t) st h = ru 72 11 (some (.ref v) :: t) (.ref v :: st) h) ∧
  (∀ (a0 : Nat) (ls : eL) (h : eH), ru 72 11 ls [.ref a0] h = cl (den 65 [.ref a0] h) (fun v h => ru 72 14 ls (v.toList ++ []) h)) ∧
  (∀ (v : Nat) (t : eL) (st : List Value) (h : eH), ru 72 14 (some (.ref v) :: t) st h = ru 72 15 (some (.ref v) :: t) (.ref v :: st) h) ∧
  (∀ (a : Nat) (ls : eL) (st : List Value) (h : eH), ru 72 15 ls (.ref a :: st) h = gF (h.1 a) 11 20 (fun v => ru 72 18 ls (v :: st) h)) ∧
  (∀ (v : Nat) (t : eL) (st : List Value) (h : eH), ru 72 18 (some (.ref v) :: t) st h = ru 72 19 (some (.ref v) :: t) (.ref v :: st) h) ∧
  (∀ (a : Nat) (ls : eL) (st : List Value) (h : eH), ru 72 19 ls (.ref a :: st) h = gF (h.1 a) 11 21 (fun v => ru 72 22 ls (v :: st) h)) ∧
  (∀ (x y : Int32) (ls : eL) (st : List Value) (h : eH), ru 72 22 ls (.int y :: .int x :: st) h = ru 72 23 ls (.int (x - y) :: st) h) ∧
  (∀ (x0 x1 : Option Value) (v : Int32) (t : eL) (st : List Value) (h : eH), ru 72 23 (x0 :: x1 :: t) (.int v :: st) h = ru 72 24 (eKl x0 :: some (.int v) :: t) st h) ∧
  (∀ (x0 : Option Value) (v : Int32) (t : eL) (st : List Value) (h : eH), ru 72 24 (x0 :: some (.int v) :: t) st h = ru 72 25 (x0 :: some (.int v) :: t) (.int v :: st) h) ∧
  (∀ (ls : eL) (st : List Value) (h : eH), ru 72 25 ls st h = ru 72 26 ls (.int (nI 3) :: st) h) ∧
  (∀ (x y : Int32) (ls : eL) (st : List Value) (h : eH), ru 72 26 ls (.int y :: .int x :: st) h = if x ≤ y then ru 72 32 ls st h else ru 72 29 ls st h) ∧
  (∀ (ls : eL) (st : List Value) (h : eH), ru 72 29 ls st h = ru 72 31 ls (.int ((-7)) :: st) h) ∧
  (∀ (x : Int32) (ls : eL) (h : eH), ru 72 31 ls [.int x] h = some (some (.int x), h)) ∧
  (∀ (ls : eL) (st : List Value) (h : eH), ru 72 32 ls st h = ru 72 33 ls (.int (nI 0) :: st) h) ∧
  (∀ (x0 x1 x2 : Option Value) (v : Int32) (t : eL) (st : List Value) (h : eH), ru 72 33 (x0 :: x1 :: x2 :: t) (.int v :: st) h = ru 72 34 (x0 :: eKl x1 :: some (.int v) :: t) st h) ∧
  (∀ (x0 : Option Value) (v : Int32) (t : eL) (st : List Value) (h : eH), ru 72 35 (x0 :: some (.int v) :: t) st h = ru 72 36 (x0 :: some (.int v) :: t) (.int v :: st) h) ∧
  (∀ (x y : Int32) (ls : eL) (st : List Value) (h : eH), ru 72 36 ls (.int y :: .int x :: st) h = if y ≤ x then ru 72 92 ls st h else ru 72 39 ls st h) ∧
  (∀ (v : Nat) (t : eL) (st : List Value) (h : eH), ru 72 39 (some (.ref v) :: t) st h = ru 72 40 (some (.ref v) :: t) (.ref v :: st) h) ∧
  (∀ (v : Nat) (t : eL) (st : List Value) (h : eH), ru 72 40 (some (.ref v) :: t) st h = ru 72 41 (some (.ref v) :: t) (.ref v :: st) h) ∧
  (∀ (a : Nat) (ls : eL) (st : List Value) (h : eH), ru 72 41 ls (.ref a :: st) h = gF (h.1 a) 11 20 (fun v => ru 72 44 ls (v :: st) h)) ∧
  (∀ (x0 x1 : Option Value) (v : Int32) (t : eL) (st : List Value) (h : eH), ru 72 44 (x0 :: x1 :: some (.int v) :: t) st h = ru 72 45 (x0 :: x1 :: some (.int v) :: t) (.int v :: st) h) ∧
  (∀ (a0 : Nat) (a1 : Int32) (a2 : Int32) (ls : eL) (h : eH), ru 72 45 ls [.int a2, .int a1, .ref a0] h = cl (den 52 [.ref a0, .int a1, .int a2] h) (fun v h => ru 72 48 ls (v.toList ++ []) h)) ∧
  (∀ (x0 x1 x2 x3 : Option Value) (v : Int32) (t : eL) (st : List Value) (h : eH), ru 72 48 (x0 :: x1 :: x2 :: x3 :: t) (.int v :: st) h = ru 72 49 (x0 :: x1 :: eKl x2 :: some (.int v) :: t) st h) ∧
  (∀ (ls : eL) (st : List Value) (h : eH), ru 72 49 ls st h = ru 72 50 ls (.int (nI 0) :: st) h) ∧
  (∀ (x0 x1 x2 x3 x4 : Option Value) (v : Int32) (t : eL) (st : List Value) (h : eH), ru 72 50 (x0 :: x1 :: x2 :: x3 :: x4 :: t) (.int v :: st) h = ru 72 52 (x0 :: x1 :: x2 :: eKl x3 :: some (.int v) :: t) st h) ∧
  (∀ (v : Nat) (t : eL) (st : List Value) (h : eH), ru 72 54 (some (.ref v) :: t) st h = ru 72 55 (some (.ref v) :: t) (.ref v :: st) h) ∧
  (∀ (a : Nat) (ls : eL) (st : List Value) (h : eH), ru 72 55 ls (.ref a :: st) h = gF (h.1 a) 11 20 (fun v => ru 72 58 ls (v :: st) h)) ∧
  (∀ (x y : Int32) (ls : eL) (st : List Value) (h : eH), ru 72 58 ls (.int y :: .int x :: st) h = if y ≤ x then ru 72 86 ls st h else ru 72 61 ls st h) ∧
  (∀ (v : Nat) (t : eL) (st : List Value) (h : eH), ru 72 61 (some (.ref v) :: t) st h = ru 72 62 (some (.ref v) :: t) (.ref v :: st) h) ∧
  (∀ (x0 x1 x2 : Option Value) (v : Int32) (t : eL) (st : List Value) (h : eH), ru 72 62 (x0 :: x1 :: x2 :: some (.int v) :: t) st h = ru 72 63 (x0 :: x1 :: x2 :: some (.int v) :: t) (.int v :: st) h) ∧
  (∀ (x0 x1 x2 x3 : Option Value) (v : Int32) (t : eL) (st : List Value) (h : eH), ru 72 63 (x0 :: x1 :: x2 :: x3 :: some (.int v) :: t) st h = ru 72 65 (x0 :: x1 :: x2 :: x3 :: some (.int v) :: t) (.int v :: st) h) ∧
  (∀ (a0 : Nat) (a1 : Int32) (a2 : Int32) (ls : eL) (h : eH), ru 72 65 ls [.int a2, .int a1, .ref a0] h = cl (den 22 [.ref a0, .int a1, .int a2] h) (fun v h => ru 72 68 ls (v.toList ++ []) h)) ∧
  (∀ (v : Nat) (t : eL) (st : List Value) (h : eH), ru 72 68 (some (.ref v) :: t) st h = ru 72 69 (some (.ref v) :: t) (.ref v :: st) h) ∧
  (∀ (v : Nat) (t : eL) (st : List Value) (h : eH), ru 72 69 (some (.ref v) :: t) st h = ru 72 70 (some (.ref v) :: t) (.ref v :: st) h) ∧
  (∀ (x0 x1 : Option Value) (v : Int32) (t : eL) (st : List Value) (h : eH), ru 72 70 (x0 :: x1 :: some (.int v) :: t) st h = ru 72 71 (x0 :: x1 :: some (.int v) :: t) (.int v :: st) h) ∧
  (∀ (x0 x1 x2 x3 : Option Value) (v : Int32) (t : eL) (st : List Value) (h : eH), ru 72 71 (x0 :: x1 :: x2 :: x3 :: some (.int v) :: t) st h = ru 72 73 (x0 :: x1 :: x2 :: x3 :: some (.int v) :: t) (.int v :: st) h) ∧
  (∀ (a0 : Nat) (a1 : Int32) (a2 : Int32) (u0 : Nat) (ls : eL) (h : eH), ru 72 73 ls [.int a2, .int a1, .ref a0, .ref u0] h = cl (den 14 [.ref a0, .int a1, .int a2] h) (fun v h => ru 72 76 ls (v.toList ++ [.ref u0]) h)) ∧
  (∀ (ls : eL) (st : List Value) (h : eH), ru 72 76 ls st h = ru 72 77 ls (.int (nI 5) :: st) h) ∧
  (∀ (a0 : Nat) (a1 : Int32) (a2 : Int32) (ls : eL) (h : eH), ru 72 77 ls [.int a2, .int a1, .ref a0] h = cl (den 20 [.ref a0, .int a1, .int a2] h) (fun v h => ru 72 80 ls (v.toList ++ []) h)) ∧
  (∀ (x0 x1 x2 x3 : Option Value) (v : Int32) (t : eL) (st : List Value) (h : eH), ru 72 80 (x0 :: x1 :: x2 :: x3 :: some (.int v) :: t) st h = ru 72 83 (x0 :: x1 :: x2 :: eKl x3 :: some (.int (v + 1)) :: t) st h) ∧
  (∀ (ls : eL) (st : List Value) (h : eH), ru 72 83 ls st h = ru 72 52 ls st h) ∧
  (∀ (ls : eL) (st : List Value) (h : eH), ru 72 89 ls st h = ru 72 34 ls st h) ∧
  (∀ (x0 x1 x2 : Option Value) (v : Int32) (t : eL) (st : List Value) (h : eH), ru 72 93 (x0 :: x1 :: x2 :: t) (.int v :: st) h = ru 72 94 (x0 :: eKl x1 :: some (.int v) :: t) st h) ∧
  (∀ (x0 : Option Value) (v : Int32) (t : eL) (st : List Value) (h : eH), ru 72 95 (x0 :: some (.int v) :: t) st h = ru 72 96 (x0 :: some (.int v) :: t) (.int v :: st) h) ∧
  (∀ (x y : Int32) (ls : eL) (st : List Value) (h : eH), ru 72 96 ls (.int y :: .int x :: st) h = if y ≤ x then ru 72 210 ls st h else ru 72 99 ls st h) ∧
  (∀ (ls : eL) (st : List Value) (h : eH), ru 72 99 ls st h = ru 72 100 ls (.int (nI 0) :: st) h) ∧
  (∀ (x0 x1 x2 x3 : Option Value) (v : Int32) (t : eL) (st : List Value) (h : eH), ru 72 100 (x0 :: x1 :: x2 :: x3 :: t) (.int v :: st) h = ru 72 101 (x0 :: x1 :: eKl x2 :: some (.int v) :: t) st h) ∧
  (∀ (x0 : Option Value) (v : Int32) (t : eL) (st : List Value) (h : eH), ru 72 102 (x0 :: some (.int v) :: t) st h = ru 72 103 (x0 :: some (.int v) :: t) (.int v :: st) h) ∧
  (∀ (x y : Int32) (ls : eL) (st : List Value) (h : eH), ru 72 103 ls (.int y :: .int x :: st) h = if y ≤ x then ru 72 204 ls st h else ru 72 106 ls st h) ∧
  (∀ (v : Nat) (t : eL) (st : List Value) (h : eH), ru 72 106 (some (.ref v) :: t) st h = ru 72 107 (some (.ref v) :: t) (.ref v :: st) h) ∧
  (∀ (v : Nat) (t : eL) (st : List Value) (h : eH), ru 72 107 (some (.ref v) :: t) st h = ru 72 108 (some (.ref v) :: t) (.ref v :: st) h) ∧
  (∀ (x0 x1 : Option Value) (v : Int32) (t : eL) (st : List Value) (h : eH), ru 72 108 (x0 :: x1 :: some (.int v) :: t) st h = ru 72 109 (x0 :: x1 :: some (.int v) :: t) (.int v :: st) h) ∧
  (∀ (x0 x1 x2 : Option Value) (v : Int32) (t : eL) (st : List Value) (h : eH), ru 72 109 (x0 :: x1 :: x2 :: some (.int v) :: t) st h = ru 72 110 (x0 :: x1 :: x2 :: some (.int v) :: t) (.int v :: st) h) ∧
  (∀ (a0 : Nat) (a1 : Int32) (a2 : Int32) (u0 : Nat) (ls : eL) (h : eH), ru 72 110 ls [.int a2, .int a1, .ref a0, .ref u0] h = cl (den 51 [.ref a0, .int a1, .int a2] h) (fun v h => ru 72 113 ls (v.toList ++ [.ref u0]) h)) ∧
  (∀ (ls : eL) (st : List Value) (h : eH), ru 72 113 ls st h = ru 72 114 ls (.long (lN 0) :: st) h) ∧
  (∀ (a0 : Nat) (a1 : Int32) (a2 : Int64) (ls : eL) (h : eH), ru 72 114 ls [.long a2, .int a1, .ref a0] h = cl (den 12 [.ref a0, .int a1, .long a2] h) (fun v h => ru 72 117 ls (v.toList ++ []) h)) ∧
  (∀ (ls : eL) (st : List Value) (h : eH), ru 72 117 ls st h = ru 72 118 ls (.int (nI 0) :: st) h) ∧
  (∀ (x0 x1 x2 x3 x4 : Option Value) (v : Int32) (t : eL) (st : List Value) (h : eH), ru 72 118 (x0 :: x1 :: x2 :: x3 :: x4 :: t) (.int v :: st) h = ru 72 120 (x0 :: x1 :: x2 :: eKl x3 :: some (.int v) :: t) st h) ∧
  (∀ (v : Nat) (t : eL) (st : List Value) (h : eH), ru 72 122 (some (.ref v) :: t) st h = ru 72 123 (some (.ref v) :: t) (.ref v :: st) h) ∧
  (∀ (a : Nat) (ls : eL) (st : List Value) (h : eH), ru 72 123 ls (.ref a :: st) h = gF (h.1 a) 11 10 (fun v => ru 72 126 ls (v :: st) h)) ∧
  (∀ (x y : Int32) (ls : eL) (st : List Value) (h : eH), ru 72 126 ls (.int y :: .int x :: st) h = if y ≤ x then ru 72 198 ls st h else ru 72 129 ls st h) ∧
  (∀ (ls : eL) (st : List Value) (h : eH), ru 72 129 ls st h = ru 72 130 ls (.int (nI 0) :: st) h) ∧
  (∀ (x0 x1 x2 x3 x4 x5 : Option Value) (v : Int32) (t : eL) (st : List Value) (h : eH), ru 72 130 (x0 :: x1 :: x2 :: x3 :: x4 :: x5 :: t) (.int v :: st) h = ru 72 132 (x0 :: x1 :: x2 :: x3 :: eKl x4 :: some (.int v) :: t) st h) ∧
  (∀ (ls : eL) (st : List Value) (h : eH), ru 72 134 ls st h = ru 72 135 ls (.int (nI 2) :: st) h) ∧
  (∀ (x y : Int32) (ls : eL) (st : List Value) (h : eH), ru 72 135 ls (.int y :: .int x :: st) h = if y ≤ x then ru 72 192 ls st h else ru 72 138 ls st h) ∧
  (∀ (v : Nat) (t : eL) (st : List Value) (h : eH), ru 72 138 (some (.ref v) :: t) st h = ru 72 139 (some (.ref v) :: t) (.ref v :: st) h) ∧
  (∀ (x0 x1 : Option Value) (v : Int32) (t : eL) (st : List Value) (h : eH), ru 72 139 (x0 :: x1 :: some (.int v) :: t) st h = ru 72 140 (x0 :: x1 :: some (.int v) :: t) (.int v :: st) h) ∧
  (∀ (x0 x1 x2 x3 : Option Value) (v : Int32) (t : eL) (st : List Value) (h : eH), ru 72 140 (x0 :: x1 :: x2 :: x3 :: some (.int v) :: t) st h = ru 72 142 (x0 :: x1 :: x2 :: x3 :: some (.int v) :: t) (.int v :: st) h) ∧
  (∀ (x0 x1 x2 x3 x4 : Option Value) (v : Int32) (t : eL) (st : List Value) (h : eH), ru 72 142 (x0 :: x1 :: x2 :: x3 :: x4 :: some (.int v) :: t) st h = ru 72 144 (x0 :: x1 :: x2 :: x3 :: x4 :: some (.int v) :: t) (.int v :: st) h) ∧
  (∀ (ls : eL) (st : List Value) (h : eH), ru 72 144 ls st h = ru 72 145 ls (.int (nI 4) :: st) h) ∧
  (∀ (a0 : Nat) (a1 : Int32) (a2 : Int32) (a3 : Int32) (a4 : Int32) (ls : eL) (h : eH), ru 72 145 ls [.int a4, .int a3, .int a2, .int a1, .ref a0] h = cl (den 16 [.ref a0, .int a1, .int a2, .int a3, .int a4] h) (fun v h => ru 72 148 ls (v.toList ++ []) h)) ∧
  (∀ (v : Nat) (t : eL) (st : List Value) (h : eH), ru 72 148 (some (.ref v) :: t) st h = ru 72 149 (some (.ref v) :: t) (.ref v :: st) h) ∧
  (∀ (x0 x1 x2 : Option Value) (v : Int32) (t : eL) (st : List Value) (h : eH), ru 72 149 (x0 :: x1 :: x2 :: some (.int v) :: t) st h = ru 72 150 (x0 :: x1 :: x2 :: some (.int v) :: t) (.int v :: st) h) ∧
  (∀ (x0 x1 x2 x3 : Option Value) (v : Int32) (t : eL) (st : List Value) (h : eH), ru 72 150 (x0 :: x1 :: x2 :: x3 :: some (.int v) :: t) st h = ru 72 152 (x0 :: x1 :: x2 :: x3 :: some (.int v) :: t) (.int v :: st) h) ∧
  (∀ (x0 x1 x2 x3 x4 : Option Value) (v : Int32) (t : eL) (st : List Value) (h : eH), ru 72 152 (x0 :: x1 :: x2 :: x3 :: x4 :: some (.int v) :: t) st h = ru 72 154 (x0 :: x1 :: x2 :: x3 :: x4 :: some (.int v) :: t) (.int v :: st) h) ∧
  (∀ (ls : eL) (st : List Value) (h : eH), ru 72 154 ls st h = ru 72 155 ls (.int (nI 5) :: st) h) ∧
  (∀ (a0 : Nat) (a1 : Int32) (a2 : Int32) (a3 : Int32) (a4 : Int32) (ls : eL) (h : eH), ru 72 155 ls [.int a4, .int a3, .int a2, .int a1, .ref a0] h = cl (den 16 [.ref a0, .int a1, .int a2, .int a3, .int a4] h) (fun v h => ru 72 158 ls (v.toList ++ []) h)) ∧
  (∀ (v : Nat) (t : eL) (st : List Value) (h : eH), ru 72 158 (some (.ref v) :: t) st h = ru 72 159 (some (.ref v) :: t) (.ref v :: st) h) ∧
  (∀ (ls : eL) (st : List Value) (h : eH), ru 72 159 ls st h = ru 72 161 ls (.int (nI 6) :: st) h) ∧
  (∀ (ls : eL) (st : List Value) (h : eH), ru 72 161 ls st h = ru 72 162 ls (.int (nI 4) :: st) h) ∧
  (∀ (ls : eL) (st : List Value) (h : eH), ru 72 162 ls st h = ru 72 163 ls (.int (nI 5) :: st) h) ∧
  (∀ (a0 : Nat) (a1 : Int32) (a2 : Int32) (a3 : Int32) (ls : eL) (h : eH), ru 72 163 ls [.int a3, .int a2, .int a1, .ref a0] h = cl (den 27 [.ref a0, .int a1, .int a2, .int a3] h) (fun v h => ru 72 166 ls (v.toList ++ []) h)) ∧
  (∀ (v : Nat) (t : eL) (st : List Value) (h : eH), ru 72 166 (some (.ref v) :: t) st h = ru 72 167 (some (.ref v) :: t) (.ref v :: st) h) ∧
  (∀ (v : Nat) (t : eL) (st : List Value) (h : eH), ru 72 167 (some (.ref v) :: t) st h = ru 72 168 (some (.ref v) :: t) (.ref v :: st) h) ∧
  (∀ (x0 x1 : Option Value) (v : Int32) (t : eL) (st : List Value) (h : eH), ru 72 168 (x0 :: x1 :: some (.int v) :: t) st h = ru 72 169 (x0 :: x1 :: some (.int v) :: t) (.int v :: st) h) ∧
  (∀ (x0 x1 x2 : Option Value) (v : Int32) (t : eL) (st : List Value) (h : eH), ru 72 169 (x0 :: x1 :: x2 :: some (.int v) :: t) st h = ru 72 170 (x0 :: x1 :: x2 :: some (.int v) :: t) (.int v :: st) h) ∧
  (∀ (a0 : Nat) (a1 : Int32) (a2 : Int32) (u0 : Nat) (ls : eL) (h : eH), ru 72 170 ls [.int a2, .int a1, .ref a0, .ref u0] h = cl (den 51 [.ref a0, .int a1, .int a2] h) (fun v h => ru 72 173 ls (v.toList ++ [.ref u0]) h)) ∧
  (∀ (ls : eL) (st : List Value) (h : eH), ru 72 173 ls st h = ru 72 175 ls (.int (nI 6) :: st) h) ∧
  (∀ (v : Nat) (t : eL) (st : List Value) (h : eH), ru 72 175 (some (.ref v) :: t) st h = ru 72 176 (some (.ref v) :: t) (.ref v :: st) h) ∧
  (∀ (a : Nat) (ls : eL) (st : List Value) (h : eH), ru 72 176 ls (.ref a :: st) h = gF (h.1 a) 11 14 (fun v => ru 72 179 ls (v :: st) h)) ∧
  (∀ (x0 x1 x2 x3 : Option Value) (v : Int32) (t : eL) (st : List Value) (h : eH), ru 72 179 (x0 :: x1 :: x2 :: x3 :: some (.int v) :: t) st h = ru 72 181 (x0 :: x1 :: x2 :: x3 :: some (.int v) :: t) (.int v :: st) h) ∧
  (∀ (i : Int32) (a : Nat) (ls : eL) (st : List Value) (h : eH), ru 72 181 ls (.int i :: .ref a :: st) h = aI (h.1 a) 0 i (fun v => ru 72 182 ls (.int v :: st) h)) ∧
  (∀ (x : Int32) (ls : eL) (st : List Value) (h : eH), ru 72 182 ls (.int x :: st) h = ru 72 183 ls (.long (x.toInt64) :: st) h) ∧
  (∀ (a0 : Nat) (a1 : Int32) (a2 : Int32) (a3 : Int64) (ls : eL) (h : eH), ru 72 183 ls [.long a3, .int a2, .int a1, .ref a0] h = cl (den 15 [.ref a0, .int a1, .int a2, .long a3] h) (fun v h => ru 72 186 ls (v.toList ++ []) h)) ∧
  (∀ (x0 x1 x2 x3 x4 : Option Value) (v : Int32) (t : eL) (st : List Value) (h : eH), ru 72 186 (x0 :: x1 :: x2 :: x3 :: x4 :: some (.int v) :: t) st h = ru 72 189 (x0 :: x1 :: x2 :: x3 :: eKl x4 :: some (.int (v + 1)) :: t) st h) ∧
  (∀ (ls : eL) (st : List Value) (h : eH), ru 72 189 ls st h = ru 72 132 ls st h) ∧
  (∀ (ls : eL) (st : List Value) (h : eH), ru 72 195 ls st h = ru 72 120 ls st h) ∧
  (∀ (ls : eL) (st : List Value) (h : eH), ru 72 201 ls st h = ru 72 101 ls st h) ∧
  (∀ (ls : eL) (st : List Value) (h : eH), ru 72 207 ls st h = ru 72 94 ls st h) ∧
  (∀ (x : Int32) (ls : eL) (st : List Value) (h : eH), ru 72 211 ls (.int x :: st) h = if x ≤ 0 then ru 72 229 ls st h else ru 72 214 ls st h) ∧
  (∀ (v : Nat) (t : eL) (st : List Value) (h : eH), ru 72 214 (some (.ref v) :: t) st h = ru 72 215 (some (.ref v) :: t) (.ref v :: st) h) ∧
  (∀ (v : Nat) (t : eL) (st : List Value) (h : eH), ru 72 215 (some (.ref v) :: t) st h = ru 72 216 (some (.ref v) :: t) (.ref v :: st) h) ∧
  (∀ (ls : eL) (st : List Value) (h : eH), ru 72 216 ls st h = ru 72 217 ls (.int (nI 0) :: st) h) ∧
  (∀ (ls : eL) (st : List Value) (h : eH), ru 72 217 ls st h = ru 72 218 ls (.int (nI 0) :: st) h) ∧
  (∀ (a0 : Nat) (a1 : Int32) (a2 : Int32) (u0 : Nat) (ls : eL) (h : eH), ru 72 218 ls [.int a2, .int a1, .ref a0, .ref u0] h = cl (den 51 [.ref a0, .int a1, .int a2] h) (fun v h => ru 72 221 ls (v.toList ++ [.ref u0]) h)) ∧
  (∀ (a0 : Nat) (a1 : Int32) (ls : eL) (h : eH), ru 72 221 ls [.int a1, .ref a0] h = cl (den 42 [.ref a0, .int a1] h) (fun v h => ru 72 224 ls (v.toList ++ []) h)) ∧
  (∀ (x : Int32) (ls : eL) (st : List Value) (h : eH), ru 72 224 ls (.int x :: st) h = if 0 < x then ru 72 229 ls st h else ru 72 227 ls st h) ∧
  (∀ (ls : eL) (st : List Value) (h : eH), ru 72 227 ls st h = ru 72 228 ls (.int (nI 0) :: st) h) ∧
  (∀ (x : Int32) (ls : eL) (h : eH), ru 72 228 ls [.int x] h = some (some (.int x), h)) ∧
  (∀ (x0 : Option Value) (v : Int32) (t : eL) (st : List Value) (h : eH), ru 72 229 (x0 :: some (.int v) :: t) st h = ru 72 230 (x0 :: some (.int v) :: t) (.int v :: st) h) ∧
  (∀ (ls : eL) (st : List Value) (h : eH), ru 72 230 ls st h = ru 72 231 ls (.int (nI 1) :: st) h) ∧
  (∀ (x y : Int32) (ls : eL) (st : List Value) (h : eH), ru 72 231 ls (.int y :: .int x :: st) h = if x ≤ y then ru 72 257 ls st h else ru 72 234 ls st h) ∧
  (∀ (v : Nat) (t : eL) (st : List Value) (h : eH), ru 72 234 (some (.ref v) :: t) st h = ru 72 235 (some (.ref v) :: t) (.ref v :: st) h) ∧
  (∀ (ls : eL) (st : List Value) (h : eH), ru 72 235 ls st h = ru 72 236 ls (.int (nI 0) :: st) h) ∧
  (∀ (ls : eL) (st : List Value) (h : eH), ru 72 236 ls st h = ru 72 237 ls (.int (nI 1) :: st) h) ∧
  (∀ (ls : eL) (st : List Value) (h : eH), ru 72 237 ls st h = ru 72 238 ls (.int (nI 0) :: st) h) ∧
  (∀ (ls : eL) (st : List Value) (h : eH), ru 72 238 ls st h = ru 72 239 ls (.int (nI 1) :: st) h) ∧
  (∀ (ls : eL) (st : List Value) (h : eH), ru 72 239 ls st h = ru 72 242 ls (.int (nI 394) :: st) h) ∧
  (∀ (a0 : Nat) (a1 : Int32) (a2 : Int32) (a3 : Int32) (a4 : Int32) (a5 : Int32) (ls : eL) (h : eH), ru 72 242 ls [.int a5, .int a4, .int a3, .int a2, .int a1, .ref a0] h = cl (den 64 [.ref a0, .int a1, .int a2, .int a3, .int a4, .int a5] h) (fun v h => ru 72 245 ls (v.toList ++ []) h)) ∧
  (∀ (v : Nat) (t : eL) (st : List Value) (h : eH), ru 72 245 (some (.ref v) :: t) st h = ru 72 246 (some (.ref v) :: t) (.ref v :: st) h) ∧
  (∀ (ls : eL) (st : List Value) (h : eH), ru 72 246 ls st h = ru 72 249 ls (.int (nI 394) :: st) h) ∧
  (∀ (a0 : Nat) (a1 : Int32) (ls : eL) (h : eH), ru 72 249 ls [.int a1, .ref a0] h = cl (den 42 [.ref a0, .int a1] h) (fun v h => ru 72 252 ls (v.toList ++ []) h)) ∧
  (∀ (x : Int32) (ls : eL) (st : List Value) (h : eH), ru 72 252 ls (.int x :: st) h = if 0 < x then ru 72 257 ls st h else ru 72 255 ls st h) ∧
  (∀ (ls : eL) (st : List Value) (h : eH), ru 72 255 ls st h = ru 72 256 ls (.int (nI 0) :: st) h) ∧
  (∀ (x : Int32) (ls : eL) (h : eH), ru 72 256 ls [.int x] h = some (some (.int x), h)) ∧
  (∀ (x0 : Option Value) (v : Int32) (t : eL) (st : List Value) (h : eH), ru 72 257 (x0 :: some (.int v) :: t) st h = ru 72 258 (x0 :: some (.int v) :: t) (.int v :: st) h) ∧
  (∀ (ls : eL) (st : List Value) (h : eH), ru 72 258 ls st h = ru 72 259 ls (.int (nI 2) :: st) h) ∧
  (∀ (x y : Int32) (ls : eL) (st : List Value) (h : eH), ru 72 259 ls (.int y :: .int x :: st) h = if x ≤ y then ru 72 339 ls st h else ru 72 262 ls st h) ∧
  (∀ (v : Nat) (t : eL) (st : List Value) (h : eH), ru 72 262 (some (.ref v) :: t) st h = ru 72 263 (some (.ref v) :: t) (.ref v :: st) h) ∧
  (∀ (ls : eL) (st : List Value) (h : eH), ru 72 263 ls st h = ru 72 266 ls (.int (nI 395) :: st) h) ∧
  (∀ (ls : eL) (st : List Value) (h : eH), ru 72 266 ls st h = ru 72 267 ls (.long (lN 0) :: st) h) ∧
  (∀ (a0 : Nat) (a1 : Int32) (a2 : Int64) (ls : eL) (h : eH), ru 72 267 ls [.long a2, .int a1, .ref a0] h = cl (den 12 [.ref a0, .int a1, .long a2] h) (fun v h => ru 72 270 ls (v.toList ++ []) h)) ∧
  (∀ (ls : eL) (st : List Value) (h : eH), ru 72 270 ls st h = ru 72 271 ls (.int (nI 0) :: st) h) ∧
  (∀ (x0 x1 x2 : Option Value) (v : Int32) (t : eL) (st : List Value) (h : eH), ru 72 271 (x0 :: x1 :: x2 :: t) (.int v :: st) h = ru 72 272 (x0 :: eKl x1 :: some (.int v) :: t) st h) ∧
  (∀ (ls : eL) (st : List Value) (h : eH), ru 72 273 ls st h = ru 72 274 ls (.int (nI 3) :: st) h) ∧
  (∀ (x y : Int32) (ls : eL) (st : List Value) (h : eH), ru 72 274 ls (.int y :: .int x :: st) h = if y ≤ x then ru 72 327 ls st h else ru 72 277 ls st h) ∧
  (∀ (v : Nat) (t : eL) (st : List Value) (h : eH), ru 72 277 (some (.ref v) :: t) st h = ru 72 278 (some (.ref v) :: t) (.ref v :: st) h) ∧
  (∀ (ls : eL) (st : List Value) (h : eH), ru 72 278 ls st h = ru 72 279 ls (.int (nI 1) :: st) h) ∧
  (∀ (ls : eL) (st : List Value) (h : eH), ru 72 279 ls st h = ru 72 280 ls (.int (nI 2) :: st) h) ∧
  (∀ (x0 x1 : Option Value) (v : Int32) (t : eL) (st : List Value) (h : eH), ru 72 280 (x0 :: x1 :: some (.int v) :: t) st h = ru 72 281 (x0 :: x1 :: some (.int v) :: t) (.int v :: st) h) ∧
  (∀ (ls : eL) (st : List Value) (h : eH), ru 72 281 ls st h = ru 72 282 ls (.int (nI 1) :: st) h) ∧
  (∀ (x y : Int32) (ls : eL) (st : List Value) (h : eH), ru 72 282 ls (.int y :: .int x :: st) h = ru 72 283 ls (.int (x + y) :: st) h) ∧
  (∀ (ls : eL) (st : List Value) (h : eH), ru 72 283 ls st h = ru 72 284 ls (.int (nI 3) :: st) h) ∧
  (∀ (x y : Int32) (ls : eL) (st : List Value) (h : eH), ru 72 284 ls (.int y :: .int x :: st) h = if y = 0 then none else ru 72 285 ls (.int (x - x / y * y) :: st) h) ∧
  (∀ (x0 x1 : Option Value) (v : Int32) (t : eL) (st : List Value) (h : eH), ru 72 285 (x0 :: x1 :: some (.int v) :: t) st h = ru 72 286 (x0 :: x1 :: some (.int v) :: t) (.int v :: st) h) ∧
  (∀ (ls : eL) (st : List Value) (h : eH), ru 72 286 ls st h = ru 72 287 ls (.int (nI 2) :: st) h) ∧
  (∀ (x y : Int32) (ls : eL) (st : List Value) (h : eH), ru 72 287 ls (.int y :: .int x :: st) h = ru 72 288 ls (.int (x + y) :: st) h) ∧
  (∀ (ls : eL) (st : List Value) (h : eH), ru 72 288 ls st h = ru 72 289 ls (.int (nI 3) :: st) h) ∧
  (∀ (x y : Int32) (ls : eL) (st : List Value) (h : eH), ru 72 289 ls (.int y :: .int x :: st) h = if y = 0 then none else ru 72 290 ls (.int (x - x / y * y) :: st) h) ∧
  (∀ (ls : eL) (st : List Value) (h : eH), ru 72 290 ls st h = ru 72 293 ls (.int (nI 394) :: st) h) ∧
  (∀ (a0 : Nat) (a1 : Int32) (a2 : Int32) (a3 : Int32) (a4 : Int32) (a5 : Int32) (ls : eL) (h : eH), ru 72 293 ls [.int a5, .int a4, .int a3, .int a2, .int a1, .ref a0] h = cl (den 64 [.ref a0, .int a1, .int a2, .int a3, .int a4, .int a5] h) (fun v h => ru 72 296 ls (v.toList ++ []) h)) ∧
  (∀ (v : Nat) (t : eL) (st : List Value) (h : eH), ru 72 296 (some (.ref v) :: t) st h = ru 72 297 (some (.ref v) :: t) (.ref v :: st) h) ∧
  (∀ (ls : eL) (st : List Value) (h : eH), ru 72 297 ls st h = ru 72 299 ls (.int (nI 6) :: st) h) ∧
  (∀ (v : Nat) (t : eL) (st : List Value) (h : eH), ru 72 299 (some (.ref v) :: t) st h = ru 72 300 (some (.ref v) :: t) (.ref v :: st) h) ∧
  (∀ (ls : eL) (st : List Value) (h : eH), ru 72 300 ls st h = ru 72 301 ls (.int (nI 0) :: st) h) ∧
  (∀ (x0 x1 : Option Value) (v : Int32) (t : eL) (st : List Value) (h : eH), ru 72 301 (x0 :: x1 :: some (.int v) :: t) st h = ru 72 302 (x0 :: x1 :: some (.int v) :: t) (.int v :: st) h) ∧
  (∀ (a0 : Nat) (a1 : Int32) (a2 : Int32) (u0 : Int32) (u1 : Nat) (ls : eL) (h : eH), ru 72 302 ls [.int a2, .int a1, .ref a0, .int u0, .ref u1] h = cl (den 51 [.ref a0, .int a1, .int a2] h) (fun v h => ru 72 305 ls (v.toList ++ [.int u0, .ref u1]) h)) ∧
  (∀ (ls : eL) (st : List Value) (h : eH), ru 72 305 ls st h = ru 72 308 ls (.int (nI 394) :: st) h) ∧
  (∀ (a0 : Nat) (a1 : Int32) (a2 : Int32) (a3 : Int32) (ls : eL) (h : eH), ru 72 308 ls [.int a3, .int a2, .int a1, .ref a0] h = cl (den 27 [.ref a0, .int a1, .int a2, .int a3] h) (fun v h => ru 72 311 ls (v.toList ++ []) h)) ∧
  (∀ (v : Nat) (t : eL) (st : List Value) (h : eH), ru 72 311 (some (.ref v) :: t) st h = ru 72 312 (some (.ref v) :: t) (.ref v :: st) h) ∧
  (∀ (ls : eL) (st : List Value) (h : eH), ru 72 312 ls st h = ru 72 315 ls (.int (nI 395) :: st) h) ∧
  (∀ (ls : eL) (st : List Value) (h : eH), ru 72 315 ls st h = ru 72 317 ls (.int (nI 6) :: st) h) ∧
  (∀ (ls : eL) (st : List Value) (h : eH), ru 72 317 ls st h = ru 72 318 ls (.long (lN 1) :: st) h) ∧
  (∀ (a0 : Nat) (a1 : Int32) (a2 : Int32) (a3 : Int64) (ls : eL) (h : eH), ru 72 318 ls [.long a3, .int a2, .int a1, .ref a0] h = cl (den 15 [.ref a0, .int a1, .int a2, .long a3] h) (fun v h => ru 72 321 ls (v.toList ++ []) h)) ∧
  (∀ (x0 x1 : Option Value) (v : Int32) (t : eL) (st : List Value) (h : eH), ru 72 321 (x0 :: x1 :: some (.int v) :: t) st h = ru 72 324 (x0 :: eKl x1 :: some (.int (v + 1)) :: t) st h) ∧
  (∀ (ls : eL) (st : List Value) (h : eH), ru 72 324 ls st h = ru 72 272 ls st h) ∧
  (∀ (ls : eL) (st : List Value) (h : eH), ru 72 328 ls st h = ru 72 331 ls (.int (nI 395) :: st) h) ∧
  (∀ (a0 : Nat) (a1 : Int32) (ls : eL) (h : eH), ru 72 331 ls [.int a1, .ref a0] h = cl (den 42 [.ref a0, .int a1] h) (fun v h => ru 72 334 ls (v.toList ++ []) h)) ∧
  (∀ (x : Int32) (ls : eL) (st : List Value) (h : eH), ru 72 334 ls (.int x :: st) h = if 0 < x then ru 72 339 ls st h else ru 72 337 ls st h) ∧
  (∀ (ls : eL) (st : List Value) (h : eH), ru 72 337 ls st h = ru 72 338 ls (.int (nI 0) :: st) h) ∧
  (∀ (x : Int32) (ls : eL) (h : eH), ru 72 338 ls [.int x] h = some (some (.int x), h)) ∧
  (∀ (ls : eL) (st : List Value) (h : eH), ru 72 339 ls st h = ru 72 340 ls (.int (nI 1) :: st) h) ∧
  (∀ (x : Int32) (ls : eL) (h : eH), ru 72 340 ls [.int x] h = some (some (.int x), h)) := ⟨fun v t st h => ru_go rfl rfl,
  fun ls st h => ru_go rfl rfl,
  fun a0 a1 ls h => ru_inv rfl (by decide) rfl (Nat.le_of_ble_eq_true rfl),
  fun x ls st h => ru_if rfl rfl,
  fun ls st h => ru_go rfl rfl,
  fun x ls h => ru_ret rfl rfl,
  fun v t st h => ru_go rfl rfl,
  fun a0 ls h => ru_inv rfl (by decide) rfl (Nat.le_of_ble_eq_true rfl),
  fun v t st h => ru_go rfl rfl,
  fun a ls st h => ru_getf rfl,
  fun v t st h => ru_go rfl rfl,
  fun a ls st h => ru_getf rfl,
  fun x y ls st h => ru_go rfl rfl,
  fun x0 x1 v t st h => ru_go rfl rfl,
  fun x0 v t st h => ru_go rfl rfl,
  fun ls st h => ru_go rfl rfl,
  fun x y ls st h => ru_if rfl rfl,
  fun ls st h => ru_go rfl rfl,
  fun x ls h => ru_ret rfl rfl,
  fun ls st h => ru_go rfl rfl,
  fun x0 x1 x2 v t st h => ru_go rfl rfl,
  fun x0 v t st h => ru_go rfl rfl,
  fun x y ls st h => ru_if rfl rfl,
  fun v t st h => ru_go rfl rfl,
  fun v t st h => ru_go rfl rfl,
  fun a ls st h => ru_getf rfl,
  fun x0 x1 v t st h => ru_go rfl rfl,
  fun a0 a1 a2 ls h => ru_inv rfl (by decide) rfl (Nat.le_of_ble_eq_true rfl),
  fun x0 x1 x2 x3 v t st h => ru_go rfl rfl,
  fun ls st h => ru_go rfl rfl,
  fun x0 x1 x2 x3 x4 v t st h => ru_go rfl rfl,
  fun v t st h => ru_go rfl rfl,
  fun a ls st h => ru_getf rfl,
  fun x y ls st h => ru_if rfl rfl,
  fun v t st h => ru_go rfl rfl,
  fun x0 x1 x2 v t st h => ru_go rfl rfl,
  fun x0 x1 x2 x3 v t st h => ru_go rfl rfl,
  fun a0 a1 a2 ls h => ru_inv rfl (by decide) rfl (Nat.le_of_ble_eq_true rfl),
  fun v t st h => ru_go rfl rfl,
  fun v t st h => ru_go rfl rfl,
  fun x0 x1 v t st h => ru_go rfl rfl,
  fun x0 x1 x2 x3 v t st h => ru_go rfl rfl,
  fun a0 a1 a2 u0 ls h => ru_inv rfl (by decide) rfl (Nat.le_of_ble_eq_true rfl),
  fun ls st h => ru_go rfl rfl,
  fun a0 a1 a2 ls h => ru_inv rfl (by decide) rfl (Nat.le_of_ble_eq_true rfl),
  fun x0 x1 x2 x3 v t st h => ru_go rfl rfl,
  fun ls st h => ru_go rfl rfl,
  fun ls st h => ru_go rfl rfl,
  fun x0 x1 x2 v t st h => ru_go rfl rfl,
  fun x0 v t st h => ru_go rfl rfl,
  fun x y ls st h => ru_if rfl rfl,
  fun ls st h => ru_go rfl rfl,
  fun x0 x1 x2 x3 v t st h => ru_go rfl rfl,
  fun x0 v t st h => ru_go rfl rfl,
  fun x y ls st h => ru_if rfl rfl,
  fun v t st h => ru_go rfl rfl,
  fun v t st h => ru_go rfl rfl,
  fun x0 x1 v t st h => ru_go rfl rfl,
  fun x0 x1 x2 v t st h => ru_go rfl rfl,
  fun a0 a1 a2 u0 ls h => ru_inv rfl (by decide) rfl (Nat.le_of_ble_eq_true rfl),
  fun ls st h => ru_go rfl rfl,
  fun a0 a1 a2 ls h => ru_inv rfl (by decide) rfl (Nat.le_of_ble_eq_true rfl),
  fun ls st h => ru_go rfl rfl,
  fun x0 x1 x2 x3 x4 v t st h => ru_go rfl rfl,
  fun v t st h => ru_go rfl rfl,
  fun a ls st h => ru_getf rfl,
  fun x y ls st h => ru_if rfl rfl,
  fun ls st h => ru_go rfl rfl,
  fun x0 x1 x2 x3 x4 x5 v t st h => ru_go rfl rfl,
  fun ls st h => ru_go rfl rfl,
  fun x y ls st h => ru_if rfl rfl,
  fun v t st h => ru_go rfl rfl,
  fun x0 x1 v t st h => ru_go rfl rfl,
  fun x0 x1 x2 x3 v t st h => ru_go rfl rfl,
  fun x0 x1 x2 x3 x4 v t st h => ru_go rfl rfl,
  fun ls st h => ru_go rfl rfl,
  fun a0 a1 a2 a3 a4 ls h => ru_inv rfl (by decide) rfl (Nat.le_of_ble_eq_true rfl),
  fun v t st h => ru_go rfl rfl,
  fun x0 x1 x2 v t st h => ru_go rfl rfl,
  fun x0 x1 x2 x3 v t st h => ru_go rfl rfl,
  fun x0 x1 x2 x3 x4 v t st h => ru_go rfl rfl,
  fun ls st h => ru_go rfl rfl,
  fun a0 a1 a2 a3 a4 ls h => ru_inv rfl (by decide) rfl (Nat.le_of_ble_eq_true rfl),
  fun v t st h => ru_go rfl rfl,
  fun ls st h => ru_go rfl rfl,
  fun ls st h => ru_go rfl rfl,
  fun ls st h => ru_go rfl rfl,
  fun a0 a1 a2 a3 ls h => ru_inv rfl (by decide) rfl (Nat.le_of_ble_eq_true rfl),
  fun v t st h => ru_go rfl rfl,
  fun v t st h => ru_go rfl rfl,
  fun x0 x1 v t st h => ru_go rfl rfl,
  fun x0 x1 x2 v t st h => ru_go rfl rfl,
  fun a0 a1 a2 u0 ls h => ru_inv rfl (by decide) rfl (Nat.le_of_ble_eq_true rfl),
  fun ls st h => ru_go rfl rfl,
  fun v t st h => ru_go rfl rfl,
  fun a ls st h => ru_getf rfl,
  fun x0 x1 x2 x3 v t st h => ru_go rfl rfl,
  fun i a ls st h => ru_iald rfl,
  fun x ls st h => ru_go rfl rfl,
  fun a0 a1 a2 a3 ls h => ru_inv rfl (by decide) rfl (Nat.le_of_ble_eq_true rfl),
  fun x0 x1 x2 x3 x4 v t st h => ru_go rfl rfl,
  fun ls st h => ru_go rfl rfl,
  fun ls st h => ru_go rfl rfl,
  fun ls st h => ru_go rfl rfl,
  fun ls st h => ru_go rfl rfl,
  fun x ls st h => ru_if rfl rfl,
  fun v t st h => ru_go rfl rfl,
  fun v t st h => ru_go rfl rfl,
  fun ls st h => ru_go rfl rfl,
  fun ls st h => ru_go rfl rfl,
  fun a0 a1 a2 u0 ls h => ru_inv rfl (by decide) rfl (Nat.le_of_ble_eq_true rfl),
  fun a0 a1 ls h => ru_inv rfl (by decide) rfl (Nat.le_of_ble_eq_true rfl),
  fun x ls st h => ru_if rfl rfl,
  fun ls st h => ru_go rfl rfl,
  fun x ls h => ru_ret rfl rfl,
  fun x0 v t st h => ru_go rfl rfl,
  fun ls st h => ru_go rfl rfl,
  fun x y ls st h => ru_if rfl rfl,
  fun v t st h => ru_go rfl rfl,
  fun ls st h => ru_go rfl rfl,
  fun ls st h => ru_go rfl rfl,
  fun ls st h => ru_go rfl rfl,
  fun ls st h => ru_go rfl rfl,
  fun ls st h => ru_go rfl rfl,
  fun a0 a1 a2 a3 a4 a5 ls h => ru_inv rfl (by decide) rfl (Nat.le_of_ble_eq_true rfl),
  fun v t st h => ru_go rfl rfl,
  fun ls st h => ru_go rfl rfl,
  fun a0 a1 ls h => ru_inv rfl (by decide) rfl (Nat.le_of_ble_eq_true rfl),
  fun x ls st h => ru_if rfl rfl,
  fun ls st h => ru_go rfl rfl,
  fun x ls h => ru_ret rfl rfl,
  fun x0 v t st h => ru_go rfl rfl,
  fun ls st h => ru_go rfl rfl,
  fun x y ls st h => ru_if rfl rfl,
  fun v t st h => ru_go rfl rfl,
  fun ls st h => ru_go rfl rfl,
  fun ls st h => ru_go rfl rfl,
  fun a0 a1 a2 ls h => ru_inv rfl (by decide) rfl (Nat.le_of_ble_eq_true rfl),
  fun ls st h => ru_go rfl rfl,
  fun x0 x1 x2 v t st h => ru_go rfl rfl,
  fun ls st h => ru_go rfl rfl,
  fun x y ls st h => ru_if rfl rfl,
  fun v t st h => ru_go rfl rfl,
  fun ls st h => ru_go rfl rfl,
  fun ls st h => ru_go rfl rfl,
  fun x0 x1 v t st h => ru_go rfl rfl,
  fun ls st h => ru_go rfl rfl,
  fun x y ls st h => ru_go rfl rfl,
  fun ls st h => ru_go rfl rfl,
  fun x y ls st h => ru_guard rfl rfl,
  fun x0 x1 v t st h => ru_go rfl rfl,
  fun ls st h => ru_go rfl rfl,
  fun x y ls st h => ru_go rfl rfl,
  fun ls st h => ru_go rfl rfl,
  fun x y ls st h => ru_guard rfl rfl,
  fun ls st h => ru_go rfl rfl,
  fun a0 a1 a2 a3 a4 a5 ls h => ru_inv rfl (by decide) rfl (Nat.le_of_ble_eq_true rfl),
  fun v t st h => ru_go rfl rfl,
  fun ls st h => ru_go rfl rfl,
  fun v t st h => ru_go rfl rfl,
  fun ls st h => ru_go rfl rfl,
  fun x0 x1 v t st h => ru_go rfl rfl,
  fun a0 a1 a2 u0 u1 ls h => ru_inv rfl (by decide) rfl (Nat.le_of_ble_eq_true rfl),
  fun ls st h => ru_go rfl rfl,
  fun a0 a1 a2 a3 ls h => ru_inv rfl (by decide) rfl (Nat.le_of_ble_eq_true rfl),
  fun v t st h => ru_go rfl rfl,
  fun ls st h => ru_go rfl rfl,
  fun ls st h => ru_go rfl rfl,
  fun ls st h => ru_go rfl rfl,
  fun a0 a1 a2 a3 ls h => ru_inv rfl (by decide) rfl (Nat.le_of_ble_eq_true rfl),
  fun x0 x1 v t st h => ru_go rfl rfl,
  fun ls st h => ru_go rfl rfl,
  fun ls st h => ru_go rfl rfl,
  fun a0 a1 ls h => ru_inv rfl (by decide) rfl (Nat.le_of_ble_eq_true rfl),
  fun x ls st h => ru_if rfl rfl,
  fun ls st h => ru_go rfl rfl,
  fun x ls h => ru_ret rfl rfl,
  fun ls st h => ru_go rfl rfl,
  fun x ls h => ru_ret rfl rfl⟩
theorem E72 (a0 : Nat) {h : eH} {fs : List Value} (ha : h.1 a0 = .inr (11, fs)) : den 72 [.ref a0] h = ru 72 0 [some (.ref a0), none, none, none, none, none] [] h := den_ob (Nat.le_of_ble_eq_true rfl) ha
/-! 73 X11_stress -/
set_option maxRecDepth 100000 in
theorem S73 : (∀ (v : Nat) (t : eL) (st : List Value) (h : eH), ru 73 0 (some (.ref v) :: t) st h = ru 73 1 (some (.ref v) :: t) (.ref v :: st) h) ∧
  (∀ (a0 : Nat) (ls : eL) (h : eH), ru 73 1 ls [.ref a0] h = cl (den 32 [.ref a0] h) (fun v h => ru 73 4 ls (v.toList ++ []) h)) ∧
  (∀ (x0 : Option Value) (v : Int32) (t : eL) (st : List Value) (h : eH), ru 73 4 (x0 :: some (.int v) :: t) st h = ru 73 5 (x0 :: some (.int v) :: t) (.int v :: st) h) ∧
  (∀ (x : Int32) (ls : eL) (st : List Value) (h : eH), ru 73 5 ls (.int x :: st) h = if 0 ≤ x then ru 73 12 ls st h else ru 73 8 ls st h) ∧
  (∀ (ls : eL) (st : List Value) (h : eH), ru 73 8 ls st h = ru 73 9 ls (.int ((-1)) :: st) h) ∧
  (∀ (ls : eL) (st : List Value) (h : eH), ru 73 9 ls st h = ru 73 21 ls st h) ∧
  (∀ (v : Nat) (t : eL) (st : List Value) (h : eH), ru 73 12 (some (.ref v) :: t) st h = ru 73 13 (some (.ref v) :: t) (.ref v :: st) h) ∧
  (∀ (v : Nat) (t : eL) (st : List Value) (h : eH), ru 73 13 (some (.ref v) :: t) st h = ru 73 14 (some (.ref v) :: t) (.ref v :: st) h) ∧
  (∀ (a : Nat) (ls : eL) (st : List Value) (h : eH), ru 73 14 ls (.ref a :: st) h = gF (h.1 a) 11 10 (fun v => ru 73 17 ls (v :: st) h)) ∧
  (∀ (x0 : Option Value) (v : Int32) (t : eL) (st : List Value) (h : eH), ru 73 17 (x0 :: some (.int v) :: t) st h = ru 73 18 (x0 :: some (.int v) :: t) (.int v :: st) h) ∧
  (∀ (a0 : Nat) (a1 : Int32) (a2 : Int32) (ls : eL) (h : eH), ru 73 18 ls [.int a2, .int a1, .ref a0] h = cl (den 52 [.ref a0, .int a1, .int a2] h) (fun v h => ru 73 21 ls (v.toList ++ []) h)) ∧
  (∀ (x0 x1 x2 x3 : Option Value) (v : Int32) (t : eL) (st : List Value) (h : eH), ru 73 21 (x0 :: x1 :: x2 :: x3 :: t) (.int v :: st) h = ru 73 22 (x0 :: x1 :: eKl x2 :: some (.int v) :: t) st h) ∧
  (∀ (x0 x1 x2 : Option Value) (v : Int32) (t : eL) (st : List Value) (h : eH), ru 73 22 (x0 :: x1 :: x2 :: some (.int v) :: t) st h = ru 73 23 (x0 :: x1 :: x2 :: some (.int v) :: t) (.int v :: st) h) ∧
  (∀ (ls : eL) (st : List Value) (h : eH), ru 73 23 ls st h = ru 73 24 ls (.int ((-1)) :: st) h) ∧
  (∀ (x y : Int32) (ls : eL) (st : List Value) (h : eH), ru 73 24 ls (.int y :: .int x :: st) h = if x = y then ru 73 35 ls st h else ru 73 27 ls st h) ∧
  (∀ (v : Nat) (t : eL) (st : List Value) (h : eH), ru 73 27 (some (.ref v) :: t) st h = ru 73 28 (some (.ref v) :: t) (.ref v :: st) h) ∧
  (∀ (x0 x1 : Option Value) (v : Int32) (t : eL) (st : List Value) (h : eH), ru 73 28 (x0 :: x1 :: some (.int v) :: t) st h = ru 73 29 (x0 :: x1 :: some (.int v) :: t) (.int v :: st) h) ∧
  (∀ (a0 : Nat) (a1 : Int32) (ls : eL) (h : eH), ru 73 29 ls [.int a1, .ref a0] h = cl (den 34 [.ref a0, .int a1] h) (fun v h => ru 73 32 ls (v.toList ++ []) h)) ∧
  (∀ (x : Int32) (ls : eL) (st : List Value) (h : eH), ru 73 32 ls (.int x :: st) h = if x = 0 then ru 73 35 ls st h else ru 73 37 ls st h) ∧
  (∀ (ls : eL) (st : List Value) (h : eH), ru 73 35 ls st h = ru 73 36 ls (.int (nI 0) :: st) h) ∧
  (∀ (x : Int32) (ls : eL) (h : eH), ru 73 36 ls [.int x] h = bo (x == 0 || x == 1) (some (some (.int x), h))) ∧
  (∀ (v : Nat) (t : eL) (st : List Value) (h : eH), ru 73 37 (some (.ref v) :: t) st h = ru 73 38 (some (.ref v) :: t) (.ref v :: st) h) ∧
  (∀ (x0 x1 x2 : Option Value) (v : Int32) (t : eL) (st : List Value) (h : eH), ru 73 38 (x0 :: x1 :: x2 :: some (.int v) :: t) st h = ru 73 39 (x0 :: x1 :: x2 :: some (.int v) :: t) (.int v :: st) h) ∧
  (∀ (x0 x1 : Option Value) (v : Int32) (t : eL) (st : List Value) (h : eH), ru 73 39 (x0 :: x1 :: some (.int v) :: t) st h = ru 73 40 (x0 :: x1 :: some (.int v) :: t) (.int v :: st) h) ∧
  (∀ (a0 : Nat) (a1 : Int32) (a2 : Int32) (ls : eL) (h : eH), ru 73 40 ls [.int a2, .int a1, .ref a0] h = cl (den 22 [.ref a0, .int a1, .int a2] h) (fun v h => ru 73 43 ls (v.toList ++ []) h)) ∧
  (∀ (v : Nat) (t : eL) (st : List Value) (h : eH), ru 73 43 (some (.ref v) :: t) st h = ru 73 44 (some (.ref v) :: t) (.ref v :: st) h) ∧
  (∀ (ls : eL) (st : List Value) (h : eH), ru 73 44 ls st h = ru 73 45 ls (.int (nI 5) :: st) h) ∧
  (∀ (ls : eL) (st : List Value) (h : eH), ru 73 45 ls st h = ru 73 47 ls (.int (nI 8) :: st) h) ∧
  (∀ (a0 : Nat) (a1 : Int32) (a2 : Int32) (ls : eL) (h : eH), ru 73 47 ls [.int a2, .int a1, .ref a0] h = cl (den 38 [.ref a0, .int a1, .int a2] h) (fun v h => ru 73 50 ls (v.toList ++ []) h)) ∧
  (∀ (ls : eL) (st : List Value) (h : eH), ru 73 50 ls st h = ru 73 51 ls (.int (nI 1) :: st) h) ∧
  (∀ (x : Int32) (ls : eL) (h : eH), ru 73 51 ls [.int x] h = bo (x == 0 || x == 1) (some (some (.int x), h))) := ⟨fun v t st h => ru_go rfl rfl,
  fun a0 ls h => ru_inv rfl (by decide) rfl (Nat.le_of_ble_eq_true rfl),
  fun x0 v t st h => ru_go rfl rfl,
  fun x ls st h => ru_if rfl rfl,
  fun ls st h => ru_go rfl rfl,
  fun ls st h => ru_go rfl rfl,
  fun v t st h => ru_go rfl rfl,
  fun v t st h => ru_go rfl rfl,
  fun a ls st h => ru_getf rfl,
  fun x0 v t st h => ru_go rfl rfl,
  fun a0 a1 a2 ls h => ru_inv rfl (by decide) rfl (Nat.le_of_ble_eq_true rfl),
  fun x0 x1 x2 x3 v t st h => ru_go rfl rfl,
  fun x0 x1 x2 v t st h => ru_go rfl rfl,
  fun ls st h => ru_go rfl rfl,
  fun x y ls st h => ru_if rfl rfl,
  fun v t st h => ru_go rfl rfl,
  fun x0 x1 v t st h => ru_go rfl rfl,
  fun a0 a1 ls h => ru_inv rfl (by decide) rfl (Nat.le_of_ble_eq_true rfl),
  fun x ls st h => ru_if rfl rfl,
  fun ls st h => ru_go rfl rfl,
  fun x ls h => ru_bret rfl rfl,
  fun v t st h => ru_go rfl rfl,
  fun x0 x1 x2 v t st h => ru_go rfl rfl,
  fun x0 x1 v t st h => ru_go rfl rfl,
  fun a0 a1 a2 ls h => ru_inv rfl (by decide) rfl (Nat.le_of_ble_eq_true rfl),
  fun v t st h => ru_go rfl rfl,
  fun ls st h => ru_go rfl rfl,
  fun ls st h => ru_go rfl rfl,
  fun a0 a1 a2 ls h => ru_inv rfl (by decide) rfl (Nat.le_of_ble_eq_true rfl),
  fun ls st h => ru_go rfl rfl,
  fun x ls h => ru_bret rfl rfl⟩
theorem E73 (a0 : Nat) (a1 : Int32) (a2 : Int32) {h : eH} {fs : List Value} (ha : h.1 a0 = .inr (11, fs)) : den 73 [.ref a0, .int a1, .int a2] h = ru 73 0 [some (.ref a0), some (.int a1), some (.int a2), none] [] h := den_ob (Nat.le_of_ble_eq_true rfl) ha
/-! 74 X11_stresses -/
set_option maxRecDepth 100000 in
theorem S74 : (∀ (v : Nat) (t : eL) (st : List Value) (h : eH), ru 74 0 (some (.ref v) :: t) st h = ru 74 1 (some (.ref v) :: t) (.ref v :: st) h) ∧
  (∀ (a0 : Nat) (ls : eL) (h : eH), ru 74 1 ls [.ref a0] h = cl (den 32 [.ref a0] h) (fun v h => ru 74 4 ls (v.toList ++ []) h)) ∧
  (∀ (v : Nat) (t : eL) (st : List Value) (h : eH), ru 74 4 (some (.ref v) :: t) st h = ru 74 5 (some (.ref v) :: t) (.ref v :: st) h) ∧
  (∀ (a : Nat) (ls : eL) (st : List Value) (h : eH), ru 74 5 ls (.ref a :: st) h = gF (h.1 a) 11 10 (fun v => ru 74 8 ls (v :: st) h)) ∧
  (∀ (v : Nat) (t : eL) (st : List Value) (h : eH), ru 74 8 (some (.ref v) :: t) st h = ru 74 9 (some (.ref v) :: t) (.ref v :: st) h) ∧
  (∀ (a : Nat) (ls : eL) (st : List Value) (h : eH), ru 74 9 ls (.ref a :: st) h = gF (h.1 a) 11 21 (fun v => ru 74 12 ls (v :: st) h)) ∧
  (∀ (x y : Int32) (ls : eL) (st : List Value) (h : eH), ru 74 12 ls (.int y :: .int x :: st) h = ru 74 13 ls (.int (x - y) :: st) h) ∧
  (∀ (x : Int32) (ls : eL) (h : eH), ru 74 13 ls [.int x] h = some (some (.int x), h)) := ⟨fun v t st h => ru_go rfl rfl,
  fun a0 ls h => ru_inv rfl (by decide) rfl (Nat.le_of_ble_eq_true rfl),
  fun v t st h => ru_go rfl rfl,
  fun a ls st h => ru_getf rfl,
  fun v t st h => ru_go rfl rfl,
  fun a ls st h => ru_getf rfl,
  fun x y ls st h => ru_go rfl rfl,
  fun x ls h => ru_ret rfl rfl⟩
theorem E74 (a0 : Nat) {h : eH} {fs : List Value} (ha : h.1 a0 = .inr (11, fs)) : den 74 [.ref a0] h = ru 74 0 [some (.ref a0)] [] h := den_ob (Nat.le_of_ble_eq_true rfl) ha
/-! 75 X11_tear -/
set_option maxRecDepth 100000 in
theorem S75 : (∀ (x0 : Option Value) (v : Int32) (t : eL) (st : List Value) (h : eH), ru 75 0 (x0 :: some (.int v) :: t) st h = ru 75 1 (x0 :: some (.int v) :: t) (.int v :: st) h) ∧
  (∀ (a0 : Int32) (ls : eL) (h : eH), ru 75 1 ls [.int a0] h = cl (den 57 [.int a0] h) (fun v h => ru 75 4 ls (v.toList ++ []) h)) ∧
  (∀ (x : Int32) (ls : eL) (st : List Value) (h : eH), ru 75 4 ls (.int x :: st) h = if x = 0 then ru 75 16 ls st h else ru 75 7 ls st h) ∧
  (∀ (v : Nat) (t : eL) (st : List Value) (h : eH), ru 75 7 (some (.ref v) :: t) st h = ru 75 8 (some (.ref v) :: t) (.ref v :: st) h) ∧
  (∀ (a : Nat) (ls : eL) (st : List Value) (h : eH), ru 75 8 ls (.ref a :: st) h = gF (h.1 a) 11 1 (fun v => ru 75 11 ls (v :: st) h)) ∧
  (∀ (x0 : Option Value) (v : Int32) (t : eL) (st : List Value) (h : eH), ru 75 11 (x0 :: some (.int v) :: t) st h = ru 75 12 (x0 :: some (.int v) :: t) (.int v :: st) h) ∧
  (∀ (i : Int32) (a : Nat) (ls : eL) (st : List Value) (h : eH), ru 75 12 ls (.int i :: .ref a :: st) h = aI (h.1 a) 0 i (fun v => ru 75 13 ls (.int v :: st) h)) ∧
  (∀ (x : Int32) (ls : eL) (st : List Value) (h : eH), ru 75 13 ls (.int x :: st) h = if x = 0 then ru 75 16 ls st h else ru 75 18 ls st h) ∧
  (∀ (ls : eL) (st : List Value) (h : eH), ru 75 16 ls st h = ru 75 17 ls (.int (nI 0) :: st) h) ∧
  (∀ (x : Int32) (ls : eL) (h : eH), ru 75 17 ls [.int x] h = bo (x == 0 || x == 1) (some (some (.int x), h))) ∧
  (∀ (v : Nat) (t : eL) (st : List Value) (h : eH), ru 75 18 (some (.ref v) :: t) st h = ru 75 19 (some (.ref v) :: t) (.ref v :: st) h) ∧
  (∀ (a : Nat) (ls : eL) (st : List Value) (h : eH), ru 75 19 ls (.ref a :: st) h = gF (h.1 a) 11 1 (fun v => ru 75 22 ls (v :: st) h)) ∧
  (∀ (x0 : Option Value) (v : Int32) (t : eL) (st : List Value) (h : eH), ru 75 22 (x0 :: some (.int v) :: t) st h = ru 75 23 (x0 :: some (.int v) :: t) (.int v :: st) h) ∧
  (∀ (ls : eL) (st : List Value) (h : eH), ru 75 23 ls st h = ru 75 24 ls (.int (nI 0) :: st) h) ∧
  (∀ (x : Int32) (i : Int32) (a : Nat) (ls : eL) (st : List Value) (h : eH), ru 75 24 ls (.int x :: .int i :: .ref a :: st) h = wI (h.1 a) i x (fun e => ru 75 25 ls st (eUp h a e))) ∧
  (∀ (ls : eL) (st : List Value) (h : eH), ru 75 25 ls st h = ru 75 26 ls (.int (nI 1) :: st) h) ∧
  (∀ (x : Int32) (ls : eL) (h : eH), ru 75 26 ls [.int x] h = bo (x == 0 || x == 1) (some (some (.int x), h))) := ⟨fun x0 v t st h => ru_go rfl rfl,
  fun a0 ls h => ru_inv rfl (by decide) rfl (Nat.le_of_ble_eq_true rfl),
  fun x ls st h => ru_if rfl rfl,
  fun v t st h => ru_go rfl rfl,
  fun a ls st h => ru_getf rfl,
  fun x0 v t st h => ru_go rfl rfl,
  fun i a ls st h => ru_iald rfl,
  fun x ls st h => ru_if rfl rfl,
  fun ls st h => ru_go rfl rfl,
  fun x ls h => ru_bret rfl rfl,
  fun v t st h => ru_go rfl rfl,
  fun a ls st h => ru_getf rfl,
  fun x0 v t st h => ru_go rfl rfl,
  fun ls st h => ru_go rfl rfl,
  fun x i a ls st h => ru_iast rfl,
  fun ls st h => ru_go rfl rfl,
  fun x ls h => ru_bret rfl rfl⟩
theorem E75 (a0 : Nat) (a1 : Int32) {h : eH} {fs : List Value} (ha : h.1 a0 = .inr (11, fs)) : den 75 [.ref a0, .int a1] h = ru 75 0 [some (.ref a0), some (.int a1)] [] h := den_ob (Nat.le_of_ble_eq_true rfl) ha
/-! 76 X11_tight -/
set_option maxRecDepth 100000 in
theorem H76_29 : (∀ (x0 x1 : Option Value) (v : Int32) (t : eL) (st : List Value) (h : eH), ru 76 29 (x0 :: x1 :: some (.int v) :: t) st h = ru 76 30 (x0 :: x1 :: some (.int v) :: t) (.int v :: st) h) := fun x0 x1 v t st h => ru_go rfl rfl
set_option maxRecDepth 100000 in
theorem H76_51 : (∀ (x0 x1 x2 : Option Value) (v : Int32) (t : eL) (st : List Value) (h : eH), ru 76 51 (x0 :: x1 :: x2 :: some (.int v) :: t) st h = ru 76 52 (x0 :: x1 :: x2 :: some (.int v) :: t) (.int v :: st) h) := fun x0 x1 x2 v t st h => ru_go rfl rfl
set_option maxRecDepth 100000 in
theorem H76_135 : (∀ (v : Nat) (t : eL) (st : List Value) (h : eH), ru 76 135 (some (.ref v) :: t) st h = ru 76 136 (some (.ref v) :: t) (.ref v :: st) h) := fun v t st h => ru_go rfl rfl
set_option maxRecDepth 100000 in
theorem H76_151 : (∀ (v : Nat) (t : eL) (st : List Value) (h : eH), ru 76 151 (some (.ref v) :: t) st h = ru 76 152 (some (.ref v) :: t) (.ref v :: st) h) := fun v t st h => ru_go rfl rfl
set_option maxRecDepth 100000 in
theorem S76 : (∀ (v : Nat) (t : eL) (st : List Value) (h : eH), ru 76 0 (some (.ref v) :: t) st h = ru 76 1 (some (.ref v) :: t) (.ref v :: st) h) ∧
  (∀ (a0 : Nat) (ls : eL) (h : eH), ru 76 1 ls [.ref a0] h = cl (den 32 [.ref a0] h) (fun v h => ru 76 4 ls (v.toList ++ []) h)) ∧
  (∀ (v : Nat) (t : eL) (st : List Value) (h : eH), ru 76 4 (some (.ref v) :: t) st h = ru 76 5 (some (.ref v) :: t) (.ref v :: st) h) ∧
  (∀ (a : Nat) (ls : eL) (st : List Value) (h : eH), ru 76 5 ls (.ref a :: st) h = gF (h.1 a) 11 10 (fun v => ru 76 8 ls (v :: st) h)) ∧
  (∀ (v : Nat) (t : eL) (st : List Value) (h : eH), ru 76 8 (some (.ref v) :: t) st h = ru 76 9 (some (.ref v) :: t) (.ref v :: st) h) ∧
  (∀ (a : Nat) (ls : eL) (st : List Value) (h : eH), ru 76 9 ls (.ref a :: st) h = gF (h.1 a) 11 21 (fun v => ru 76 12 ls (v :: st) h)) ∧
  (∀ (x y : Int32) (ls : eL) (st : List Value) (h : eH), ru 76 12 ls (.int y :: .int x :: st) h = ru 76 13 ls (.int (x - y) :: st) h) ∧
  (∀ (x0 x1 : Option Value) (v : Int32) (t : eL) (st : List Value) (h : eH), ru 76 13 (x0 :: x1 :: t) (.int v :: st) h = ru 76 14 (eKl x0 :: some (.int v) :: t) st h) ∧
  (∀ (x0 : Option Value) (v : Int32) (t : eL) (st : List Value) (h : eH), ru 76 14 (x0 :: some (.int v) :: t) st h = ru 76 15 (x0 :: some (.int v) :: t) (.int v :: st) h) ∧
  (∀ (ls : eL) (st : List Value) (h : eH), ru 76 15 ls st h = ru 76 16 ls (.int (nI 3) :: st) h) ∧
  (∀ (x y : Int32) (ls : eL) (st : List Value) (h : eH), ru 76 16 ls (.int y :: .int x :: st) h = if x ≤ y then ru 76 22 ls st h else ru 76 19 ls st h) ∧
  (∀ (ls : eL) (st : List Value) (h : eH), ru 76 19 ls st h = ru 76 21 ls (.int ((-7)) :: st) h) ∧
  (∀ (x : Int32) (ls : eL) (h : eH), ru 76 21 ls [.int x] h = some (some (.int x), h)) ∧
  (∀ (v : Nat) (t : eL) (st : List Value) (h : eH), ru 76 22 (some (.ref v) :: t) st h = ru 76 23 (some (.ref v) :: t) (.ref v :: st) h) ∧
  (∀ (ls : eL) (st : List Value) (h : eH), ru 76 23 ls st h = ru 76 24 ls (.int (nI 0) :: st) h) ∧
  (∀ (v : Int32) (a : Nat) (ls : eL) (st : List Value) (h : eH), ru 76 24 ls (.int v :: .ref a :: st) h = pF (h.1 a) 11 23 (.int v) (fun e => ru 76 27 ls st (eUp h a e))) ∧
  (∀ (ls : eL) (st : List Value) (h : eH), ru 76 27 ls st h = ru 76 28 ls (.int (nI 0) :: st) h) ∧
  (∀ (x0 x1 x2 : Option Value) (v : Int32) (t : eL) (st : List Value) (h : eH), ru 76 28 (x0 :: x1 :: x2 :: t) (.int v :: st) h = ru 76 29 (x0 :: eKl x1 :: some (.int v) :: t) st h) ∧
  (∀ (v : Nat) (t : eL) (st : List Value) (h : eH), ru 76 30 (some (.ref v) :: t) st h = ru 76 31 (some (.ref v) :: t) (.ref v :: st) h) ∧
  (∀ (a : Nat) (ls : eL) (st : List Value) (h : eH), ru 76 31 ls (.ref a :: st) h = gF (h.1 a) 11 10 (fun v => ru 76 34 ls (v :: st) h)) ∧
  (∀ (x y : Int32) (ls : eL) (st : List Value) (h : eH), ru 76 34 ls (.int y :: .int x :: st) h = if y ≤ x then ru 76 151 ls st h else ru 76 37 ls st h) ∧
  (∀ (v : Nat) (t : eL) (st : List Value) (h : eH), ru 76 37 (some (.ref v) :: t) st h = ru 76 38 (some (.ref v) :: t) (.ref v :: st) h) ∧
  (∀ (a : Nat) (ls : eL) (st : List Value) (h : eH), ru 76 38 ls (.ref a :: st) h = gF (h.1 a) 11 13 (fun v => ru 76 41 ls (v :: st) h)) ∧
  (∀ (x0 x1 : Option Value) (v : Int32) (t : eL) (st : List Value) (h : eH), ru 76 41 (x0 :: x1 :: some (.int v) :: t) st h = ru 76 42 (x0 :: x1 :: some (.int v) :: t) (.int v :: st) h) ∧
  (∀ (i : Int32) (a : Nat) (ls : eL) (st : List Value) (h : eH), ru 76 42 ls (.int i :: .ref a :: st) h = aI (h.1 a) 0 i (fun v => ru 76 43 ls (.int v :: st) h)) ∧
  (∀ (x : Int32) (ls : eL) (st : List Value) (h : eH), ru 76 43 ls (.int x :: st) h = if x = 0 then ru 76 46 ls st h else ru 76 49 ls st h) ∧
  (∀ (ls : eL) (st : List Value) (h : eH), ru 76 46 ls st h = ru 76 145 ls st h) ∧
  (∀ (ls : eL) (st : List Value) (h : eH), ru 76 49 ls st h = ru 76 50 ls (.int (nI 0) :: st) h) ∧
  (∀ (x0 x1 x2 x3 : Option Value) (v : Int32) (t : eL) (st : List Value) (h : eH), ru 76 50 (x0 :: x1 :: x2 :: x3 :: t) (.int v :: st) h = ru 76 51 (x0 :: x1 :: eKl x2 :: some (.int v) :: t) st h) ∧
  (∀ (ls : eL) (st : List Value) (h : eH), ru 76 52 ls st h = ru 76 53 ls (.int (nI 3) :: st) h) ∧
  (∀ (x y : Int32) (ls : eL) (st : List Value) (h : eH), ru 76 53 ls (.int y :: .int x :: st) h = if y ≤ x then ru 76 135 ls st h else ru 76 56 ls st h) ∧
  (∀ (x0 x1 x2 : Option Value) (v : Int32) (t : eL) (st : List Value) (h : eH), ru 76 56 (x0 :: x1 :: x2 :: some (.int v) :: t) st h = ru 76 57 (x0 :: x1 :: x2 :: some (.int v) :: t) (.int v :: st) h) ∧
  (∀ (x0 : Option Value) (v : Int32) (t : eL) (st : List Value) (h : eH), ru 76 57 (x0 :: some (.int v) :: t) st h = ru 76 58 (x0 :: some (.int v) :: t) (.int v :: st) h) ∧
  (∀ (x y : Int32) (ls : eL) (st : List Value) (h : eH), ru 76 58 ls (.int y :: .int x :: st) h = if y ≤ x then ru 76 115 ls st h else ru 76 61 ls st h) ∧
  (∀ (v : Nat) (t : eL) (st : List Value) (h : eH), ru 76 61 (some (.ref v) :: t) st h = ru 76 62 (some (.ref v) :: t) (.ref v :: st) h) ∧
  (∀ (v : Nat) (t : eL) (st : List Value) (h : eH), ru 76 62 (some (.ref v) :: t) st h = ru 76 63 (some (.ref v) :: t) (.ref v :: st) h) ∧
  (∀ (v : Nat) (t : eL) (st : List Value) (h : eH), ru 76 63 (some (.ref v) :: t) st h = ru 76 64 (some (.ref v) :: t) (.ref v :: st) h) ∧
  (∀ (a : Nat) (ls : eL) (st : List Value) (h : eH), ru 76 64 ls (.ref a :: st) h = gF (h.1 a) 11 10 (fun v => ru 76 67 ls (v :: st) h)) ∧
  (∀ (x0 x1 x2 : Option Value) (v : Int32) (t : eL) (st : List Value) (h : eH), ru 76 67 (x0 :: x1 :: x2 :: some (.int v) :: t) st h = ru 76 68 (x0 :: x1 :: x2 :: some (.int v) :: t) (.int v :: st) h) ∧
  (∀ (a0 : Nat) (a1 : Int32) (a2 : Int32) (u0 : Nat) (ls : eL) (h : eH), ru 76 68 ls [.int a2, .int a1, .ref a0, .ref u0] h = cl (den 52 [.ref a0, .int a1, .int a2] h) (fun v h => ru 76 71 ls (v.toList ++ [.ref u0]) h)) ∧
  (∀ (x0 x1 : Option Value) (v : Int32) (t : eL) (st : List Value) (h : eH), ru 76 71 (x0 :: x1 :: some (.int v) :: t) st h = ru 76 72 (x0 :: x1 :: some (.int v) :: t) (.int v :: st) h) ∧
  (∀ (a0 : Nat) (a1 : Int32) (a2 : Int32) (ls : eL) (h : eH), ru 76 72 ls [.int a2, .int a1, .ref a0] h = cl (den 22 [.ref a0, .int a1, .int a2] h) (fun v h => ru 76 75 ls (v.toList ++ []) h)) ∧
  (∀ (v : Nat) (t : eL) (st : List Value) (h : eH), ru 76 75 (some (.ref v) :: t) st h = ru 76 76 (some (.ref v) :: t) (.ref v :: st) h) ∧
  (∀ (v : Nat) (t : eL) (st : List Value) (h : eH), ru 76 76 (some (.ref v) :: t) st h = ru 76 77 (some (.ref v) :: t) (.ref v :: st) h) ∧
  (∀ (v : Nat) (t : eL) (st : List Value) (h : eH), ru 76 77 (some (.ref v) :: t) st h = ru 76 78 (some (.ref v) :: t) (.ref v :: st) h) ∧
  (∀ (a : Nat) (ls : eL) (st : List Value) (h : eH), ru 76 78 ls (.ref a :: st) h = gF (h.1 a) 11 23 (fun v => ru 76 81 ls (v :: st) h)) ∧
  (∀ (x0 x1 x2 : Option Value) (v : Int32) (t : eL) (st : List Value) (h : eH), ru 76 81 (x0 :: x1 :: x2 :: some (.int v) :: t) st h = ru 76 82 (x0 :: x1 :: x2 :: some (.int v) :: t) (.int v :: st) h) ∧
  (∀ (a0 : Nat) (a1 : Int32) (a2 : Int32) (u0 : Nat) (ls : eL) (h : eH), ru 76 82 ls [.int a2, .int a1, .ref a0, .ref u0] h = cl (den 41 [.ref a0, .int a1, .int a2] h) (fun v h => ru 76 85 ls (v.toList ++ [.ref u0]) h)) ∧
  (∀ (ls : eL) (st : List Value) (h : eH), ru 76 85 ls st h = ru 76 86 ls (.int (nI 5) :: st) h) ∧
  (∀ (a0 : Nat) (a1 : Int32) (a2 : Int32) (ls : eL) (h : eH), ru 76 86 ls [.int a2, .int a1, .ref a0] h = cl (den 20 [.ref a0, .int a1, .int a2] h) (fun v h => ru 76 89 ls (v.toList ++ []) h)) ∧
  (∀ (v : Nat) (t : eL) (st : List Value) (h : eH), ru 76 89 (some (.ref v) :: t) st h = ru 76 90 (some (.ref v) :: t) (.ref v :: st) h) ∧
  (∀ (a : Nat) (ls : eL) (st : List Value) (h : eH), ru 76 90 ls (.ref a :: st) h = gF (h.1 a) 11 13 (fun v => ru 76 93 ls (v :: st) h)) ∧
  (∀ (x0 x1 : Option Value) (v : Int32) (t : eL) (st : List Value) (h : eH), ru 76 93 (x0 :: x1 :: some (.int v) :: t) st h = ru 76 94 (x0 :: x1 :: some (.int v) :: t) (.int v :: st) h) ∧
  (∀ (i : Int32) (a : Nat) (ls : eL) (st : List Value) (h : eH), ru 76 94 ls (.int i :: .ref a :: st) h = aI (h.1 a) 0 i (fun v => ru 76 95 ls (.int v :: st) h)) ∧
  (∀ (ls : eL) (st : List Value) (h : eH), ru 76 95 ls st h = ru 76 96 ls (.int (nI 2) :: st) h) ∧
  (∀ (x y : Int32) (ls : eL) (st : List Value) (h : eH), ru 76 96 ls (.int y :: .int x :: st) h = if x = y then ru 76 99 ls st h else ru 76 129 ls st h) ∧
  (∀ (v : Nat) (t : eL) (st : List Value) (h : eH), ru 76 99 (some (.ref v) :: t) st h = ru 76 100 (some (.ref v) :: t) (.ref v :: st) h) ∧
  (∀ (v : Nat) (t : eL) (st : List Value) (h : eH), ru 76 100 (some (.ref v) :: t) st h = ru 76 101 (some (.ref v) :: t) (.ref v :: st) h) ∧
  (∀ (v : Nat) (t : eL) (st : List Value) (h : eH), ru 76 101 (some (.ref v) :: t) st h = ru 76 102 (some (.ref v) :: t) (.ref v :: st) h) ∧
  (∀ (a : Nat) (ls : eL) (st : List Value) (h : eH), ru 76 102 ls (.ref a :: st) h = gF (h.1 a) 11 23 (fun v => ru 76 105 ls (v :: st) h)) ∧
  (∀ (x0 x1 x2 : Option Value) (v : Int32) (t : eL) (st : List Value) (h : eH), ru 76 105 (x0 :: x1 :: x2 :: some (.int v) :: t) st h = ru 76 106 (x0 :: x1 :: x2 :: some (.int v) :: t) (.int v :: st) h) ∧
  (∀ (a0 : Nat) (a1 : Int32) (a2 : Int32) (u0 : Nat) (ls : eL) (h : eH), ru 76 106 ls [.int a2, .int a1, .ref a0, .ref u0] h = cl (den 41 [.ref a0, .int a1, .int a2] h) (fun v h => ru 76 109 ls (v.toList ++ [.ref u0]) h)) ∧
  (∀ (a0 : Nat) (a1 : Int32) (ls : eL) (h : eH), ru 76 109 ls [.int a1, .ref a0] h = cl (den 18 [.ref a0, .int a1] h) (fun v h => ru 76 112 ls (v.toList ++ []) h)) ∧
  (∀ (ls : eL) (st : List Value) (h : eH), ru 76 112 ls st h = ru 76 129 ls st h) ∧
  (∀ (v : Nat) (t : eL) (st : List Value) (h : eH), ru 76 115 (some (.ref v) :: t) st h = ru 76 116 (some (.ref v) :: t) (.ref v :: st) h) ∧
  (∀ (v : Nat) (t : eL) (st : List Value) (h : eH), ru 76 116 (some (.ref v) :: t) st h = ru 76 117 (some (.ref v) :: t) (.ref v :: st) h) ∧
  (∀ (v : Nat) (t : eL) (st : List Value) (h : eH), ru 76 117 (some (.ref v) :: t) st h = ru 76 118 (some (.ref v) :: t) (.ref v :: st) h) ∧
  (∀ (a : Nat) (ls : eL) (st : List Value) (h : eH), ru 76 118 ls (.ref a :: st) h = gF (h.1 a) 11 23 (fun v => ru 76 121 ls (v :: st) h)) ∧
  (∀ (x0 x1 x2 : Option Value) (v : Int32) (t : eL) (st : List Value) (h : eH), ru 76 121 (x0 :: x1 :: x2 :: some (.int v) :: t) st h = ru 76 122 (x0 :: x1 :: x2 :: some (.int v) :: t) (.int v :: st) h) ∧
  (∀ (a0 : Nat) (a1 : Int32) (a2 : Int32) (u0 : Nat) (ls : eL) (h : eH), ru 76 122 ls [.int a2, .int a1, .ref a0, .ref u0] h = cl (den 41 [.ref a0, .int a1, .int a2] h) (fun v h => ru 76 125 ls (v.toList ++ [.ref u0]) h)) ∧
  (∀ (ls : eL) (st : List Value) (h : eH), ru 76 125 ls st h = ru 76 126 ls (.long (lN 0) :: st) h) ∧
  (∀ (a0 : Nat) (a1 : Int32) (a2 : Int64) (ls : eL) (h : eH), ru 76 126 ls [.long a2, .int a1, .ref a0] h = cl (den 12 [.ref a0, .int a1, .long a2] h) (fun v h => ru 76 129 ls (v.toList ++ []) h)) ∧
  (∀ (x0 x1 x2 : Option Value) (v : Int32) (t : eL) (st : List Value) (h : eH), ru 76 129 (x0 :: x1 :: x2 :: some (.int v) :: t) st h = ru 76 132 (x0 :: x1 :: eKl x2 :: some (.int (v + 1)) :: t) st h) ∧
  (∀ (ls : eL) (st : List Value) (h : eH), ru 76 132 ls st h = ru 76 51 ls st h) ∧
  (∀ (x : Nat) (ls : eL) (st : List Value) (h : eH), ru 76 136 ls (.ref x :: st) h = ru 76 137 ls (.ref x :: .ref x :: st) h) ∧
  (∀ (a : Nat) (ls : eL) (st : List Value) (h : eH), ru 76 137 ls (.ref a :: st) h = gF (h.1 a) 11 23 (fun v => ru 76 140 ls (v :: st) h)) ∧
  (∀ (ls : eL) (st : List Value) (h : eH), ru 76 140 ls st h = ru 76 141 ls (.int (nI 1) :: st) h) ∧
  (∀ (x y : Int32) (ls : eL) (st : List Value) (h : eH), ru 76 141 ls (.int y :: .int x :: st) h = ru 76 142 ls (.int (x + y) :: st) h) ∧
  (∀ (v : Int32) (a : Nat) (ls : eL) (st : List Value) (h : eH), ru 76 142 ls (.int v :: .ref a :: st) h = pF (h.1 a) 11 23 (.int v) (fun e => ru 76 145 ls st (eUp h a e))) ∧
  (∀ (x0 x1 : Option Value) (v : Int32) (t : eL) (st : List Value) (h : eH), ru 76 145 (x0 :: x1 :: some (.int v) :: t) st h = ru 76 148 (x0 :: eKl x1 :: some (.int (v + 1)) :: t) st h) ∧
  (∀ (ls : eL) (st : List Value) (h : eH), ru 76 148 ls st h = ru 76 29 ls st h) ∧
  (∀ (a0 : Nat) (ls : eL) (h : eH), ru 76 152 ls [.ref a0] h = cl (den 58 [.ref a0] h) (fun v h => ru 76 155 ls (v.toList ++ []) h)) ∧
  (∀ (x : Int32) (ls : eL) (st : List Value) (h : eH), ru 76 155 ls (.int x :: st) h = if x = 0 then ru 76 162 ls st h else ru 76 158 ls st h) ∧
  (∀ (ls : eL) (st : List Value) (h : eH), ru 76 158 ls st h = ru 76 159 ls (.int (nI 1) :: st) h) ∧
  (∀ (ls : eL) (st : List Value) (h : eH), ru 76 159 ls st h = ru 76 163 ls st h) ∧
  (∀ (ls : eL) (st : List Value) (h : eH), ru 76 162 ls st h = ru 76 163 ls (.int (nI 0) :: st) h) ∧
  (∀ (x : Int32) (ls : eL) (h : eH), ru 76 163 ls [.int x] h = some (some (.int x), h)) := ⟨fun v t st h => ru_go rfl rfl,
  fun a0 ls h => ru_inv rfl (by decide) rfl (Nat.le_of_ble_eq_true rfl),
  fun v t st h => ru_go rfl rfl,
  fun a ls st h => ru_getf rfl,
  fun v t st h => ru_go rfl rfl,
  fun a ls st h => ru_getf rfl,
  fun x y ls st h => ru_go rfl rfl,
  fun x0 x1 v t st h => ru_go rfl rfl,
  fun x0 v t st h => ru_go rfl rfl,
  fun ls st h => ru_go rfl rfl,
  fun x y ls st h => ru_if rfl rfl,
  fun ls st h => ru_go rfl rfl,
  fun x ls h => ru_ret rfl rfl,
  fun v t st h => ru_go rfl rfl,
  fun ls st h => ru_go rfl rfl,
  fun v a ls st h => ru_putf rfl,
  fun ls st h => ru_go rfl rfl,
  fun x0 x1 x2 v t st h => ru_go rfl rfl,
  fun v t st h => ru_go rfl rfl,
  fun a ls st h => ru_getf rfl,
  fun x y ls st h => ru_if rfl rfl,
  fun v t st h => ru_go rfl rfl,
  fun a ls st h => ru_getf rfl,
  fun x0 x1 v t st h => ru_go rfl rfl,
  fun i a ls st h => ru_iald rfl,
  fun x ls st h => ru_if rfl rfl,
  fun ls st h => ru_go rfl rfl,
  fun ls st h => ru_go rfl rfl,
  fun x0 x1 x2 x3 v t st h => ru_go rfl rfl,
  fun ls st h => ru_go rfl rfl,
  fun x y ls st h => ru_if rfl rfl,
  fun x0 x1 x2 v t st h => ru_go rfl rfl,
  fun x0 v t st h => ru_go rfl rfl,
  fun x y ls st h => ru_if rfl rfl,
  fun v t st h => ru_go rfl rfl,
  fun v t st h => ru_go rfl rfl,
  fun v t st h => ru_go rfl rfl,
  fun a ls st h => ru_getf rfl,
  fun x0 x1 x2 v t st h => ru_go rfl rfl,
  fun a0 a1 a2 u0 ls h => ru_inv rfl (by decide) rfl (Nat.le_of_ble_eq_true rfl),
  fun x0 x1 v t st h => ru_go rfl rfl,
  fun a0 a1 a2 ls h => ru_inv rfl (by decide) rfl (Nat.le_of_ble_eq_true rfl),
  fun v t st h => ru_go rfl rfl,
  fun v t st h => ru_go rfl rfl,
  fun v t st h => ru_go rfl rfl,
  fun a ls st h => ru_getf rfl,
  fun x0 x1 x2 v t st h => ru_go rfl rfl,
  fun a0 a1 a2 u0 ls h => ru_inv rfl (by decide) rfl (Nat.le_of_ble_eq_true rfl),
  fun ls st h => ru_go rfl rfl,
  fun a0 a1 a2 ls h => ru_inv rfl (by decide) rfl (Nat.le_of_ble_eq_true rfl),
  fun v t st h => ru_go rfl rfl,
  fun a ls st h => ru_getf rfl,
  fun x0 x1 v t st h => ru_go rfl rfl,
  fun i a ls st h => ru_iald rfl,
  fun ls st h => ru_go rfl rfl,
  fun x y ls st h => ru_if rfl rfl,
  fun v t st h => ru_go rfl rfl,
  fun v t st h => ru_go rfl rfl,
  fun v t st h => ru_go rfl rfl,
  fun a ls st h => ru_getf rfl,
  fun x0 x1 x2 v t st h => ru_go rfl rfl,
  fun a0 a1 a2 u0 ls h => ru_inv rfl (by decide) rfl (Nat.le_of_ble_eq_true rfl),
  fun a0 a1 ls h => ru_inv rfl (by decide) rfl (Nat.le_of_ble_eq_true rfl),
  fun ls st h => ru_go rfl rfl,
  fun v t st h => ru_go rfl rfl,
  fun v t st h => ru_go rfl rfl,
  fun v t st h => ru_go rfl rfl,
  fun a ls st h => ru_getf rfl,
  fun x0 x1 x2 v t st h => ru_go rfl rfl,
  fun a0 a1 a2 u0 ls h => ru_inv rfl (by decide) rfl (Nat.le_of_ble_eq_true rfl),
  fun ls st h => ru_go rfl rfl,
  fun a0 a1 a2 ls h => ru_inv rfl (by decide) rfl (Nat.le_of_ble_eq_true rfl),
  fun x0 x1 x2 v t st h => ru_go rfl rfl,
  fun ls st h => ru_go rfl rfl,
  fun x ls st h => ru_go rfl rfl,
  fun a ls st h => ru_getf rfl,
  fun ls st h => ru_go rfl rfl,
  fun x y ls st h => ru_go rfl rfl,
  fun v a ls st h => ru_putf rfl,
  fun x0 x1 v t st h => ru_go rfl rfl,
  fun ls st h => ru_go rfl rfl,
  fun a0 ls h => ru_inv rfl (by decide) rfl (Nat.le_of_ble_eq_true rfl),
  fun x ls st h => ru_if rfl rfl,
  fun ls st h => ru_go rfl rfl,
  fun ls st h => ru_go rfl rfl,
  fun ls st h => ru_go rfl rfl,
  fun x ls h => ru_ret rfl rfl⟩
theorem E76 (a0 : Nat) {h : eH} {fs : List Value} (ha : h.1 a0 = .inr (11, fs)) : den 76 [.ref a0] h = ru 76 0 [some (.ref a0), none, none, none] [] h := den_ob (Nat.le_of_ble_eq_true rfl) ha
/-! 77 X11_told -/
set_option maxRecDepth 100000 in
theorem S77 : (∀ (x0 x1 : Option Value) (v : Int32) (t : eL) (st : List Value) (h : eH), ru 77 0 (x0 :: x1 :: some (.int v) :: t) st h = ru 77 1 (x0 :: x1 :: some (.int v) :: t) (.int v :: st) h) ∧
  (∀ (x : Int32) (ls : eL) (st : List Value) (h : eH), ru 77 1 ls (.int x :: st) h = if x < 0 then ru 77 89 ls st h else ru 77 4 ls st h) ∧
  (∀ (x0 x1 : Option Value) (v : Int32) (t : eL) (st : List Value) (h : eH), ru 77 4 (x0 :: x1 :: some (.int v) :: t) st h = ru 77 5 (x0 :: x1 :: some (.int v) :: t) (.int v :: st) h) ∧
  (∀ (ls : eL) (st : List Value) (h : eH), ru 77 5 ls st h = ru 77 6 ls (.int (nI 4) :: st) h) ∧
  (∀ (x y : Int32) (ls : eL) (st : List Value) (h : eH), ru 77 6 ls (.int y :: .int x :: st) h = if y < x then ru 77 89 ls st h else ru 77 9 ls st h) ∧
  (∀ (v : Nat) (t : eL) (st : List Value) (h : eH), ru 77 9 (some (.ref v) :: t) st h = ru 77 10 (some (.ref v) :: t) (.ref v :: st) h) ∧
  (∀ (x0 : Option Value) (v : Int32) (t : eL) (st : List Value) (h : eH), ru 77 10 (x0 :: some (.int v) :: t) st h = ru 77 11 (x0 :: some (.int v) :: t) (.int v :: st) h) ∧
  (∀ (a0 : Nat) (a1 : Int32) (ls : eL) (h : eH), ru 77 11 ls [.int a1, .ref a0] h = cl (den 55 [.ref a0, .int a1] h) (fun v h => ru 77 14 ls (v.toList ++ []) h)) ∧
  (∀ (x : Int32) (ls : eL) (st : List Value) (h : eH), ru 77 14 ls (.int x :: st) h = if x = 0 then ru 77 17 ls st h else ru 77 19 ls st h) ∧
  (∀ (ls : eL) (st : List Value) (h : eH), ru 77 17 ls st h = ru 77 18 ls (.int (nI 0) :: st) h) ∧
  (∀ (x : Int32) (ls : eL) (h : eH), ru 77 18 ls [.int x] h = some (some (.int x), h)) ∧
  (∀ (x0 x1 : Option Value) (v : Int32) (t : eL) (st : List Value) (h : eH), ru 77 19 (x0 :: x1 :: some (.int v) :: t) st h = ru 77 20 (x0 :: x1 :: some (.int v) :: t) (.int v :: st) h) ∧
  (∀ (x : Int32) (ls : eL) (st : List Value) (h : eH), ru 77 20 ls (.int x :: st) h = if x = 0 then ru 77 23 ls st h else ru 77 32 ls st h) ∧
  (∀ (v : Nat) (t : eL) (st : List Value) (h : eH), ru 77 23 (some (.ref v) :: t) st h = ru 77 24 (some (.ref v) :: t) (.ref v :: st) h) ∧
  (∀ (a : Nat) (ls : eL) (st : List Value) (h : eH), ru 77 24 ls (.ref a :: st) h = gF (h.1 a) 11 5 (fun v => ru 77 27 ls (v :: st) h)) ∧
  (∀ (x0 : Option Value) (v : Int32) (t : eL) (st : List Value) (h : eH), ru 77 27 (x0 :: some (.int v) :: t) st h = ru 77 28 (x0 :: some (.int v) :: t) (.int v :: st) h) ∧
  (∀ (i : Int32) (a : Nat) (ls : eL) (st : List Value) (h : eH), ru 77 28 ls (.int i :: .ref a :: st) h = aI (h.1 a) 0 i (fun v => ru 77 29 ls (.int v :: st) h)) ∧
  (∀ (ls : eL) (st : List Value) (h : eH), ru 77 29 ls st h = ru 77 88 ls st h) ∧
  (∀ (x0 x1 : Option Value) (v : Int32) (t : eL) (st : List Value) (h : eH), ru 77 32 (x0 :: x1 :: some (.int v) :: t) st h = ru 77 33 (x0 :: x1 :: some (.int v) :: t) (.int v :: st) h) ∧
  (∀ (ls : eL) (st : List Value) (h : eH), ru 77 33 ls st h = ru 77 34 ls (.int (nI 1) :: st) h) ∧
  (∀ (x y : Int32) (ls : eL) (st : List Value) (h : eH), ru 77 34 ls (.int y :: .int x :: st) h = if x = y then ru 77 37 ls st h else ru 77 46 ls st h) ∧
  (∀ (v : Nat) (t : eL) (st : List Value) (h : eH), ru 77 37 (some (.ref v) :: t) st h = ru 77 38 (some (.ref v) :: t) (.ref v :: st) h) ∧
  (∀ (a : Nat) (ls : eL) (st : List Value) (h : eH), ru 77 38 ls (.ref a :: st) h = gF (h.1 a) 11 6 (fun v => ru 77 41 ls (v :: st) h)) ∧
  (∀ (x0 : Option Value) (v : Int32) (t : eL) (st : List Value) (h : eH), ru 77 41 (x0 :: some (.int v) :: t) st h = ru 77 42 (x0 :: some (.int v) :: t) (.int v :: st) h) ∧
  (∀ (i : Int32) (a : Nat) (ls : eL) (st : List Value) (h : eH), ru 77 42 ls (.int i :: .ref a :: st) h = aI (h.1 a) 0 i (fun v => ru 77 43 ls (.int v :: st) h)) ∧
  (∀ (ls : eL) (st : List Value) (h : eH), ru 77 43 ls st h = ru 77 88 ls st h) ∧
  (∀ (x0 x1 : Option Value) (v : Int32) (t : eL) (st : List Value) (h : eH), ru 77 46 (x0 :: x1 :: some (.int v) :: t) st h = ru 77 47 (x0 :: x1 :: some (.int v) :: t) (.int v :: st) h) ∧
  (∀ (ls : eL) (st : List Value) (h : eH), ru 77 47 ls st h = ru 77 48 ls (.int (nI 2) :: st) h) ∧
  (∀ (x y : Int32) (ls : eL) (st : List Value) (h : eH), ru 77 48 ls (.int y :: .int x :: st) h = if x = y then ru 77 51 ls st h else ru 77 68 ls st h) ∧
  (∀ (v : Nat) (t : eL) (st : List Value) (h : eH), ru 77 51 (some (.ref v) :: t) st h = ru 77 52 (some (.ref v) :: t) (.ref v :: st) h) ∧
  (∀ (a : Nat) (ls : eL) (st : List Value) (h : eH), ru 77 52 ls (.ref a :: st) h = gF (h.1 a) 11 7 (fun v => ru 77 55 ls (v :: st) h)) ∧
  (∀ (x0 : Option Value) (v : Int32) (t : eL) (st : List Value) (h : eH), ru 77 55 (x0 :: some (.int v) :: t) st h = ru 77 56 (x0 :: some (.int v) :: t) (.int v :: st) h) ∧
  (∀ (i : Int32) (a : Nat) (ls : eL) (st : List Value) (h : eH), ru 77 56 ls (.int i :: .ref a :: st) h = aI (h.1 a) 2 i (fun v => ru 77 57 ls (.int v :: st) h)) ∧
  (∀ (x : Int32) (ls : eL) (st : List Value) (h : eH), ru 77 57 ls (.int x :: st) h = if x = 0 then ru 77 64 ls st h else ru 77 60 ls st h) ∧
  (∀ (ls : eL) (st : List Value) (h : eH), ru 77 60 ls st h = ru 77 61 ls (.int (nI 1) :: st) h) ∧
  (∀ (ls : eL) (st : List Value) (h : eH), ru 77 61 ls st h = ru 77 88 ls st h) ∧
  (∀ (ls : eL) (st : List Value) (h : eH), ru 77 64 ls st h = ru 77 65 ls (.int (nI 0) :: st) h) ∧
  (∀ (ls : eL) (st : List Value) (h : eH), ru 77 65 ls st h = ru 77 88 ls st h) ∧
  (∀ (x0 x1 : Option Value) (v : Int32) (t : eL) (st : List Value) (h : eH), ru 77 68 (x0 :: x1 :: some (.int v) :: t) st h = ru 77 69 (x0 :: x1 :: some (.int v) :: t) (.int v :: st) h) ∧
  (∀ (ls : eL) (st : List Value) (h : eH), ru 77 69 ls st h = ru 77 70 ls (.int (nI 3) :: st) h) ∧
  (∀ (x y : Int32) (ls : eL) (st : List Value) (h : eH), ru 77 70 ls (.int y :: .int x :: st) h = if x = y then ru 77 73 ls st h else ru 77 82 ls st h) ∧
  (∀ (v : Nat) (t : eL) (st : List Value) (h : eH), ru 77 73 (some (.ref v) :: t) st h = ru 77 74 (some (.ref v) :: t) (.ref v :: st) h) ∧
  (∀ (a : Nat) (ls : eL) (st : List Value) (h : eH), ru 77 74 ls (.ref a :: st) h = gF (h.1 a) 11 8 (fun v => ru 77 77 ls (v :: st) h)) ∧
  (∀ (x0 : Option Value) (v : Int32) (t : eL) (st : List Value) (h : eH), ru 77 77 (x0 :: some (.int v) :: t) st h = ru 77 78 (x0 :: some (.int v) :: t) (.int v :: st) h) ∧
  (∀ (i : Int32) (a : Nat) (ls : eL) (st : List Value) (h : eH), ru 77 78 ls (.int i :: .ref a :: st) h = aI (h.1 a) 0 i (fun v => ru 77 79 ls (.int v :: st) h)) ∧
  (∀ (ls : eL) (st : List Value) (h : eH), ru 77 79 ls st h = ru 77 88 ls st h) ∧
  (∀ (v : Nat) (t : eL) (st : List Value) (h : eH), ru 77 82 (some (.ref v) :: t) st h = ru 77 83 (some (.ref v) :: t) (.ref v :: st) h) ∧
  (∀ (a : Nat) (ls : eL) (st : List Value) (h : eH), ru 77 83 ls (.ref a :: st) h = gF (h.1 a) 11 9 (fun v => ru 77 86 ls (v :: st) h)) ∧
  (∀ (x0 : Option Value) (v : Int32) (t : eL) (st : List Value) (h : eH), ru 77 86 (x0 :: some (.int v) :: t) st h = ru 77 87 (x0 :: some (.int v) :: t) (.int v :: st) h) ∧
  (∀ (i : Int32) (a : Nat) (ls : eL) (st : List Value) (h : eH), ru 77 87 ls (.int i :: .ref a :: st) h = aI (h.1 a) 0 i (fun v => ru 77 88 ls (.int v :: st) h)) ∧
  (∀ (x : Int32) (ls : eL) (h : eH), ru 77 88 ls [.int x] h = some (some (.int x), h)) ∧
  (∀ (x0 x1 : Option Value) (v : Int32) (t : eL) (st : List Value) (h : eH), ru 77 89 (x0 :: x1 :: some (.int v) :: t) st h = ru 77 90 (x0 :: x1 :: some (.int v) :: t) (.int v :: st) h) ∧
  (∀ (ls : eL) (st : List Value) (h : eH), ru 77 90 ls st h = ru 77 92 ls (.int (nI 10) :: st) h) ∧
  (∀ (x y : Int32) (ls : eL) (st : List Value) (h : eH), ru 77 92 ls (.int y :: .int x :: st) h = if x < y then ru 77 109 ls st h else ru 77 95 ls st h) ∧
  (∀ (x0 x1 : Option Value) (v : Int32) (t : eL) (st : List Value) (h : eH), ru 77 95 (x0 :: x1 :: some (.int v) :: t) st h = ru 77 96 (x0 :: x1 :: some (.int v) :: t) (.int v :: st) h) ∧
  (∀ (ls : eL) (st : List Value) (h : eH), ru 77 96 ls st h = ru 77 98 ls (.int (nI 14) :: st) h) ∧
  (∀ (x y : Int32) (ls : eL) (st : List Value) (h : eH), ru 77 98 ls (.int y :: .int x :: st) h = if y < x then ru 77 109 ls st h else ru 77 101 ls st h) ∧
  (∀ (v : Nat) (t : eL) (st : List Value) (h : eH), ru 77 101 (some (.ref v) :: t) st h = ru 77 102 (some (.ref v) :: t) (.ref v :: st) h) ∧
  (∀ (x0 : Option Value) (v : Int32) (t : eL) (st : List Value) (h : eH), ru 77 102 (x0 :: some (.int v) :: t) st h = ru 77 103 (x0 :: some (.int v) :: t) (.int v :: st) h) ∧
  (∀ (a0 : Nat) (a1 : Int32) (ls : eL) (h : eH), ru 77 103 ls [.int a1, .ref a0] h = cl (den 34 [.ref a0, .int a1] h) (fun v h => ru 77 106 ls (v.toList ++ []) h)) ∧
  (∀ (x : Int32) (ls : eL) (st : List Value) (h : eH), ru 77 106 ls (.int x :: st) h = if x = 0 then ru 77 109 ls st h else ru 77 111 ls st h) ∧
  (∀ (ls : eL) (st : List Value) (h : eH), ru 77 109 ls st h = ru 77 110 ls (.int (nI 0) :: st) h) ∧
  (∀ (x : Int32) (ls : eL) (h : eH), ru 77 110 ls [.int x] h = some (some (.int x), h)) ∧
  (∀ (x0 x1 : Option Value) (v : Int32) (t : eL) (st : List Value) (h : eH), ru 77 111 (x0 :: x1 :: some (.int v) :: t) st h = ru 77 112 (x0 :: x1 :: some (.int v) :: t) (.int v :: st) h) ∧
  (∀ (ls : eL) (st : List Value) (h : eH), ru 77 112 ls st h = ru 77 114 ls (.int (nI 14) :: st) h) ∧
  (∀ (x y : Int32) (ls : eL) (st : List Value) (h : eH), ru 77 114 ls (.int y :: .int x :: st) h = if x = y then ru 77 117 ls st h else ru 77 137 ls st h) ∧
  (∀ (v : Nat) (t : eL) (st : List Value) (h : eH), ru 77 117 (some (.ref v) :: t) st h = ru 77 118 (some (.ref v) :: t) (.ref v :: st) h) ∧
  (∀ (a0 : Nat) (ls : eL) (h : eH), ru 77 118 ls [.ref a0] h = cl (den 32 [.ref a0] h) (fun v h => ru 77 121 ls (v.toList ++ []) h)) ∧
  (∀ (v : Nat) (t : eL) (st : List Value) (h : eH), ru 77 121 (some (.ref v) :: t) st h = ru 77 122 (some (.ref v) :: t) (.ref v :: st) h) ∧
  (∀ (a : Nat) (ls : eL) (st : List Value) (h : eH), ru 77 122 ls (.ref a :: st) h = gF (h.1 a) 11 22 (fun v => ru 77 125 ls (v :: st) h)) ∧
  (∀ (x0 : Option Value) (v : Int32) (t : eL) (st : List Value) (h : eH), ru 77 125 (x0 :: some (.int v) :: t) st h = ru 77 126 (x0 :: some (.int v) :: t) (.int v :: st) h) ∧
  (∀ (i : Int32) (a : Nat) (ls : eL) (st : List Value) (h : eH), ru 77 126 ls (.int i :: .ref a :: st) h = aI (h.1 a) 0 i (fun v => ru 77 127 ls (.int v :: st) h)) ∧
  (∀ (ls : eL) (st : List Value) (h : eH), ru 77 127 ls st h = ru 77 128 ls (.int ((-1)) :: st) h) ∧
  (∀ (x y : Int32) (ls : eL) (st : List Value) (h : eH), ru 77 128 ls (.int y :: .int x :: st) h = if x = y then ru 77 131 ls st h else ru 77 135 ls st h) ∧
  (∀ (ls : eL) (st : List Value) (h : eH), ru 77 131 ls st h = ru 77 132 ls (.int (nI 0) :: st) h) ∧
  (∀ (ls : eL) (st : List Value) (h : eH), ru 77 132 ls st h = ru 77 136 ls st h) ∧
  (∀ (ls : eL) (st : List Value) (h : eH), ru 77 135 ls st h = ru 77 136 ls (.int (nI 1) :: st) h) ∧
  (∀ (x : Int32) (ls : eL) (h : eH), ru 77 136 ls [.int x] h = some (some (.int x), h)) ∧
  (∀ (x0 x1 : Option Value) (v : Int32) (t : eL) (st : List Value) (h : eH), ru 77 137 (x0 :: x1 :: some (.int v) :: t) st h = ru 77 138 (x0 :: x1 :: some (.int v) :: t) (.int v :: st) h) ∧
  (∀ (ls : eL) (st : List Value) (h : eH), ru 77 138 ls st h = ru 77 140 ls (.int (nI 10) :: st) h) ∧
  (∀ (x y : Int32) (ls : eL) (st : List Value) (h : eH), ru 77 140 ls (.int y :: .int x :: st) h = if x = y then ru 77 143 ls st h else ru 77 152 ls st h) ∧
  (∀ (v : Nat) (t : eL) (st : List Value) (h : eH), ru 77 143 (some (.ref v) :: t) st h = ru 77 144 (some (.ref v) :: t) (.ref v :: st) h) ∧
  (∀ (a : Nat) (ls : eL) (st : List Value) (h : eH), ru 77 144 ls (.ref a :: st) h = gF (h.1 a) 11 11 (fun v => ru 77 147 ls (v :: st) h)) ∧
  (∀ (x0 : Option Value) (v : Int32) (t : eL) (st : List Value) (h : eH), ru 77 147 (x0 :: some (.int v) :: t) st h = ru 77 148 (x0 :: some (.int v) :: t) (.int v :: st) h) ∧
  (∀ (i : Int32) (a : Nat) (ls : eL) (st : List Value) (h : eH), ru 77 148 ls (.int i :: .ref a :: st) h = aI (h.1 a) 0 i (fun v => ru 77 149 ls (.int v :: st) h)) ∧
  (∀ (ls : eL) (st : List Value) (h : eH), ru 77 149 ls st h = ru 77 188 ls st h) ∧
  (∀ (x0 x1 : Option Value) (v : Int32) (t : eL) (st : List Value) (h : eH), ru 77 152 (x0 :: x1 :: some (.int v) :: t) st h = ru 77 153 (x0 :: x1 :: some (.int v) :: t) (.int v :: st) h) ∧
  (∀ (ls : eL) (st : List Value) (h : eH), ru 77 153 ls st h = ru 77 155 ls (.int (nI 11) :: st) h) ∧
  (∀ (x y : Int32) (ls : eL) (st : List Value) (h : eH), ru 77 155 ls (.int y :: .int x :: st) h = if x = y then ru 77 158 ls st h else ru 77 167 ls st h) ∧
  (∀ (v : Nat) (t : eL) (st : List Value) (h : eH), ru 77 158 (some (.ref v) :: t) st h = ru 77 159 (some (.ref v) :: t) (.ref v :: st) h) ∧
  (∀ (a : Nat) (ls : eL) (st : List Value) (h : eH), ru 77 159 ls (.ref a :: st) h = gF (h.1 a) 11 12 (fun v => ru 77 162 ls (v :: st) h)) ∧
  (∀ (x0 : Option Value) (v : Int32) (t : eL) (st : List Value) (h : eH), ru 77 162 (x0 :: some (.int v) :: t) st h = ru 77 163 (x0 :: some (.int v) :: t) (.int v :: st) h) ∧
  (∀ (i : Int32) (a : Nat) (ls : eL) (st : List Value) (h : eH), ru 77 163 ls (.int i :: .ref a :: st) h = aI (h.1 a) 0 i (fun v => ru 77 164 ls (.int v :: st) h)) ∧
  (∀ (ls : eL) (st : List Value) (h : eH), ru 77 164 ls st h = ru 77 188 ls st h) ∧
  (∀ (x0 x1 : Option Value) (v : Int32) (t : eL) (st : List Value) (h : eH), ru 77 167 (x0 :: x1 :: some (.int v) :: t) st h = ru 77 168 (x0 :: x1 :: some (.int v) :: t) (.int v :: st) h) ∧
  (∀ (ls : eL) (st : List Value) (h : eH), ru 77 168 ls st h = ru 77 170 ls (.int (nI 12) :: st) h) ∧
  (∀ (x y : Int32) (ls : eL) (st : List Value) (h : eH), ru 77 170 ls (.int y :: .int x :: st) h = if x = y then ru 77 173 ls st h else ru 77 182 ls st h) ∧
  (∀ (v : Nat) (t : eL) (st : List Value) (h : eH), ru 77 173 (some (.ref v) :: t) st h = ru 77 174 (some (.ref v) :: t) (.ref v :: st) h) ∧
  (∀ (a : Nat) (ls : eL) (st : List Value) (h : eH), ru 77 174 ls (.ref a :: st) h = gF (h.1 a) 11 13 (fun v => ru 77 177 ls (v :: st) h)) ∧
  (∀ (x0 : Option Value) (v : Int32) (t : eL) (st : List Value) (h : eH), ru 77 177 (x0 :: some (.int v) :: t) st h = ru 77 178 (x0 :: some (.int v) :: t) (.int v :: st) h) ∧
  (∀ (i : Int32) (a : Nat) (ls : eL) (st : List Value) (h : eH), ru 77 178 ls (.int i :: .ref a :: st) h = aI (h.1 a) 0 i (fun v => ru 77 179 ls (.int v :: st) h)) ∧
  (∀ (ls : eL) (st : List Value) (h : eH), ru 77 179 ls st h = ru 77 188 ls st h) ∧
  (∀ (v : Nat) (t : eL) (st : List Value) (h : eH), ru 77 182 (some (.ref v) :: t) st h = ru 77 183 (some (.ref v) :: t) (.ref v :: st) h) ∧
  (∀ (a : Nat) (ls : eL) (st : List Value) (h : eH), ru 77 183 ls (.ref a :: st) h = gF (h.1 a) 11 14 (fun v => ru 77 186 ls (v :: st) h)) ∧
  (∀ (x0 : Option Value) (v : Int32) (t : eL) (st : List Value) (h : eH), ru 77 186 (x0 :: some (.int v) :: t) st h = ru 77 187 (x0 :: some (.int v) :: t) (.int v :: st) h) ∧
  (∀ (i : Int32) (a : Nat) (ls : eL) (st : List Value) (h : eH), ru 77 187 ls (.int i :: .ref a :: st) h = aI (h.1 a) 0 i (fun v => ru 77 188 ls (.int v :: st) h)) ∧
  (∀ (x : Int32) (ls : eL) (h : eH), ru 77 188 ls [.int x] h = some (some (.int x), h)) := ⟨fun x0 x1 v t st h => ru_go rfl rfl,
  fun x ls st h => ru_if rfl rfl,
  fun x0 x1 v t st h => ru_go rfl rfl,
  fun ls st h => ru_go rfl rfl,
  fun x y ls st h => ru_if rfl rfl,
  fun v t st h => ru_go rfl rfl,
  fun x0 v t st h => ru_go rfl rfl,
  fun a0 a1 ls h => ru_inv rfl (by decide) rfl (Nat.le_of_ble_eq_true rfl),
  fun x ls st h => ru_if rfl rfl,
  fun ls st h => ru_go rfl rfl,
  fun x ls h => ru_ret rfl rfl,
  fun x0 x1 v t st h => ru_go rfl rfl,
  fun x ls st h => ru_if rfl rfl,
  fun v t st h => ru_go rfl rfl,
  fun a ls st h => ru_getf rfl,
  fun x0 v t st h => ru_go rfl rfl,
  fun i a ls st h => ru_iald rfl,
  fun ls st h => ru_go rfl rfl,
  fun x0 x1 v t st h => ru_go rfl rfl,
  fun ls st h => ru_go rfl rfl,
  fun x y ls st h => ru_if rfl rfl,
  fun v t st h => ru_go rfl rfl,
  fun a ls st h => ru_getf rfl,
  fun x0 v t st h => ru_go rfl rfl,
  fun i a ls st h => ru_iald rfl,
  fun ls st h => ru_go rfl rfl,
  fun x0 x1 v t st h => ru_go rfl rfl,
  fun ls st h => ru_go rfl rfl,
  fun x y ls st h => ru_if rfl rfl,
  fun v t st h => ru_go rfl rfl,
  fun a ls st h => ru_getf rfl,
  fun x0 v t st h => ru_go rfl rfl,
  fun i a ls st h => ru_zald rfl,
  fun x ls st h => ru_if rfl rfl,
  fun ls st h => ru_go rfl rfl,
  fun ls st h => ru_go rfl rfl,
  fun ls st h => ru_go rfl rfl,
  fun ls st h => ru_go rfl rfl,
  fun x0 x1 v t st h => ru_go rfl rfl,
  fun ls st h => ru_go rfl rfl,
  fun x y ls st h => ru_if rfl rfl,
  fun v t st h => ru_go rfl rfl,
  fun a ls st h => ru_getf rfl,
  fun x0 v t st h => ru_go rfl rfl,
  fun i a ls st h => ru_iald rfl,
  fun ls st h => ru_go rfl rfl,
  fun v t st h => ru_go rfl rfl,
  fun a ls st h => ru_getf rfl,
  fun x0 v t st h => ru_go rfl rfl,
  fun i a ls st h => ru_iald rfl,
  fun x ls h => ru_ret rfl rfl,
  fun x0 x1 v t st h => ru_go rfl rfl,
  fun ls st h => ru_go rfl rfl,
  fun x y ls st h => ru_if rfl rfl,
  fun x0 x1 v t st h => ru_go rfl rfl,
  fun ls st h => ru_go rfl rfl,
  fun x y ls st h => ru_if rfl rfl,
  fun v t st h => ru_go rfl rfl,
  fun x0 v t st h => ru_go rfl rfl,
  fun a0 a1 ls h => ru_inv rfl (by decide) rfl (Nat.le_of_ble_eq_true rfl),
  fun x ls st h => ru_if rfl rfl,
  fun ls st h => ru_go rfl rfl,
  fun x ls h => ru_ret rfl rfl,
  fun x0 x1 v t st h => ru_go rfl rfl,
  fun ls st h => ru_go rfl rfl,
  fun x y ls st h => ru_if rfl rfl,
  fun v t st h => ru_go rfl rfl,
  fun a0 ls h => ru_inv rfl (by decide) rfl (Nat.le_of_ble_eq_true rfl),
  fun v t st h => ru_go rfl rfl,
  fun a ls st h => ru_getf rfl,
  fun x0 v t st h => ru_go rfl rfl,
  fun i a ls st h => ru_iald rfl,
  fun ls st h => ru_go rfl rfl,
  fun x y ls st h => ru_if rfl rfl,
  fun ls st h => ru_go rfl rfl,
  fun ls st h => ru_go rfl rfl,
  fun ls st h => ru_go rfl rfl,
  fun x ls h => ru_ret rfl rfl,
  fun x0 x1 v t st h => ru_go rfl rfl,
  fun ls st h => ru_go rfl rfl,
  fun x y ls st h => ru_if rfl rfl,
  fun v t st h => ru_go rfl rfl,
  fun a ls st h => ru_getf rfl,
  fun x0 v t st h => ru_go rfl rfl,
  fun i a ls st h => ru_iald rfl,
  fun ls st h => ru_go rfl rfl,
  fun x0 x1 v t st h => ru_go rfl rfl,
  fun ls st h => ru_go rfl rfl,
  fun x y ls st h => ru_if rfl rfl,
  fun v t st h => ru_go rfl rfl,
  fun a ls st h => ru_getf rfl,
  fun x0 v t st h => ru_go rfl rfl,
  fun i a ls st h => ru_iald rfl,
  fun ls st h => ru_go rfl rfl,
  fun x0 x1 v t st h => ru_go rfl rfl,
  fun ls st h => ru_go rfl rfl,
  fun x y ls st h => ru_if rfl rfl,
  fun v t st h => ru_go rfl rfl,
  fun a ls st h => ru_getf rfl,
  fun x0 v t st h => ru_go rfl rfl,
  fun i a ls st h => ru_iald rfl,
  fun ls st h => ru_go rfl rfl,
  fun v t st h => ru_go rfl rfl,
  fun a ls st h => ru_getf rfl,
  fun x0 v t st h => ru_go rfl rfl,
  fun i a ls st h => ru_iald rfl,
  fun x ls h => ru_ret rfl rfl⟩
theorem E77 (a0 : Nat) (a1 : Int32) (a2 : Int32) {h : eH} {fs : List Value} (ha : h.1 a0 = .inr (11, fs)) : den 77 [.ref a0, .int a1, .int a2] h = ru 77 0 [some (.ref a0), some (.int a1), some (.int a2)] [] h := den_ob (Nat.le_of_ble_eq_true rfl) ha
/-! 78 X11_way -/
set_option maxRecDepth 100000 in
theorem S78 : (∀ (v : Nat) (t : eL) (st : List Value) (h : eH), ru 78 0 (some (.ref v) :: t) st h = ru 78 1 (some (.ref v) :: t) (.ref v :: st) h) ∧
  (∀ (a0 : Nat) (ls : eL) (h : eH), ru 78 1 ls [.ref a0] h = cl (den 65 [.ref a0] h) (fun v h => ru 78 4 ls (v.toList ++ []) h)) ∧
  (∀ (x0 : Option Value) (v : Int32) (t : eL) (st : List Value) (h : eH), ru 78 4 (x0 :: some (.int v) :: t) st h = ru 78 5 (x0 :: some (.int v) :: t) (.int v :: st) h) ∧
  (∀ (x : Int32) (ls : eL) (st : List Value) (h : eH), ru 78 5 ls (.int x :: st) h = if 0 ≤ x then ru 78 12 ls st h else ru 78 8 ls st h) ∧
  (∀ (ls : eL) (st : List Value) (h : eH), ru 78 8 ls st h = ru 78 9 ls (.int ((-1)) :: st) h) ∧
  (∀ (ls : eL) (st : List Value) (h : eH), ru 78 9 ls st h = ru 78 21 ls st h) ∧
  (∀ (v : Nat) (t : eL) (st : List Value) (h : eH), ru 78 12 (some (.ref v) :: t) st h = ru 78 13 (some (.ref v) :: t) (.ref v :: st) h) ∧
  (∀ (v : Nat) (t : eL) (st : List Value) (h : eH), ru 78 13 (some (.ref v) :: t) st h = ru 78 14 (some (.ref v) :: t) (.ref v :: st) h) ∧
  (∀ (a : Nat) (ls : eL) (st : List Value) (h : eH), ru 78 14 ls (.ref a :: st) h = gF (h.1 a) 11 20 (fun v => ru 78 17 ls (v :: st) h)) ∧
  (∀ (x0 : Option Value) (v : Int32) (t : eL) (st : List Value) (h : eH), ru 78 17 (x0 :: some (.int v) :: t) st h = ru 78 18 (x0 :: some (.int v) :: t) (.int v :: st) h) ∧
  (∀ (a0 : Nat) (a1 : Int32) (a2 : Int32) (ls : eL) (h : eH), ru 78 18 ls [.int a2, .int a1, .ref a0] h = cl (den 52 [.ref a0, .int a1, .int a2] h) (fun v h => ru 78 21 ls (v.toList ++ []) h)) ∧
  (∀ (x0 x1 x2 x3 x4 : Option Value) (v : Int32) (t : eL) (st : List Value) (h : eH), ru 78 21 (x0 :: x1 :: x2 :: x3 :: x4 :: t) (.int v :: st) h = ru 78 23 (x0 :: x1 :: x2 :: eKl x3 :: some (.int v) :: t) st h) ∧
  (∀ (x0 x1 x2 x3 : Option Value) (v : Int32) (t : eL) (st : List Value) (h : eH), ru 78 23 (x0 :: x1 :: x2 :: x3 :: some (.int v) :: t) st h = ru 78 25 (x0 :: x1 :: x2 :: x3 :: some (.int v) :: t) (.int v :: st) h) ∧
  (∀ (ls : eL) (st : List Value) (h : eH), ru 78 25 ls st h = ru 78 26 ls (.int ((-1)) :: st) h) ∧
  (∀ (x y : Int32) (ls : eL) (st : List Value) (h : eH), ru 78 26 ls (.int y :: .int x :: st) h = if x = y then ru 78 46 ls st h else ru 78 29 ls st h) ∧
  (∀ (v : Nat) (t : eL) (st : List Value) (h : eH), ru 78 29 (some (.ref v) :: t) st h = ru 78 30 (some (.ref v) :: t) (.ref v :: st) h) ∧
  (∀ (x0 x1 : Option Value) (v : Int32) (t : eL) (st : List Value) (h : eH), ru 78 30 (x0 :: x1 :: some (.int v) :: t) st h = ru 78 31 (x0 :: x1 :: some (.int v) :: t) (.int v :: st) h) ∧
  (∀ (a0 : Nat) (a1 : Int32) (ls : eL) (h : eH), ru 78 31 ls [.int a1, .ref a0] h = cl (den 55 [.ref a0, .int a1] h) (fun v h => ru 78 34 ls (v.toList ++ []) h)) ∧
  (∀ (x : Int32) (ls : eL) (st : List Value) (h : eH), ru 78 34 ls (.int x :: st) h = if x = 0 then ru 78 46 ls st h else ru 78 37 ls st h) ∧
  (∀ (x0 x1 x2 : Option Value) (v : Int32) (t : eL) (st : List Value) (h : eH), ru 78 37 (x0 :: x1 :: x2 :: some (.int v) :: t) st h = ru 78 38 (x0 :: x1 :: x2 :: some (.int v) :: t) (.int v :: st) h) ∧
  (∀ (x : Int32) (ls : eL) (st : List Value) (h : eH), ru 78 38 ls (.int x :: st) h = if x < 0 then ru 78 46 ls st h else ru 78 41 ls st h) ∧
  (∀ (x0 x1 x2 : Option Value) (v : Int32) (t : eL) (st : List Value) (h : eH), ru 78 41 (x0 :: x1 :: x2 :: some (.int v) :: t) st h = ru 78 42 (x0 :: x1 :: x2 :: some (.int v) :: t) (.int v :: st) h) ∧
  (∀ (ls : eL) (st : List Value) (h : eH), ru 78 42 ls st h = ru 78 43 ls (.int (nI 1) :: st) h) ∧
  (∀ (x y : Int32) (ls : eL) (st : List Value) (h : eH), ru 78 43 ls (.int y :: .int x :: st) h = if x ≤ y then ru 78 48 ls st h else ru 78 46 ls st h) ∧
  (∀ (ls : eL) (st : List Value) (h : eH), ru 78 46 ls st h = ru 78 47 ls (.int (nI 0) :: st) h) ∧
  (∀ (x : Int32) (ls : eL) (h : eH), ru 78 47 ls [.int x] h = bo (x == 0 || x == 1) (some (some (.int x), h))) ∧
  (∀ (v : Nat) (t : eL) (st : List Value) (h : eH), ru 78 48 (some (.ref v) :: t) st h = ru 78 49 (some (.ref v) :: t) (.ref v :: st) h) ∧
  (∀ (a : Nat) (ls : eL) (st : List Value) (h : eH), ru 78 49 ls (.ref a :: st) h = gF (h.1 a) 11 7 (fun v => ru 78 52 ls (v :: st) h)) ∧
  (∀ (x0 x1 : Option Value) (v : Int32) (t : eL) (st : List Value) (h : eH), ru 78 52 (x0 :: x1 :: some (.int v) :: t) st h = ru 78 53 (x0 :: x1 :: some (.int v) :: t) (.int v :: st) h) ∧
  (∀ (i : Int32) (a : Nat) (ls : eL) (st : List Value) (h : eH), ru 78 53 ls (.int i :: .ref a :: st) h = aI (h.1 a) 2 i (fun v => ru 78 54 ls (.int v :: st) h)) ∧
  (∀ (x : Int32) (ls : eL) (st : List Value) (h : eH), ru 78 54 ls (.int x :: st) h = if x = 0 then ru 78 66 ls st h else ru 78 57 ls st h) ∧
  (∀ (v : Nat) (t : eL) (st : List Value) (h : eH), ru 78 57 (some (.ref v) :: t) st h = ru 78 58 (some (.ref v) :: t) (.ref v :: st) h) ∧
  (∀ (ls : eL) (st : List Value) (h : eH), ru 78 58 ls st h = ru 78 59 ls (.int (nI 5) :: st) h) ∧
  (∀ (ls : eL) (st : List Value) (h : eH), ru 78 59 ls st h = ru 78 60 ls (.long (lN 0) :: st) h) ∧
  (∀ (a0 : Nat) (a1 : Int32) (a2 : Int64) (ls : eL) (h : eH), ru 78 60 ls [.long a2, .int a1, .ref a0] h = cl (den 12 [.ref a0, .int a1, .long a2] h) (fun v h => ru 78 63 ls (v.toList ++ []) h)) ∧
  (∀ (ls : eL) (st : List Value) (h : eH), ru 78 63 ls st h = ru 78 81 ls st h) ∧
  (∀ (v : Nat) (t : eL) (st : List Value) (h : eH), ru 78 66 (some (.ref v) :: t) st h = ru 78 67 (some (.ref v) :: t) (.ref v :: st) h) ∧
  (∀ (x0 x1 x2 x3 : Option Value) (v : Int32) (t : eL) (st : List Value) (h : eH), ru 78 67 (x0 :: x1 :: x2 :: x3 :: some (.int v) :: t) st h = ru 78 69 (x0 :: x1 :: x2 :: x3 :: some (.int v) :: t) (.int v :: st) h) ∧
  (∀ (ls : eL) (st : List Value) (h : eH), ru 78 69 ls st h = ru 78 70 ls (.int (nI 2) :: st) h) ∧
  (∀ (v : Nat) (t : eL) (st : List Value) (h : eH), ru 78 70 (some (.ref v) :: t) st h = ru 78 71 (some (.ref v) :: t) (.ref v :: st) h) ∧
  (∀ (x0 x1 : Option Value) (v : Int32) (t : eL) (st : List Value) (h : eH), ru 78 71 (x0 :: x1 :: some (.int v) :: t) st h = ru 78 72 (x0 :: x1 :: some (.int v) :: t) (.int v :: st) h) ∧
  (∀ (a0 : Nat) (a1 : Int32) (u0 : Int32) (u1 : Int32) (u2 : Nat) (ls : eL) (h : eH), ru 78 72 ls [.int a1, .ref a0, .int u0, .int u1, .ref u2] h = cl (den 13 [.ref a0, .int a1] h) (fun v h => ru 78 75 ls (v.toList ++ [.int u0, .int u1, .ref u2]) h)) ∧
  (∀ (x y : Int32) (ls : eL) (st : List Value) (h : eH), ru 78 75 ls (.int y :: .int x :: st) h = ru 78 76 ls (.int (x * y) :: st) h) ∧
  (∀ (x0 x1 x2 : Option Value) (v : Int32) (t : eL) (st : List Value) (h : eH), ru 78 76 (x0 :: x1 :: x2 :: some (.int v) :: t) st h = ru 78 77 (x0 :: x1 :: x2 :: some (.int v) :: t) (.int v :: st) h) ∧
  (∀ (x y : Int32) (ls : eL) (st : List Value) (h : eH), ru 78 77 ls (.int y :: .int x :: st) h = ru 78 78 ls (.int (x + y) :: st) h) ∧
  (∀ (a0 : Nat) (a1 : Int32) (a2 : Int32) (ls : eL) (h : eH), ru 78 78 ls [.int a2, .int a1, .ref a0] h = cl (den 22 [.ref a0, .int a1, .int a2] h) (fun v h => ru 78 81 ls (v.toList ++ []) h)) ∧
  (∀ (v : Nat) (t : eL) (st : List Value) (h : eH), ru 78 81 (some (.ref v) :: t) st h = ru 78 82 (some (.ref v) :: t) (.ref v :: st) h) ∧
  (∀ (ls : eL) (st : List Value) (h : eH), ru 78 82 ls st h = ru 78 83 ls (.int (nI 5) :: st) h) ∧
  (∀ (ls : eL) (st : List Value) (h : eH), ru 78 83 ls st h = ru 78 85 ls (.int (nI 8) :: st) h) ∧
  (∀ (a0 : Nat) (a1 : Int32) (a2 : Int32) (ls : eL) (h : eH), ru 78 85 ls [.int a2, .int a1, .ref a0] h = cl (den 38 [.ref a0, .int a1, .int a2] h) (fun v h => ru 78 88 ls (v.toList ++ []) h)) ∧
  (∀ (ls : eL) (st : List Value) (h : eH), ru 78 88 ls st h = ru 78 89 ls (.int (nI 1) :: st) h) ∧
  (∀ (x : Int32) (ls : eL) (h : eH), ru 78 89 ls [.int x] h = bo (x == 0 || x == 1) (some (some (.int x), h))) := ⟨fun v t st h => ru_go rfl rfl,
  fun a0 ls h => ru_inv rfl (by decide) rfl (Nat.le_of_ble_eq_true rfl),
  fun x0 v t st h => ru_go rfl rfl,
  fun x ls st h => ru_if rfl rfl,
  fun ls st h => ru_go rfl rfl,
  fun ls st h => ru_go rfl rfl,
  fun v t st h => ru_go rfl rfl,
  fun v t st h => ru_go rfl rfl,
  fun a ls st h => ru_getf rfl,
  fun x0 v t st h => ru_go rfl rfl,
  fun a0 a1 a2 ls h => ru_inv rfl (by decide) rfl (Nat.le_of_ble_eq_true rfl),
  fun x0 x1 x2 x3 x4 v t st h => ru_go rfl rfl,
  fun x0 x1 x2 x3 v t st h => ru_go rfl rfl,
  fun ls st h => ru_go rfl rfl,
  fun x y ls st h => ru_if rfl rfl,
  fun v t st h => ru_go rfl rfl,
  fun x0 x1 v t st h => ru_go rfl rfl,
  fun a0 a1 ls h => ru_inv rfl (by decide) rfl (Nat.le_of_ble_eq_true rfl),
  fun x ls st h => ru_if rfl rfl,
  fun x0 x1 x2 v t st h => ru_go rfl rfl,
  fun x ls st h => ru_if rfl rfl,
  fun x0 x1 x2 v t st h => ru_go rfl rfl,
  fun ls st h => ru_go rfl rfl,
  fun x y ls st h => ru_if rfl rfl,
  fun ls st h => ru_go rfl rfl,
  fun x ls h => ru_bret rfl rfl,
  fun v t st h => ru_go rfl rfl,
  fun a ls st h => ru_getf rfl,
  fun x0 x1 v t st h => ru_go rfl rfl,
  fun i a ls st h => ru_zald rfl,
  fun x ls st h => ru_if rfl rfl,
  fun v t st h => ru_go rfl rfl,
  fun ls st h => ru_go rfl rfl,
  fun ls st h => ru_go rfl rfl,
  fun a0 a1 a2 ls h => ru_inv rfl (by decide) rfl (Nat.le_of_ble_eq_true rfl),
  fun ls st h => ru_go rfl rfl,
  fun v t st h => ru_go rfl rfl,
  fun x0 x1 x2 x3 v t st h => ru_go rfl rfl,
  fun ls st h => ru_go rfl rfl,
  fun v t st h => ru_go rfl rfl,
  fun x0 x1 v t st h => ru_go rfl rfl,
  fun a0 a1 u0 u1 u2 ls h => ru_inv rfl (by decide) rfl (Nat.le_of_ble_eq_true rfl),
  fun x y ls st h => ru_go rfl rfl,
  fun x0 x1 x2 v t st h => ru_go rfl rfl,
  fun x y ls st h => ru_go rfl rfl,
  fun a0 a1 a2 ls h => ru_inv rfl (by decide) rfl (Nat.le_of_ble_eq_true rfl),
  fun v t st h => ru_go rfl rfl,
  fun ls st h => ru_go rfl rfl,
  fun ls st h => ru_go rfl rfl,
  fun a0 a1 a2 ls h => ru_inv rfl (by decide) rfl (Nat.le_of_ble_eq_true rfl),
  fun ls st h => ru_go rfl rfl,
  fun x ls h => ru_bret rfl rfl⟩
theorem E78 (a0 : Nat) (a1 : Int32) (a2 : Int32) (a3 : Int32) {h : eH} {fs : List Value} (ha : h.1 a0 = .inr (11, fs)) : den 78 [.ref a0, .int a1, .int a2, .int a3] h = ru 78 0 [some (.ref a0), some (.int a1), some (.int a2), some (.int a3), none] [] h := den_ob (Nat.le_of_ble_eq_true rfl) ha
/-! 79 X11_ways -/
set_option maxRecDepth 100000 in
theorem S79 : (∀ (v : Nat) (t : eL) (st : List Value) (h : eH), ru 79 0 (some (.ref v) :: t) st h = ru 79 1 (some (.ref v) :: t) (.ref v :: st) h) ∧
  (∀ (a0 : Nat) (ls : eL) (h : eH), ru 79 1 ls [.ref a0] h = cl (den 65 [.ref a0] h) (fun v h => ru 79 4 ls (v.toList ++ []) h)) ∧
  (∀ (v : Nat) (t : eL) (st : List Value) (h : eH), ru 79 4 (some (.ref v) :: t) st h = ru 79 5 (some (.ref v) :: t) (.ref v :: st) h) ∧
  (∀ (a : Nat) (ls : eL) (st : List Value) (h : eH), ru 79 5 ls (.ref a :: st) h = gF (h.1 a) 11 20 (fun v => ru 79 8 ls (v :: st) h)) ∧
  (∀ (v : Nat) (t : eL) (st : List Value) (h : eH), ru 79 8 (some (.ref v) :: t) st h = ru 79 9 (some (.ref v) :: t) (.ref v :: st) h) ∧
  (∀ (a : Nat) (ls : eL) (st : List Value) (h : eH), ru 79 9 ls (.ref a :: st) h = gF (h.1 a) 11 21 (fun v => ru 79 12 ls (v :: st) h)) ∧
  (∀ (x y : Int32) (ls : eL) (st : List Value) (h : eH), ru 79 12 ls (.int y :: .int x :: st) h = ru 79 13 ls (.int (x - y) :: st) h) ∧
  (∀ (x : Int32) (ls : eL) (h : eH), ru 79 13 ls [.int x] h = some (some (.int x), h)) := ⟨fun v t st h => ru_go rfl rfl,
  fun a0 ls h => ru_inv rfl (by decide) rfl (Nat.le_of_ble_eq_true rfl),
  fun v t st h => ru_go rfl rfl,
  fun a ls st h => ru_getf rfl,
  fun v t st h => ru_go rfl rfl,
  fun a ls st h => ru_getf rfl,
  fun x y ls st h => ru_go rfl rfl,
  fun x ls h => ru_ret rfl rfl⟩
theorem E79 (a0 : Nat) {h : eH} {fs : List Value} (ha : h.1 a0 = .inr (11, fs)) : den 79 [.ref a0] h = ru 79 0 [some (.ref a0)] [] h := den_ob (Nat.le_of_ble_eq_true rfl) ha
/-! 80 X11_write -/
set_option maxRecDepth 100000 in
theorem S80 : (∀ (x0 : Option Value) (v : Int32) (t : eL) (st : List Value) (h : eH), ru 80 0 (x0 :: some (.int v) :: t) st h = ru 80 1 (x0 :: some (.int v) :: t) (.int v :: st) h) ∧
  (∀ (a0 : Int32) (ls : eL) (h : eH), ru 80 1 ls [.int a0] h = cl (den 57 [.int a0] h) (fun v h => ru 80 4 ls (v.toList ++ []) h)) ∧
  (∀ (x : Int32) (ls : eL) (st : List Value) (h : eH), ru 80 4 ls (.int x :: st) h = if x = 0 then ru 80 7 ls st h else ru 80 10 ls st h) ∧
  (∀ (ls : eL) (st : List Value) (h : eH), ru 80 7 ls st h = ru 80 9 ls (.int ((-2)) :: st) h) ∧
  (∀ (x : Int32) (ls : eL) (h : eH), ru 80 9 ls [.int x] h = some (some (.int x), h)) ∧
  (∀ (v : Nat) (t : eL) (st : List Value) (h : eH), ru 80 10 (some (.ref v) :: t) st h = ru 80 11 (some (.ref v) :: t) (.ref v :: st) h) ∧
  (∀ (a : Nat) (ls : eL) (st : List Value) (h : eH), ru 80 11 ls (.ref a :: st) h = gF (h.1 a) 11 1 (fun v => ru 80 14 ls (v :: st) h)) ∧
  (∀ (x0 : Option Value) (v : Int32) (t : eL) (st : List Value) (h : eH), ru 80 14 (x0 :: some (.int v) :: t) st h = ru 80 15 (x0 :: some (.int v) :: t) (.int v :: st) h) ∧
  (∀ (i : Int32) (a : Nat) (ls : eL) (st : List Value) (h : eH), ru 80 15 ls (.int i :: .ref a :: st) h = aI (h.1 a) 0 i (fun v => ru 80 16 ls (.int v :: st) h)) ∧
  (∀ (x : Int32) (ls : eL) (st : List Value) (h : eH), ru 80 16 ls (.int x :: st) h = if x = 0 then ru 80 19 ls st h else ru 80 22 ls st h) ∧
  (∀ (ls : eL) (st : List Value) (h : eH), ru 80 19 ls st h = ru 80 21 ls (.int ((-5)) :: st) h) ∧
  (∀ (x : Int32) (ls : eL) (h : eH), ru 80 21 ls [.int x] h = some (some (.int x), h)) ∧
  (∀ (x0 x1 : Option Value) (v : Int32) (t : eL) (st : List Value) (h : eH), ru 80 22 (x0 :: x1 :: some (.int v) :: t) st h = ru 80 23 (x0 :: x1 :: some (.int v) :: t) (.int v :: st) h) ∧
  (∀ (x : Int32) (ls : eL) (st : List Value) (h : eH), ru 80 23 ls (.int x :: st) h = if x < 0 then ru 80 38 ls st h else ru 80 26 ls st h) ∧
  (∀ (x0 x1 : Option Value) (v : Int32) (t : eL) (st : List Value) (h : eH), ru 80 26 (x0 :: x1 :: some (.int v) :: t) st h = ru 80 27 (x0 :: x1 :: some (.int v) :: t) (.int v :: st) h) ∧
  (∀ (v : Nat) (t : eL) (st : List Value) (h : eH), ru 80 27 (some (.ref v) :: t) st h = ru 80 28 (some (.ref v) :: t) (.ref v :: st) h) ∧
  (∀ (a : Nat) (ls : eL) (st : List Value) (h : eH), ru 80 28 ls (.ref a :: st) h = gF (h.1 a) 11 1 (fun v => ru 80 31 ls (v :: st) h)) ∧
  (∀ (x0 : Option Value) (v : Int32) (t : eL) (st : List Value) (h : eH), ru 80 31 (x0 :: some (.int v) :: t) st h = ru 80 32 (x0 :: some (.int v) :: t) (.int v :: st) h) ∧
  (∀ (i : Int32) (a : Nat) (ls : eL) (st : List Value) (h : eH), ru 80 32 ls (.int i :: .ref a :: st) h = aI (h.1 a) 0 i (fun v => ru 80 33 ls (.int v :: st) h)) ∧
  (∀ (ls : eL) (st : List Value) (h : eH), ru 80 33 ls st h = ru 80 34 ls (.int (nI 1) :: st) h) ∧
  (∀ (x y : Int32) (ls : eL) (st : List Value) (h : eH), ru 80 34 ls (.int y :: .int x :: st) h = ru 80 35 ls (.int (x - y) :: st) h) ∧
  (∀ (x y : Int32) (ls : eL) (st : List Value) (h : eH), ru 80 35 ls (.int y :: .int x :: st) h = if x < y then ru 80 41 ls st h else ru 80 38 ls st h) ∧
  (∀ (ls : eL) (st : List Value) (h : eH), ru 80 38 ls st h = ru 80 40 ls (.int ((-6)) :: st) h) ∧
  (∀ (x : Int32) (ls : eL) (h : eH), ru 80 40 ls [.int x] h = some (some (.int x), h)) ∧
  (∀ (v : Nat) (t : eL) (st : List Value) (h : eH), ru 80 41 (some (.ref v) :: t) st h = ru 80 42 (some (.ref v) :: t) (.ref v :: st) h) ∧
  (∀ (a : Nat) (ls : eL) (st : List Value) (h : eH), ru 80 42 ls (.ref a :: st) h = gF (h.1 a) 11 2 (fun v => ru 80 45 ls (v :: st) h)) ∧
  (∀ (x0 : Option Value) (v : Int32) (t : eL) (st : List Value) (h : eH), ru 80 45 (x0 :: some (.int v) :: t) st h = ru 80 46 (x0 :: some (.int v) :: t) (.int v :: st) h) ∧
  (∀ (i : Int32) (a : Nat) (ls : eL) (st : List Value) (h : eH), ru 80 46 ls (.int i :: .ref a :: st) h = aI (h.1 a) 0 i (fun v => ru 80 47 ls (.int v :: st) h)) ∧
  (∀ (x0 x1 x2 x3 x4 x5 : Option Value) (v : Int32) (t : eL) (st : List Value) (h : eH), ru 80 47 (x0 :: x1 :: x2 :: x3 :: x4 :: x5 :: t) (.int v :: st) h = ru 80 49 (x0 :: x1 :: x2 :: x3 :: eKl x4 :: some (.int v) :: t) st h) ∧
  (∀ (v : Nat) (t : eL) (st : List Value) (h : eH), ru 80 49 (some (.ref v) :: t) st h = ru 80 50 (some (.ref v) :: t) (.ref v :: st) h) ∧
  (∀ (a : Nat) (ls : eL) (st : List Value) (h : eH), ru 80 50 ls (.ref a :: st) h = gF (h.1 a) 11 3 (fun v => ru 80 53 ls (v :: st) h)) ∧
  (∀ (ls : eL) (st : List Value) (h : eH), ru 80 53 ls st h = ru 80 55 ls (.int (nI 60) :: st) h) ∧
  (∀ (x0 : Option Value) (v : Int32) (t : eL) (st : List Value) (h : eH), ru 80 55 (x0 :: some (.int v) :: t) st h = ru 80 56 (x0 :: some (.int v) :: t) (.int v :: st) h) ∧
  (∀ (x y : Int32) (ls : eL) (st : List Value) (h : eH), ru 80 56 ls (.int y :: .int x :: st) h = ru 80 57 ls (.int (x * y) :: st) h) ∧
  (∀ (x0 x1 : Option Value) (v : Int32) (t : eL) (st : List Value) (h : eH), ru 80 57 (x0 :: x1 :: some (.int v) :: t) st h = ru 80 58 (x0 :: x1 :: some (.int v) :: t) (.int v :: st) h) ∧
  (∀ (x y : Int32) (ls : eL) (st : List Value) (h : eH), ru 80 58 ls (.int y :: .int x :: st) h = ru 80 59 ls (.int (x + y) :: st) h) ∧
  (∀ (x0 x1 x2 x3 x4 : Option Value) (v : Int32) (t : eL) (st : List Value) (h : eH), ru 80 59 (x0 :: x1 :: x2 :: x3 :: x4 :: some (.int v) :: t) st h = ru 80 61 (x0 :: x1 :: x2 :: x3 :: x4 :: some (.int v) :: t) (.int v :: st) h) ∧
  (∀ (x : Int32) (ls : eL) (st : List Value) (h : eH), ru 80 61 ls (.int x :: st) h = if x = 0 then ru 80 64 ls st h else ru 80 71 ls st h) ∧
  (∀ (x0 x1 x2 : Option Value) (v : Int64) (t : eL) (st : List Value) (h : eH), ru 80 64 (x0 :: x1 :: x2 :: some (.long v) :: t) st h = ru 80 65 (x0 :: x1 :: x2 :: some (.long v) :: t) (.long v :: st) h) ∧
  (∀ (x : Int64) (ls : eL) (st : List Value) (h : eH), ru 80 65 ls (.long x :: st) h = ru 80 66 ls (.int (x.toInt32) :: st) h) ∧
  (∀ (x : Int32) (ls : eL) (st : List Value) (h : eH), ru 80 66 ls (.int x :: st) h = ru 80 67 ls (.int (x.toInt8.toInt32) :: st) h) ∧
  (∀ (x : Int32) (ls : eL) (st : List Value) (h : eH), ru 80 67 ls (.int x :: st) h = ru 80 68 ls (.long (x.toInt64) :: st) h) ∧
  (∀ (ls : eL) (st : List Value) (h : eH), ru 80 68 ls st h = ru 80 97 ls st h) ∧
  (∀ (x0 x1 x2 x3 x4 : Option Value) (v : Int32) (t : eL) (st : List Value) (h : eH), ru 80 71 (x0 :: x1 :: x2 :: x3 :: x4 :: some (.int v) :: t) st h = ru 80 73 (x0 :: x1 :: x2 :: x3 :: x4 :: some (.int v) :: t) (.int v :: st) h) ∧
  (∀ (ls : eL) (st : List Value) (h : eH), ru 80 73 ls st h = ru 80 74 ls (.int (nI 1) :: st) h) ∧
  (∀ (x y : Int32) (ls : eL) (st : List Value) (h : eH), ru 80 74 ls (.int y :: .int x :: st) h = if x = y then ru 80 77 ls st h else ru 80 84 ls st h) ∧
  (∀ (x0 x1 x2 : Option Value) (v : Int64) (t : eL) (st : List Value) (h : eH), ru 80 77 (x0 :: x1 :: x2 :: some (.long v) :: t) st h = ru 80 78 (x0 :: x1 :: x2 :: some (.long v) :: t) (.long v :: st) h) ∧
  (∀ (x : Int64) (ls : eL) (st : List Value) (h : eH), ru 80 78 ls (.long x :: st) h = ru 80 79 ls (.int (x.toInt32) :: st) h) ∧
  (∀ (x : Int32) (ls : eL) (st : List Value) (h : eH), ru 80 79 ls (.int x :: st) h = ru 80 80 ls (.int (x.toInt16.toInt32) :: st) h) ∧
  (∀ (x : Int32) (ls : eL) (st : List Value) (h : eH), ru 80 80 ls (.int x :: st) h = ru 80 81 ls (.long (x.toInt64) :: st) h) ∧
  (∀ (ls : eL) (st : List Value) (h : eH), ru 80 81 ls st h = ru 80 97 ls st h) ∧
  (∀ (x0 x1 x2 x3 x4 : Option Value) (v : Int32) (t : eL) (st : List Value) (h : eH), ru 80 84 (x0 :: x1 :: x2 :: x3 :: x4 :: some (.int v) :: t) st h = ru 80 86 (x0 :: x1 :: x2 :: x3 :: x4 :: some (.int v) :: t) (.int v :: st) h) ∧
  (∀ (ls : eL) (st : List Value) (h : eH), ru 80 86 ls st h = ru 80 87 ls (.int (nI 2) :: st) h) ∧
  (∀ (x y : Int32) (ls : eL) (st : List Value) (h : eH), ru 80 87 ls (.int y :: .int x :: st) h = if x = y then ru 80 90 ls st h else ru 80 96 ls st h) ∧
  (∀ (x0 x1 x2 : Option Value) (v : Int64) (t : eL) (st : List Value) (h : eH), ru 80 90 (x0 :: x1 :: x2 :: some (.long v) :: t) st h = ru 80 91 (x0 :: x1 :: x2 :: some (.long v) :: t) (.long v :: st) h) ∧
  (∀ (x : Int64) (ls : eL) (st : List Value) (h : eH), ru 80 91 ls (.long x :: st) h = ru 80 92 ls (.int (x.toInt32) :: st) h) ∧
  (∀ (x : Int32) (ls : eL) (st : List Value) (h : eH), ru 80 92 ls (.int x :: st) h = ru 80 93 ls (.long (x.toInt64) :: st) h) ∧
  (∀ (ls : eL) (st : List Value) (h : eH), ru 80 93 ls st h = ru 80 97 ls st h) ∧
  (∀ (x0 x1 x2 : Option Value) (v : Int64) (t : eL) (st : List Value) (h : eH), ru 80 96 (x0 :: x1 :: x2 :: some (.long v) :: t) st h = ru 80 97 (x0 :: x1 :: x2 :: some (.long v) :: t) (.long v :: st) h) ∧
  (∀ (x : Int64) (i : Int32) (a : Nat) (ls : eL) (st : List Value) (h : eH), ru 80 97 ls (.long x :: .int i :: .ref a :: st) h = wL (h.1 a) i x (fun e => ru 80 98 ls st (eUp h a e))) ∧
  (∀ (ls : eL) (st : List Value) (h : eH), ru 80 98 ls st h = ru 80 99 ls (.int (nI 0) :: st) h) ∧
  (∀ (x : Int32) (ls : eL) (h : eH), ru 80 99 ls [.int x] h = some (some (.int x), h)) := ⟨fun x0 v t st h => ru_go rfl rfl,
  fun a0 ls h => ru_inv rfl (by decide) rfl (Nat.le_of_ble_eq_true rfl),
  fun x ls st h => ru_if rfl rfl,
  fun ls st h => ru_go rfl rfl,
  fun x ls h => ru_ret rfl rfl,
  fun v t st h => ru_go rfl rfl,
  fun a ls st h => ru_getf rfl,
  fun x0 v t st h => ru_go rfl rfl,
  fun i a ls st h => ru_iald rfl,
  fun x ls st h => ru_if rfl rfl,
  fun ls st h => ru_go rfl rfl,
  fun x ls h => ru_ret rfl rfl,
  fun x0 x1 v t st h => ru_go rfl rfl,
  fun x ls st h => ru_if rfl rfl,
  fun x0 x1 v t st h => ru_go rfl rfl,
  fun v t st h => ru_go rfl rfl,
  fun a ls st h => ru_getf rfl,
  fun x0 v t st h => ru_go rfl rfl,
  fun i a ls st h => ru_iald rfl,
  fun ls st h => ru_go rfl rfl,
  fun x y ls st h => ru_go rfl rfl,
  fun x y ls st h => ru_if rfl rfl,
  fun ls st h => ru_go rfl rfl,
  fun x ls h => ru_ret rfl rfl,
  fun v t st h => ru_go rfl rfl,
  fun a ls st h => ru_getf rfl,
  fun x0 v t st h => ru_go rfl rfl,
  fun i a ls st h => ru_iald rfl,
  fun x0 x1 x2 x3 x4 x5 v t st h => ru_go rfl rfl,
  fun v t st h => ru_go rfl rfl,
  fun a ls st h => ru_getf rfl,
  fun ls st h => ru_go rfl rfl,
  fun x0 v t st h => ru_go rfl rfl,
  fun x y ls st h => ru_go rfl rfl,
  fun x0 x1 v t st h => ru_go rfl rfl,
  fun x y ls st h => ru_go rfl rfl,
  fun x0 x1 x2 x3 x4 v t st h => ru_go rfl rfl,
  fun x ls st h => ru_if rfl rfl,
  fun x0 x1 x2 v t st h => ru_go rfl rfl,
  fun x ls st h => ru_go rfl rfl,
  fun x ls st h => ru_go rfl rfl,
  fun x ls st h => ru_go rfl rfl,
  fun ls st h => ru_go rfl rfl,
  fun x0 x1 x2 x3 x4 v t st h => ru_go rfl rfl,
  fun ls st h => ru_go rfl rfl,
  fun x y ls st h => ru_if rfl rfl,
  fun x0 x1 x2 v t st h => ru_go rfl rfl,
  fun x ls st h => ru_go rfl rfl,
  fun x ls st h => ru_go rfl rfl,
  fun x ls st h => ru_go rfl rfl,
  fun ls st h => ru_go rfl rfl,
  fun x0 x1 x2 x3 x4 v t st h => ru_go rfl rfl,
  fun ls st h => ru_go rfl rfl,
  fun x y ls st h => ru_if rfl rfl,
  fun x0 x1 x2 v t st h => ru_go rfl rfl,
  fun x ls st h => ru_go rfl rfl,
  fun x ls st h => ru_go rfl rfl,
  fun ls st h => ru_go rfl rfl,
  fun x0 x1 x2 v t st h => ru_go rfl rfl,
  fun x i a ls st h => ru_last rfl,
  fun ls st h => ru_go rfl rfl,
  fun x ls h => ru_ret rfl rfl⟩
theorem E80 (a0 : Nat) (a1 : Int32) (a2 : Int32) (a3 : Int64) {h : eH} {fs : List Value} (ha : h.1 a0 = .inr (11, fs)) : den 80 [.ref a0, .int a1, .int a2, .long a3] h = ru 80 0 [some (.ref a0), some (.int a1), some (.int a2), some (.long a3), none, none] [] h := den_ob (Nat.le_of_ble_eq_true rfl) ha
/-! 81 X0_allReached -/
set_option maxRecDepth 100000 in
theorem H81_4 : (∀ (x0 x1 : Option Value) (v : Int32) (t : eL) (st : List Value) (h : eH), ru 81 4 (x0 :: x1 :: some (.int v) :: t) st h = ru 81 5 (x0 :: x1 :: some (.int v) :: t) (.int v :: st) h) := fun x0 x1 v t st h => ru_go rfl rfl
set_option maxRecDepth 100000 in
theorem H81_37 : (∀ (x0 : Option Value) (v : Int32) (t : eL) (st : List Value) (h : eH), ru 81 37 (x0 :: some (.int v) :: t) st h = ru 81 38 (x0 :: some (.int v) :: t) (.int v :: st) h) := fun x0 v t st h => ru_go rfl rfl
set_option maxRecDepth 100000 in
theorem S81 : (∀ (ls : eL) (st : List Value) (h : eH), ru 81 0 ls st h = ru 81 1 ls (.int (nI 1) :: st) h) ∧
  (∀ (x0 x1 : Option Value) (v : Int32) (t : eL) (st : List Value) (h : eH), ru 81 1 (x0 :: x1 :: t) (.int v :: st) h = ru 81 2 (eKl x0 :: some (.int v) :: t) st h) ∧
  (∀ (ls : eL) (st : List Value) (h : eH), ru 81 2 ls st h = ru 81 3 ls (.int (nI 0) :: st) h) ∧
  (∀ (x0 x1 x2 : Option Value) (v : Int32) (t : eL) (st : List Value) (h : eH), ru 81 3 (x0 :: x1 :: x2 :: t) (.int v :: st) h = ru 81 4 (x0 :: eKl x1 :: some (.int v) :: t) st h) ∧
  (∀ (v : Nat) (t : eL) (st : List Value) (h : eH), ru 81 5 (some (.ref v) :: t) st h = ru 81 6 (some (.ref v) :: t) (.ref v :: st) h) ∧
  (∀ (a : Nat) (ls : eL) (st : List Value) (h : eH), ru 81 6 ls (.ref a :: st) h = gF (h.1 a) 0 7 (fun v => ru 81 9 ls (v :: st) h)) ∧
  (∀ (x y : Int32) (ls : eL) (st : List Value) (h : eH), ru 81 9 ls (.int y :: .int x :: st) h = if y ≤ x then ru 81 37 ls st h else ru 81 12 ls st h) ∧
  (∀ (x0 : Option Value) (v : Int32) (t : eL) (st : List Value) (h : eH), ru 81 12 (x0 :: some (.int v) :: t) st h = ru 81 13 (x0 :: some (.int v) :: t) (.int v :: st) h) ∧
  (∀ (x : Int32) (ls : eL) (st : List Value) (h : eH), ru 81 13 ls (.int x :: st) h = if x = 0 then ru 81 29 ls st h else ru 81 16 ls st h) ∧
  (∀ (v : Nat) (t : eL) (st : List Value) (h : eH), ru 81 16 (some (.ref v) :: t) st h = ru 81 17 (some (.ref v) :: t) (.ref v :: st) h) ∧
  (∀ (a : Nat) (ls : eL) (st : List Value) (h : eH), ru 81 17 ls (.ref a :: st) h = gF (h.1 a) 0 6 (fun v => ru 81 20 ls (v :: st) h)) ∧
  (∀ (x0 x1 : Option Value) (v : Int32) (t : eL) (st : List Value) (h : eH), ru 81 20 (x0 :: x1 :: some (.int v) :: t) st h = ru 81 21 (x0 :: x1 :: some (.int v) :: t) (.int v :: st) h) ∧
  (∀ (i : Int32) (a : Nat) (ls : eL) (st : List Value) (h : eH), ru 81 21 ls (.int i :: .ref a :: st) h = aI (h.1 a) 2 i (fun v => ru 81 22 ls (.int v :: st) h)) ∧
  (∀ (x : Int32) (ls : eL) (st : List Value) (h : eH), ru 81 22 ls (.int x :: st) h = if x = 0 then ru 81 29 ls st h else ru 81 25 ls st h) ∧
  (∀ (ls : eL) (st : List Value) (h : eH), ru 81 25 ls st h = ru 81 26 ls (.int (nI 1) :: st) h) ∧
  (∀ (ls : eL) (st : List Value) (h : eH), ru 81 26 ls st h = ru 81 30 ls st h) ∧
  (∀ (ls : eL) (st : List Value) (h : eH), ru 81 29 ls st h = ru 81 30 ls (.int (nI 0) :: st) h) ∧
  (∀ (x0 x1 : Option Value) (v : Int32) (t : eL) (st : List Value) (h : eH), ru 81 30 (x0 :: x1 :: t) (.int v :: st) h = ru 81 31 (eKl x0 :: some (.int v) :: t) st h) ∧
  (∀ (x0 x1 : Option Value) (v : Int32) (t : eL) (st : List Value) (h : eH), ru 81 31 (x0 :: x1 :: some (.int v) :: t) st h = ru 81 34 (x0 :: eKl x1 :: some (.int (v + 1)) :: t) st h) ∧
  (∀ (ls : eL) (st : List Value) (h : eH), ru 81 34 ls st h = ru 81 4 ls st h) ∧
  (∀ (x : Int32) (ls : eL) (h : eH), ru 81 38 ls [.int x] h = bo (x == 0 || x == 1) (some (some (.int x), h))) := ⟨fun ls st h => ru_go rfl rfl,
  fun x0 x1 v t st h => ru_go rfl rfl,
  fun ls st h => ru_go rfl rfl,
  fun x0 x1 x2 v t st h => ru_go rfl rfl,
  fun v t st h => ru_go rfl rfl,
  fun a ls st h => ru_getf rfl,
  fun x y ls st h => ru_if rfl rfl,
  fun x0 v t st h => ru_go rfl rfl,
  fun x ls st h => ru_if rfl rfl,
  fun v t st h => ru_go rfl rfl,
  fun a ls st h => ru_getf rfl,
  fun x0 x1 v t st h => ru_go rfl rfl,
  fun i a ls st h => ru_zald rfl,
  fun x ls st h => ru_if rfl rfl,
  fun ls st h => ru_go rfl rfl,
  fun ls st h => ru_go rfl rfl,
  fun ls st h => ru_go rfl rfl,
  fun x0 x1 v t st h => ru_go rfl rfl,
  fun x0 x1 v t st h => ru_go rfl rfl,
  fun ls st h => ru_go rfl rfl,
  fun x ls h => ru_bret rfl rfl⟩
theorem E81 (a0 : Nat) {h : eH} {fs : List Value} (ha : h.1 a0 = .inr (0, fs)) : den 81 [.ref a0] h = ru 81 0 [some (.ref a0), none, none] [] h := den_ob (Nat.le_of_ble_eq_true rfl) ha
/-! 82 X9_clear -/
set_option maxRecDepth 100000 in
theorem S82 : (∀ (v : Nat) (t : eL) (st : List Value) (h : eH), ru 82 0 (some (.ref v) :: t) st h = ru 82 1 (some (.ref v) :: t) (.ref v :: st) h) ∧
  (∀ (ls : eL) (st : List Value) (h : eH), ru 82 1 ls st h = ru 82 2 ls (.int (nI 0) :: st) h) ∧
  (∀ (v : Int32) (a : Nat) (ls : eL) (st : List Value) (h : eH), ru 82 2 ls (.int v :: .ref a :: st) h = pF (h.1 a) 9 1 (.int v) (fun e => ru 82 5 ls st (eUp h a e))) ∧
  (∀ (v : Nat) (t : eL) (st : List Value) (h : eH), ru 82 5 (some (.ref v) :: t) st h = ru 82 6 (some (.ref v) :: t) (.ref v :: st) h) ∧
  (∀ (ls : eL) (st : List Value) (h : eH), ru 82 6 ls st h = ru 82 7 ls (.int (nI 0) :: st) h) ∧
  (∀ (v : Int32) (a : Nat) (ls : eL) (st : List Value) (h : eH), ru 82 7 ls (.int v :: .ref a :: st) h = pF (h.1 a) 9 2 (.int v) (fun e => ru 82 10 ls st (eUp h a e))) ∧
  (∀ (ls : eL) (h : eH), ru 82 10 ls [] h = some (none, h)) := ⟨fun v t st h => ru_go rfl rfl,
  fun ls st h => ru_go rfl rfl,
  fun v a ls st h => ru_putf rfl,
  fun v t st h => ru_go rfl rfl,
  fun ls st h => ru_go rfl rfl,
  fun v a ls st h => ru_putf rfl,
  fun ls h => ru_ret rfl rfl⟩
theorem E82 (a0 : Nat) {h : eH} {fs : List Value} (ha : h.1 a0 = .inr (9, fs)) : den 82 [.ref a0] h = ru 82 0 [some (.ref a0)] [] h := den_ob (Nat.le_of_ble_eq_true rfl) ha
/-! 83 X5_freeColumn -/
set_option maxRecDepth 100000 in
theorem H83_4 : (∀ (x0 x1 x2 : Option Value) (v : Int32) (t : eL) (st : List Value) (h : eH), ru 83 4 (x0 :: x1 :: x2 :: some (.int v) :: t) st h = ru 83 5 (x0 :: x1 :: x2 :: some (.int v) :: t) (.int v :: st) h) := fun x0 x1 x2 v t st h => ru_go rfl rfl
set_option maxRecDepth 100000 in
theorem H83_38 : (∀ (ls : eL) (st : List Value) (h : eH), ru 83 38 ls st h = ru 83 39 ls (.int ((-1)) :: st) h) := fun ls st h => ru_go rfl rfl
set_option maxRecDepth 100000 in
theorem S83 : (∀ (ls : eL) (st : List Value) (h : eH), ru 83 0 ls st h = ru 83 1 ls (.int (nI 0) :: st) h) ∧
  (∀ (x0 x1 x2 : Option Value) (v : Int32) (t : eL) (st : List Value) (h : eH), ru 83 1 (x0 :: x1 :: x2 :: t) (.int v :: st) h = ru 83 2 (x0 :: eKl x1 :: some (.int v) :: t) st h) ∧
  (∀ (ls : eL) (st : List Value) (h : eH), ru 83 2 ls st h = ru 83 3 ls (.int (nI 0) :: st) h) ∧
  (∀ (x0 x1 x2 x3 : Option Value) (v : Int32) (t : eL) (st : List Value) (h : eH), ru 83 3 (x0 :: x1 :: x2 :: x3 :: t) (.int v :: st) h = ru 83 4 (x0 :: x1 :: eKl x2 :: some (.int v) :: t) st h) ∧
  (∀ (v : Nat) (t : eL) (st : List Value) (h : eH), ru 83 5 (some (.ref v) :: t) st h = ru 83 6 (some (.ref v) :: t) (.ref v :: st) h) ∧
  (∀ (a : Nat) (ls : eL) (st : List Value) (h : eH), ru 83 6 ls (.ref a :: st) h = gF (h.1 a) 5 7 (fun v => ru 83 9 ls (v :: st) h)) ∧
  (∀ (x y : Int32) (ls : eL) (st : List Value) (h : eH), ru 83 9 ls (.int y :: .int x :: st) h = if y ≤ x then ru 83 38 ls st h else ru 83 12 ls st h) ∧
  (∀ (v : Nat) (t : eL) (st : List Value) (h : eH), ru 83 12 (some (.ref v) :: t) st h = ru 83 13 (some (.ref v) :: t) (.ref v :: st) h) ∧
  (∀ (a : Nat) (ls : eL) (st : List Value) (h : eH), ru 83 13 ls (.ref a :: st) h = gF (h.1 a) 5 10 (fun v => ru 83 16 ls (v :: st) h)) ∧
  (∀ (x0 x1 x2 : Option Value) (v : Int32) (t : eL) (st : List Value) (h : eH), ru 83 16 (x0 :: x1 :: x2 :: some (.int v) :: t) st h = ru 83 17 (x0 :: x1 :: x2 :: some (.int v) :: t) (.int v :: st) h) ∧
  (∀ (i : Int32) (a : Nat) (ls : eL) (st : List Value) (h : eH), ru 83 17 ls (.int i :: .ref a :: st) h = aI (h.1 a) 0 i (fun v => ru 83 18 ls (.int v :: st) h)) ∧
  (∀ (ls : eL) (st : List Value) (h : eH), ru 83 18 ls st h = ru 83 19 ls (.int ((-1)) :: st) h) ∧
  (∀ (x y : Int32) (ls : eL) (st : List Value) (h : eH), ru 83 19 ls (.int y :: .int x :: st) h = if x = y then ru 83 22 ls st h else ru 83 32 ls st h) ∧
  (∀ (x0 x1 : Option Value) (v : Int32) (t : eL) (st : List Value) (h : eH), ru 83 22 (x0 :: x1 :: some (.int v) :: t) st h = ru 83 23 (x0 :: x1 :: some (.int v) :: t) (.int v :: st) h) ∧
  (∀ (x0 : Option Value) (v : Int32) (t : eL) (st : List Value) (h : eH), ru 83 23 (x0 :: some (.int v) :: t) st h = ru 83 24 (x0 :: some (.int v) :: t) (.int v :: st) h) ∧
  (∀ (x y : Int32) (ls : eL) (st : List Value) (h : eH), ru 83 24 ls (.int y :: .int x :: st) h = if x = y then ru 83 27 ls st h else ru 83 29 ls st h) ∧
  (∀ (x0 x1 x2 : Option Value) (v : Int32) (t : eL) (st : List Value) (h : eH), ru 83 27 (x0 :: x1 :: x2 :: some (.int v) :: t) st h = ru 83 28 (x0 :: x1 :: x2 :: some (.int v) :: t) (.int v :: st) h) ∧
  (∀ (x : Int32) (ls : eL) (h : eH), ru 83 28 ls [.int x] h = some (some (.int x), h)) ∧
  (∀ (x0 x1 : Option Value) (v : Int32) (t : eL) (st : List Value) (h : eH), ru 83 29 (x0 :: x1 :: some (.int v) :: t) st h = ru 83 32 (x0 :: eKl x1 :: some (.int (v + 1)) :: t) st h) ∧
  (∀ (x0 x1 x2 : Option Value) (v : Int32) (t : eL) (st : List Value) (h : eH), ru 83 32 (x0 :: x1 :: x2 :: some (.int v) :: t) st h = ru 83 35 (x0 :: x1 :: eKl x2 :: some (.int (v + 1)) :: t) st h) ∧
  (∀ (ls : eL) (st : List Value) (h : eH), ru 83 35 ls st h = ru 83 4 ls st h) ∧
  (∀ (x : Int32) (ls : eL) (h : eH), ru 83 39 ls [.int x] h = some (some (.int x), h)) := ⟨fun ls st h => ru_go rfl rfl,
  fun x0 x1 x2 v t st h => ru_go rfl rfl,
  fun ls st h => ru_go rfl rfl,
  fun x0 x1 x2 x3 v t st h => ru_go rfl rfl,
  fun v t st h => ru_go rfl rfl,
  fun a ls st h => ru_getf rfl,
  fun x y ls st h => ru_if rfl rfl,
  fun v t st h => ru_go rfl rfl,
  fun a ls st h => ru_getf rfl,
  fun x0 x1 x2 v t st h => ru_go rfl rfl,
  fun i a ls st h => ru_iald rfl,
  fun ls st h => ru_go rfl rfl,
  fun x y ls st h => ru_if rfl rfl,
  fun x0 x1 v t st h => ru_go rfl rfl,
  fun x0 v t st h => ru_go rfl rfl,
  fun x y ls st h => ru_if rfl rfl,
  fun x0 x1 x2 v t st h => ru_go rfl rfl,
  fun x ls h => ru_ret rfl rfl,
  fun x0 x1 v t st h => ru_go rfl rfl,
  fun x0 x1 x2 v t st h => ru_go rfl rfl,
  fun ls st h => ru_go rfl rfl,
  fun x ls h => ru_ret rfl rfl⟩
theorem E83 (a0 : Nat) (a1 : Int32) {h : eH} {fs : List Value} (ha : h.1 a0 = .inr (5, fs)) : den 83 [.ref a0, .int a1] h = ru 83 0 [some (.ref a0), some (.int a1), none, none] [] h := den_ob (Nat.le_of_ble_eq_true rfl) ha
/-! 84 X9_become_ -/
set_option maxRecDepth 100000 in
theorem S84 : (∀ (v : Nat) (t : eL) (st : List Value) (h : eH), ru 84 0 (some (.ref v) :: t) st h = ru 84 1 (some (.ref v) :: t) (.ref v :: st) h) ∧
  (∀ (x0 : Option Value) (v : Nat) (t : eL) (st : List Value) (h : eH), ru 84 1 (x0 :: some (.ref v) :: t) st h = ru 84 2 (x0 :: some (.ref v) :: t) (.ref v :: st) h) ∧
  (∀ (a : Nat) (ls : eL) (st : List Value) (h : eH), ru 84 2 ls (.ref a :: st) h = gF (h.1 a) 9 1 (fun v => ru 84 5 ls (v :: st) h)) ∧
  (∀ (v : Nat) (t : eL) (st : List Value) (h : eH), ru 84 5 (some (.ref v) :: t) st h = ru 84 6 (some (.ref v) :: t) (.ref v :: st) h) ∧
  (∀ (a : Nat) (ls : eL) (st : List Value) (h : eH), ru 84 6 ls (.ref a :: st) h = gF (h.1 a) 9 0 (fun v => ru 84 9 ls (v :: st) h)) ∧
  (∀ (a : Nat) (ls : eL) (st : List Value) (h : eH), ru 84 9 ls (.ref a :: st) h = aN (h.1 a) (fun v => ru 84 10 ls (.int v :: st) h)) ∧
  (∀ (a0 : Int32) (a1 : Int32) (u0 : Nat) (ls : eL) (h : eH), ru 84 10 ls [.int a1, .int a0, .ref u0] h = cl (den 9 [.int a0, .int a1] h) (fun v h => ru 84 13 ls (v.toList ++ [.ref u0]) h)) ∧
  (∀ (v : Int32) (a : Nat) (ls : eL) (st : List Value) (h : eH), ru 84 13 ls (.int v :: .ref a :: st) h = pF (h.1 a) 9 1 (.int v) (fun e => ru 84 16 ls st (eUp h a e))) ∧
  (∀ (v : Nat) (t : eL) (st : List Value) (h : eH), ru 84 16 (some (.ref v) :: t) st h = ru 84 17 (some (.ref v) :: t) (.ref v :: st) h) ∧
  (∀ (x0 : Option Value) (v : Nat) (t : eL) (st : List Value) (h : eH), ru 84 17 (x0 :: some (.ref v) :: t) st h = ru 84 18 (x0 :: some (.ref v) :: t) (.ref v :: st) h) ∧
  (∀ (a : Nat) (ls : eL) (st : List Value) (h : eH), ru 84 18 ls (.ref a :: st) h = gF (h.1 a) 9 2 (fun v => ru 84 21 ls (v :: st) h)) ∧
  (∀ (v : Int32) (a : Nat) (ls : eL) (st : List Value) (h : eH), ru 84 21 ls (.int v :: .ref a :: st) h = pF (h.1 a) 9 2 (.int v) (fun e => ru 84 24 ls st (eUp h a e))) ∧
  (∀ (x0 : Option Value) (v : Nat) (t : eL) (st : List Value) (h : eH), ru 84 24 (x0 :: some (.ref v) :: t) st h = ru 84 25 (x0 :: some (.ref v) :: t) (.ref v :: st) h) ∧
  (∀ (a : Nat) (ls : eL) (st : List Value) (h : eH), ru 84 25 ls (.ref a :: st) h = gF (h.1 a) 9 0 (fun v => ru 84 28 ls (v :: st) h)) ∧
  (∀ (ls : eL) (st : List Value) (h : eH), ru 84 28 ls st h = ru 84 29 ls (.int (nI 0) :: st) h) ∧
  (∀ (v : Nat) (t : eL) (st : List Value) (h : eH), ru 84 29 (some (.ref v) :: t) st h = ru 84 30 (some (.ref v) :: t) (.ref v :: st) h) ∧
  (∀ (a : Nat) (ls : eL) (st : List Value) (h : eH), ru 84 30 ls (.ref a :: st) h = gF (h.1 a) 9 0 (fun v => ru 84 33 ls (v :: st) h)) ∧
  (∀ (ls : eL) (st : List Value) (h : eH), ru 84 33 ls st h = ru 84 34 ls (.int (nI 0) :: st) h) ∧
  (∀ (v : Nat) (t : eL) (st : List Value) (h : eH), ru 84 34 (some (.ref v) :: t) st h = ru 84 35 (some (.ref v) :: t) (.ref v :: st) h) ∧
  (∀ (a : Nat) (ls : eL) (st : List Value) (h : eH), ru 84 35 ls (.ref a :: st) h = gF (h.1 a) 9 1 (fun v => ru 84 38 ls (v :: st) h)) ∧
  (∀ (n dp sp : Int32) (a1 a0 : Nat) (ls : eL) (h : eH), ru 84 38 ls [.int n, .int dp, .ref a1, .int sp, .ref a0] h = cP (h.1 a0) (h.1 a1) sp dp n (fun e => ru 84 41 ls [] (eUp h a1 e))) ∧
  (∀ (ls : eL) (h : eH), ru 84 41 ls [] h = some (none, h)) := ⟨fun v t st h => ru_go rfl rfl,
  fun x0 v t st h => ru_go rfl rfl,
  fun a ls st h => ru_getf rfl,
  fun v t st h => ru_go rfl rfl,
  fun a ls st h => ru_getf rfl,
  fun a ls st h => ru_alen rfl,
  fun a0 a1 u0 ls h => ru_inv rfl (by decide) rfl (Nat.le_of_ble_eq_true rfl),
  fun v a ls st h => ru_putf rfl,
  fun v t st h => ru_go rfl rfl,
  fun x0 v t st h => ru_go rfl rfl,
  fun a ls st h => ru_getf rfl,
  fun v a ls st h => ru_putf rfl,
  fun x0 v t st h => ru_go rfl rfl,
  fun a ls st h => ru_getf rfl,
  fun ls st h => ru_go rfl rfl,
  fun v t st h => ru_go rfl rfl,
  fun a ls st h => ru_getf rfl,
  fun ls st h => ru_go rfl rfl,
  fun v t st h => ru_go rfl rfl,
  fun a ls st h => ru_getf rfl,
  fun n dp sp a1 a0 ls h => ru_cpy rfl (Nat.le_of_ble_eq_true rfl),
  fun ls h => ru_ret rfl rfl⟩
theorem E84 (a0 : Nat) (a1 : Nat) {h : eH} {fs : List Value} (ha : h.1 a0 = .inr (9, fs)) : den 84 [.ref a0, .ref a1] h = ru 84 0 [some (.ref a0), some (.ref a1)] [] h := den_ob (Nat.le_of_ble_eq_true rfl) ha
/-! 85 X5_holds -/
set_option maxRecDepth 100000 in
theorem S85 : (∀ (x0 : Option Value) (v : Int32) (t : eL) (st : List Value) (h : eH), ru 85 0 (x0 :: some (.int v) :: t) st h = ru 85 1 (x0 :: some (.int v) :: t) (.int v :: st) h) ∧
  (∀ (x : Int32) (ls : eL) (st : List Value) (h : eH), ru 85 1 ls (.int x :: st) h = if x < 0 then ru 85 28 ls st h else ru 85 4 ls st h) ∧
  (∀ (x0 : Option Value) (v : Int32) (t : eL) (st : List Value) (h : eH), ru 85 4 (x0 :: some (.int v) :: t) st h = ru 85 5 (x0 :: some (.int v) :: t) (.int v :: st) h) ∧
  (∀ (v : Nat) (t : eL) (st : List Value) (h : eH), ru 85 5 (some (.ref v) :: t) st h = ru 85 6 (some (.ref v) :: t) (.ref v :: st) h) ∧
  (∀ (a : Nat) (ls : eL) (st : List Value) (h : eH), ru 85 6 ls (.ref a :: st) h = gF (h.1 a) 5 6 (fun v => ru 85 9 ls (v :: st) h)) ∧
  (∀ (x y : Int32) (ls : eL) (st : List Value) (h : eH), ru 85 9 ls (.int y :: .int x :: st) h = if y ≤ x then ru 85 28 ls st h else ru 85 12 ls st h) ∧
  (∀ (x0 x1 : Option Value) (v : Int32) (t : eL) (st : List Value) (h : eH), ru 85 12 (x0 :: x1 :: some (.int v) :: t) st h = ru 85 13 (x0 :: x1 :: some (.int v) :: t) (.int v :: st) h) ∧
  (∀ (x : Int32) (ls : eL) (st : List Value) (h : eH), ru 85 13 ls (.int x :: st) h = if x < 0 then ru 85 28 ls st h else ru 85 16 ls st h) ∧
  (∀ (x0 x1 : Option Value) (v : Int32) (t : eL) (st : List Value) (h : eH), ru 85 16 (x0 :: x1 :: some (.int v) :: t) st h = ru 85 17 (x0 :: x1 :: some (.int v) :: t) (.int v :: st) h) ∧
  (∀ (v : Nat) (t : eL) (st : List Value) (h : eH), ru 85 17 (some (.ref v) :: t) st h = ru 85 18 (some (.ref v) :: t) (.ref v :: st) h) ∧
  (∀ (a : Nat) (ls : eL) (st : List Value) (h : eH), ru 85 18 ls (.ref a :: st) h = gF (h.1 a) 5 8 (fun v => ru 85 21 ls (v :: st) h)) ∧
  (∀ (x y : Int32) (ls : eL) (st : List Value) (h : eH), ru 85 21 ls (.int y :: .int x :: st) h = if y ≤ x then ru 85 28 ls st h else ru 85 24 ls st h) ∧
  (∀ (ls : eL) (st : List Value) (h : eH), ru 85 24 ls st h = ru 85 25 ls (.int (nI 1) :: st) h) ∧
  (∀ (ls : eL) (st : List Value) (h : eH), ru 85 25 ls st h = ru 85 29 ls st h) ∧
  (∀ (ls : eL) (st : List Value) (h : eH), ru 85 28 ls st h = ru 85 29 ls (.int (nI 0) :: st) h) ∧
  (∀ (x : Int32) (ls : eL) (h : eH), ru 85 29 ls [.int x] h = bo (x == 0 || x == 1) (some (some (.int x), h))) := ⟨fun x0 v t st h => ru_go rfl rfl,
  fun x ls st h => ru_if rfl rfl,
  fun x0 v t st h => ru_go rfl rfl,
  fun v t st h => ru_go rfl rfl,
  fun a ls st h => ru_getf rfl,
  fun x y ls st h => ru_if rfl rfl,
  fun x0 x1 v t st h => ru_go rfl rfl,
  fun x ls st h => ru_if rfl rfl,
  fun x0 x1 v t st h => ru_go rfl rfl,
  fun v t st h => ru_go rfl rfl,
  fun a ls st h => ru_getf rfl,
  fun x y ls st h => ru_if rfl rfl,
  fun ls st h => ru_go rfl rfl,
  fun ls st h => ru_go rfl rfl,
  fun ls st h => ru_go rfl rfl,
  fun x ls h => ru_bret rfl rfl⟩
theorem E85 (a0 : Nat) (a1 : Int32) (a2 : Int32) {h : eH} {fs : List Value} (ha : h.1 a0 = .inr (5, fs)) : den 85 [.ref a0, .int a1, .int a2] h = ru 85 0 [some (.ref a0), some (.int a1), some (.int a2)] [] h := den_ob (Nat.le_of_ble_eq_true rfl) ha
/-! 86 X5_fetch -/
set_option maxRecDepth 100000 in
theorem S86 : (∀ (x0 : Option Value) (v : Nat) (t : eL) (st : List Value) (h : eH), ru 86 0 (x0 :: some (.ref v) :: t) st h = ru 86 1 (x0 :: some (.ref v) :: t) (.ref v :: st) h) ∧
  (∀ (a0 : Nat) (ls : eL) (h : eH), ru 86 1 ls [.ref a0] h = cl (den 82 [.ref a0] h) (fun v h => ru 86 4 ls (v.toList ++ []) h)) ∧
  (∀ (v : Nat) (t : eL) (st : List Value) (h : eH), ru 86 4 (some (.ref v) :: t) st h = ru 86 5 (some (.ref v) :: t) (.ref v :: st) h) ∧
  (∀ (x0 x1 : Option Value) (v : Int32) (t : eL) (st : List Value) (h : eH), ru 86 5 (x0 :: x1 :: some (.int v) :: t) st h = ru 86 6 (x0 :: x1 :: some (.int v) :: t) (.int v :: st) h) ∧
  (∀ (x0 x1 x2 : Option Value) (v : Int32) (t : eL) (st : List Value) (h : eH), ru 86 6 (x0 :: x1 :: x2 :: some (.int v) :: t) st h = ru 86 7 (x0 :: x1 :: x2 :: some (.int v) :: t) (.int v :: st) h) ∧
  (∀ (a0 : Nat) (a1 : Int32) (a2 : Int32) (ls : eL) (h : eH), ru 86 7 ls [.int a2, .int a1, .ref a0] h = cl (den 85 [.ref a0, .int a1, .int a2] h) (fun v h => ru 86 10 ls (v.toList ++ []) h)) ∧
  (∀ (x : Int32) (ls : eL) (st : List Value) (h : eH), ru 86 10 ls (.int x :: st) h = if x = 0 then ru 86 13 ls st h else ru 86 14 ls st h) ∧
  (∀ (ls : eL) (h : eH), ru 86 13 ls [] h = some (none, h)) ∧
  (∀ (x0 x1 : Option Value) (v : Int32) (t : eL) (st : List Value) (h : eH), ru 86 14 (x0 :: x1 :: some (.int v) :: t) st h = ru 86 15 (x0 :: x1 :: some (.int v) :: t) (.int v :: st) h) ∧
  (∀ (v : Nat) (t : eL) (st : List Value) (h : eH), ru 86 15 (some (.ref v) :: t) st h = ru 86 16 (some (.ref v) :: t) (.ref v :: st) h) ∧
  (∀ (a : Nat) (ls : eL) (st : List Value) (h : eH), ru 86 16 ls (.ref a :: st) h = gF (h.1 a) 5 1 (fun v => ru 86 19 ls (v :: st) h)) ∧
  (∀ (x y : Int32) (ls : eL) (st : List Value) (h : eH), ru 86 19 ls (.int y :: .int x :: st) h = ru 86 20 ls (.int (x * y) :: st) h) ∧
  (∀ (x0 x1 x2 : Option Value) (v : Int32) (t : eL) (st : List Value) (h : eH), ru 86 20 (x0 :: x1 :: x2 :: some (.int v) :: t) st h = ru 86 21 (x0 :: x1 :: x2 :: some (.int v) :: t) (.int v :: st) h) ∧
  (∀ (x y : Int32) (ls : eL) (st : List Value) (h : eH), ru 86 21 ls (.int y :: .int x :: st) h = ru 86 22 ls (.int (x + y) :: st) h) ∧
  (∀ (x0 x1 x2 x3 x4 : Option Value) (v : Int32) (t : eL) (st : List Value) (h : eH), ru 86 22 (x0 :: x1 :: x2 :: x3 :: x4 :: t) (.int v :: st) h = ru 86 24 (x0 :: x1 :: x2 :: eKl x3 :: some (.int v) :: t) st h) ∧
  (∀ (x0 : Option Value) (v : Nat) (t : eL) (st : List Value) (h : eH), ru 86 24 (x0 :: some (.ref v) :: t) st h = ru 86 25 (x0 :: some (.ref v) :: t) (.ref v :: st) h) ∧
  (∀ (v : Nat) (t : eL) (st : List Value) (h : eH), ru 86 25 (some (.ref v) :: t) st h = ru 86 26 (some (.ref v) :: t) (.ref v :: st) h) ∧
  (∀ (a : Nat) (ls : eL) (st : List Value) (h : eH), ru 86 26 ls (.ref a :: st) h = gF (h.1 a) 5 4 (fun v => ru 86 29 ls (v :: st) h)) ∧
  (∀ (x0 x1 x2 x3 : Option Value) (v : Int32) (t : eL) (st : List Value) (h : eH), ru 86 29 (x0 :: x1 :: x2 :: x3 :: some (.int v) :: t) st h = ru 86 31 (x0 :: x1 :: x2 :: x3 :: some (.int v) :: t) (.int v :: st) h) ∧
  (∀ (i : Int32) (a : Nat) (ls : eL) (st : List Value) (h : eH), ru 86 31 ls (.int i :: .ref a :: st) h = aI (h.1 a) 0 i (fun v => ru 86 32 ls (.int v :: st) h)) ∧
  (∀ (a0 : Int32) (u0 : Nat) (ls : eL) (h : eH), ru 86 32 ls [.int a0, .ref u0] h = cl (den 5 [.int a0] h) (fun v h => ru 86 35 ls (v.toList ++ [.ref u0]) h)) ∧
  (∀ (x0 : Option Value) (v : Nat) (t : eL) (st : List Value) (h : eH), ru 86 35 (x0 :: some (.ref v) :: t) st h = ru 86 36 (x0 :: some (.ref v) :: t) (.ref v :: st) h) ∧
  (∀ (a : Nat) (ls : eL) (st : List Value) (h : eH), ru 86 36 ls (.ref a :: st) h = gF (h.1 a) 9 0 (fun v => ru 86 39 ls (v :: st) h)) ∧
  (∀ (a : Nat) (ls : eL) (st : List Value) (h : eH), ru 86 39 ls (.ref a :: st) h = aN (h.1 a) (fun v => ru 86 40 ls (.int v :: st) h)) ∧
  (∀ (a0 : Int32) (a1 : Int32) (u0 : Nat) (ls : eL) (h : eH), ru 86 40 ls [.int a1, .int a0, .ref u0] h = cl (den 9 [.int a0, .int a1] h) (fun v h => ru 86 43 ls (v.toList ++ [.ref u0]) h)) ∧
  (∀ (v : Int32) (a : Nat) (ls : eL) (st : List Value) (h : eH), ru 86 43 ls (.int v :: .ref a :: st) h = pF (h.1 a) 9 1 (.int v) (fun e => ru 86 46 ls st (eUp h a e))) ∧
  (∀ (x0 : Option Value) (v : Nat) (t : eL) (st : List Value) (h : eH), ru 86 46 (x0 :: some (.ref v) :: t) st h = ru 86 47 (x0 :: some (.ref v) :: t) (.ref v :: st) h) ∧
  (∀ (v : Nat) (t : eL) (st : List Value) (h : eH), ru 86 47 (some (.ref v) :: t) st h = ru 86 48 (some (.ref v) :: t) (.ref v :: st) h) ∧
  (∀ (a : Nat) (ls : eL) (st : List Value) (h : eH), ru 86 48 ls (.ref a :: st) h = gF (h.1 a) 5 4 (fun v => ru 86 51 ls (v :: st) h)) ∧
  (∀ (x0 x1 x2 x3 : Option Value) (v : Int32) (t : eL) (st : List Value) (h : eH), ru 86 51 (x0 :: x1 :: x2 :: x3 :: some (.int v) :: t) st h = ru 86 53 (x0 :: x1 :: x2 :: x3 :: some (.int v) :: t) (.int v :: st) h) ∧
  (∀ (i : Int32) (a : Nat) (ls : eL) (st : List Value) (h : eH), ru 86 53 ls (.int i :: .ref a :: st) h = aI (h.1 a) 0 i (fun v => ru 86 54 ls (.int v :: st) h)) ∧
  (∀ (x : Int32) (ls : eL) (st : List Value) (h : eH), ru 86 54 ls (.int x :: st) h = if 0 ≤ x then ru 86 61 ls st h else ru 86 57 ls st h) ∧
  (∀ (ls : eL) (st : List Value) (h : eH), ru 86 57 ls st h = ru 86 58 ls (.int (nI 1) :: st) h) ∧
  (∀ (ls : eL) (st : List Value) (h : eH), ru 86 58 ls st h = ru 86 62 ls st h) ∧
  (∀ (ls : eL) (st : List Value) (h : eH), ru 86 61 ls st h = ru 86 62 ls (.int (nI 0) :: st) h) ∧
  (∀ (v : Int32) (a : Nat) (ls : eL) (st : List Value) (h : eH), ru 86 62 ls (.int v :: .ref a :: st) h = pF (h.1 a) 9 2 (.int v) (fun e => ru 86 65 ls st (eUp h a e))) ∧
  (∀ (v : Nat) (t : eL) (st : List Value) (h : eH), ru 86 65 (some (.ref v) :: t) st h = ru 86 66 (some (.ref v) :: t) (.ref v :: st) h) ∧
  (∀ (a : Nat) (ls : eL) (st : List Value) (h : eH), ru 86 66 ls (.ref a :: st) h = gF (h.1 a) 5 3 (fun v => ru 86 69 ls (v :: st) h)) ∧
  (∀ (x0 x1 x2 x3 : Option Value) (v : Int32) (t : eL) (st : List Value) (h : eH), ru 86 69 (x0 :: x1 :: x2 :: x3 :: some (.int v) :: t) st h = ru 86 71 (x0 :: x1 :: x2 :: x3 :: some (.int v) :: t) (.int v :: st) h) ∧
  (∀ (v : Nat) (t : eL) (st : List Value) (h : eH), ru 86 71 (some (.ref v) :: t) st h = ru 86 72 (some (.ref v) :: t) (.ref v :: st) h) ∧
  (∀ (a : Nat) (ls : eL) (st : List Value) (h : eH), ru 86 72 ls (.ref a :: st) h = gF (h.1 a) 5 2 (fun v => ru 86 75 ls (v :: st) h)) ∧
  (∀ (x y : Int32) (ls : eL) (st : List Value) (h : eH), ru 86 75 ls (.int y :: .int x :: st) h = ru 86 76 ls (.int (x * y) :: st) h) ∧
  (∀ (x0 : Option Value) (v : Nat) (t : eL) (st : List Value) (h : eH), ru 86 76 (x0 :: some (.ref v) :: t) st h = ru 86 77 (x0 :: some (.ref v) :: t) (.ref v :: st) h) ∧
  (∀ (a : Nat) (ls : eL) (st : List Value) (h : eH), ru 86 77 ls (.ref a :: st) h = gF (h.1 a) 9 0 (fun v => ru 86 80 ls (v :: st) h)) ∧
  (∀ (ls : eL) (st : List Value) (h : eH), ru 86 80 ls st h = ru 86 81 ls (.int (nI 0) :: st) h) ∧
  (∀ (x0 : Option Value) (v : Nat) (t : eL) (st : List Value) (h : eH), ru 86 81 (x0 :: some (.ref v) :: t) st h = ru 86 82 (x0 :: some (.ref v) :: t) (.ref v :: st) h) ∧
  (∀ (a : Nat) (ls : eL) (st : List Value) (h : eH), ru 86 82 ls (.ref a :: st) h = gF (h.1 a) 9 1 (fun v => ru 86 85 ls (v :: st) h)) ∧
  (∀ (n dp sp : Int32) (a1 a0 : Nat) (ls : eL) (h : eH), ru 86 85 ls [.int n, .int dp, .ref a1, .int sp, .ref a0] h = cP (h.1 a0) (h.1 a1) sp dp n (fun e => ru 86 88 ls [] (eUp h a1 e))) ∧
  (∀ (ls : eL) (h : eH), ru 86 88 ls [] h = some (none, h)) := ⟨fun x0 v t st h => ru_go rfl rfl,
  fun a0 ls h => ru_inv rfl (by decide) rfl (Nat.le_of_ble_eq_true rfl),
  fun v t st h => ru_go rfl rfl,
  fun x0 x1 v t st h => ru_go rfl rfl,
  fun x0 x1 x2 v t st h => ru_go rfl rfl,
  fun a0 a1 a2 ls h => ru_inv rfl (by decide) rfl (Nat.le_of_ble_eq_true rfl),
  fun x ls st h => ru_if rfl rfl,
  fun ls h => ru_ret rfl rfl,
  fun x0 x1 v t st h => ru_go rfl rfl,
  fun v t st h => ru_go rfl rfl,
  fun a ls st h => ru_getf rfl,
  fun x y ls st h => ru_go rfl rfl,
  fun x0 x1 x2 v t st h => ru_go rfl rfl,
  fun x y ls st h => ru_go rfl rfl,
  fun x0 x1 x2 x3 x4 v t st h => ru_go rfl rfl,
  fun x0 v t st h => ru_go rfl rfl,
  fun v t st h => ru_go rfl rfl,
  fun a ls st h => ru_getf rfl,
  fun x0 x1 x2 x3 v t st h => ru_go rfl rfl,
  fun i a ls st h => ru_iald rfl,
  fun a0 u0 ls h => ru_inv rfl (by decide) rfl (Nat.le_of_ble_eq_true rfl),
  fun x0 v t st h => ru_go rfl rfl,
  fun a ls st h => ru_getf rfl,
  fun a ls st h => ru_alen rfl,
  fun a0 a1 u0 ls h => ru_inv rfl (by decide) rfl (Nat.le_of_ble_eq_true rfl),
  fun v a ls st h => ru_putf rfl,
  fun x0 v t st h => ru_go rfl rfl,
  fun v t st h => ru_go rfl rfl,
  fun a ls st h => ru_getf rfl,
  fun x0 x1 x2 x3 v t st h => ru_go rfl rfl,
  fun i a ls st h => ru_iald rfl,
  fun x ls st h => ru_if rfl rfl,
  fun ls st h => ru_go rfl rfl,
  fun ls st h => ru_go rfl rfl,
  fun ls st h => ru_go rfl rfl,
  fun v a ls st h => ru_putf rfl,
  fun v t st h => ru_go rfl rfl,
  fun a ls st h => ru_getf rfl,
  fun x0 x1 x2 x3 v t st h => ru_go rfl rfl,
  fun v t st h => ru_go rfl rfl,
  fun a ls st h => ru_getf rfl,
  fun x y ls st h => ru_go rfl rfl,
  fun x0 v t st h => ru_go rfl rfl,
  fun a ls st h => ru_getf rfl,
  fun ls st h => ru_go rfl rfl,
  fun x0 v t st h => ru_go rfl rfl,
  fun a ls st h => ru_getf rfl,
  fun n dp sp a1 a0 ls h => ru_cpy rfl (Nat.le_of_ble_eq_true rfl),
  fun ls h => ru_ret rfl rfl⟩
theorem E86 (a0 : Nat) (a1 : Nat) (a2 : Int32) (a3 : Int32) {h : eH} {fs : List Value} (ha : h.1 a0 = .inr (5, fs)) : den 86 [.ref a0, .ref a1, .int a2, .int a3] h = ru 86 0 [some (.ref a0), some (.ref a1), some (.int a2), some (.int a3), none] [] h := den_ob (Nat.le_of_ble_eq_true rfl) ha
/-! 87 X9_turn -/
set_option maxRecDepth 100000 in
theorem S87 : (∀ (v : Nat) (t : eL) (st : List Value) (h : eH), ru 87 0 (some (.ref v) :: t) st h = ru 87 1 (some (.ref v) :: t) (.ref v :: st) h) ∧
  (∀ (v : Nat) (t : eL) (st : List Value) (h : eH), ru 87 1 (some (.ref v) :: t) st h = ru 87 2 (some (.ref v) :: t) (.ref v :: st) h) ∧
  (∀ (a : Nat) (ls : eL) (st : List Value) (h : eH), ru 87 2 ls (.ref a :: st) h = gF (h.1 a) 9 1 (fun v => ru 87 5 ls (v :: st) h)) ∧
  (∀ (x : Int32) (ls : eL) (st : List Value) (h : eH), ru 87 5 ls (.int x :: st) h = if x ≤ 0 then ru 87 19 ls st h else ru 87 8 ls st h) ∧
  (∀ (v : Nat) (t : eL) (st : List Value) (h : eH), ru 87 8 (some (.ref v) :: t) st h = ru 87 9 (some (.ref v) :: t) (.ref v :: st) h) ∧
  (∀ (a : Nat) (ls : eL) (st : List Value) (h : eH), ru 87 9 ls (.ref a :: st) h = gF (h.1 a) 9 2 (fun v => ru 87 12 ls (v :: st) h)) ∧
  (∀ (x : Int32) (ls : eL) (st : List Value) (h : eH), ru 87 12 ls (.int x :: st) h = if x = 0 then ru 87 15 ls st h else ru 87 19 ls st h) ∧
  (∀ (ls : eL) (st : List Value) (h : eH), ru 87 15 ls st h = ru 87 16 ls (.int (nI 1) :: st) h) ∧
  (∀ (ls : eL) (st : List Value) (h : eH), ru 87 16 ls st h = ru 87 20 ls st h) ∧
  (∀ (ls : eL) (st : List Value) (h : eH), ru 87 19 ls st h = ru 87 20 ls (.int (nI 0) :: st) h) ∧
  (∀ (v : Int32) (a : Nat) (ls : eL) (st : List Value) (h : eH), ru 87 20 ls (.int v :: .ref a :: st) h = pF (h.1 a) 9 2 (.int v) (fun e => ru 87 23 ls st (eUp h a e))) ∧
  (∀ (ls : eL) (h : eH), ru 87 23 ls [] h = some (none, h)) := ⟨fun v t st h => ru_go rfl rfl,
  fun v t st h => ru_go rfl rfl,
  fun a ls st h => ru_getf rfl,
  fun x ls st h => ru_if rfl rfl,
  fun v t st h => ru_go rfl rfl,
  fun a ls st h => ru_getf rfl,
  fun x ls st h => ru_if rfl rfl,
  fun ls st h => ru_go rfl rfl,
  fun ls st h => ru_go rfl rfl,
  fun ls st h => ru_go rfl rfl,
  fun v a ls st h => ru_putf rfl,
  fun ls h => ru_ret rfl rfl⟩
theorem E87 (a0 : Nat) {h : eH} {fs : List Value} (ha : h.1 a0 = .inr (9, fs)) : den 87 [.ref a0] h = ru 87 0 [some (.ref a0)] [] h := den_ob (Nat.le_of_ble_eq_true rfl) ha
/-! 88 X5_fetchFree -/
set_option maxRecDepth 100000 in
theorem S88 : (∀ (x0 : Option Value) (v : Nat) (t : eL) (st : List Value) (h : eH), ru 88 0 (x0 :: some (.ref v) :: t) st h = ru 88 1 (x0 :: some (.ref v) :: t) (.ref v :: st) h) ∧
  (∀ (a0 : Nat) (ls : eL) (h : eH), ru 88 1 ls [.ref a0] h = cl (den 82 [.ref a0] h) (fun v h => ru 88 4 ls (v.toList ++ []) h)) ∧
  (∀ (v : Nat) (t : eL) (st : List Value) (h : eH), ru 88 4 (some (.ref v) :: t) st h = ru 88 5 (some (.ref v) :: t) (.ref v :: st) h) ∧
  (∀ (x0 x1 : Option Value) (v : Int32) (t : eL) (st : List Value) (h : eH), ru 88 5 (x0 :: x1 :: some (.int v) :: t) st h = ru 88 6 (x0 :: x1 :: some (.int v) :: t) (.int v :: st) h) ∧
  (∀ (a0 : Nat) (a1 : Int32) (ls : eL) (h : eH), ru 88 6 ls [.int a1, .ref a0] h = cl (den 83 [.ref a0, .int a1] h) (fun v h => ru 88 9 ls (v.toList ++ []) h)) ∧
  (∀ (x0 x1 x2 x3 x4 : Option Value) (v : Int32) (t : eL) (st : List Value) (h : eH), ru 88 9 (x0 :: x1 :: x2 :: x3 :: x4 :: t) (.int v :: st) h = ru 88 11 (x0 :: x1 :: x2 :: eKl x3 :: some (.int v) :: t) st h) ∧
  (∀ (x0 x1 x2 x3 : Option Value) (v : Int32) (t : eL) (st : List Value) (h : eH), ru 88 11 (x0 :: x1 :: x2 :: x3 :: some (.int v) :: t) st h = ru 88 13 (x0 :: x1 :: x2 :: x3 :: some (.int v) :: t) (.int v :: st) h) ∧
  (∀ (ls : eL) (st : List Value) (h : eH), ru 88 13 ls st h = ru 88 14 ls (.int ((-1)) :: st) h) ∧
  (∀ (x y : Int32) (ls : eL) (st : List Value) (h : eH), ru 88 14 ls (.int y :: .int x :: st) h = if x = y then ru 88 29 ls st h else ru 88 17 ls st h) ∧
  (∀ (x0 x1 x2 : Option Value) (v : Int32) (t : eL) (st : List Value) (h : eH), ru 88 17 (x0 :: x1 :: x2 :: some (.int v) :: t) st h = ru 88 18 (x0 :: x1 :: x2 :: some (.int v) :: t) (.int v :: st) h) ∧
  (∀ (x : Int32) (ls : eL) (st : List Value) (h : eH), ru 88 18 ls (.int x :: st) h = if x < 0 then ru 88 29 ls st h else ru 88 21 ls st h) ∧
  (∀ (x0 x1 x2 : Option Value) (v : Int32) (t : eL) (st : List Value) (h : eH), ru 88 21 (x0 :: x1 :: x2 :: some (.int v) :: t) st h = ru 88 22 (x0 :: x1 :: x2 :: some (.int v) :: t) (.int v :: st) h) ∧
  (∀ (v : Nat) (t : eL) (st : List Value) (h : eH), ru 88 22 (some (.ref v) :: t) st h = ru 88 23 (some (.ref v) :: t) (.ref v :: st) h) ∧
  (∀ (a : Nat) (ls : eL) (st : List Value) (h : eH), ru 88 23 ls (.ref a :: st) h = gF (h.1 a) 5 7 (fun v => ru 88 26 ls (v :: st) h)) ∧
  (∀ (x y : Int32) (ls : eL) (st : List Value) (h : eH), ru 88 26 ls (.int y :: .int x :: st) h = if x < y then ru 88 30 ls st h else ru 88 29 ls st h) ∧
  (∀ (ls : eL) (h : eH), ru 88 29 ls [] h = some (none, h)) ∧
  (∀ (x0 x1 x2 : Option Value) (v : Int32) (t : eL) (st : List Value) (h : eH), ru 88 30 (x0 :: x1 :: x2 :: some (.int v) :: t) st h = ru 88 31 (x0 :: x1 :: x2 :: some (.int v) :: t) (.int v :: st) h) ∧
  (∀ (x0 x1 x2 x3 : Option Value) (v : Int32) (t : eL) (st : List Value) (h : eH), ru 88 31 (x0 :: x1 :: x2 :: x3 :: some (.int v) :: t) st h = ru 88 33 (x0 :: x1 :: x2 :: x3 :: some (.int v) :: t) (.int v :: st) h) ∧
  (∀ (x y : Int32) (ls : eL) (st : List Value) (h : eH), ru 88 33 ls (.int y :: .int x :: st) h = if x = y then ru 88 36 ls st h else ru 88 47 ls st h) ∧
  (∀ (x0 : Option Value) (v : Nat) (t : eL) (st : List Value) (h : eH), ru 88 36 (x0 :: some (.ref v) :: t) st h = ru 88 37 (x0 :: some (.ref v) :: t) (.ref v :: st) h) ∧
  (∀ (v : Nat) (t : eL) (st : List Value) (h : eH), ru 88 37 (some (.ref v) :: t) st h = ru 88 38 (some (.ref v) :: t) (.ref v :: st) h) ∧
  (∀ (a : Nat) (ls : eL) (st : List Value) (h : eH), ru 88 38 ls (.ref a :: st) h = gF (h.1 a) 5 11 (fun v => ru 88 41 ls (v :: st) h)) ∧
  (∀ (a0 : Nat) (a1 : Nat) (ls : eL) (h : eH), ru 88 41 ls [.ref a1, .ref a0] h = cl (den 84 [.ref a0, .ref a1] h) (fun v h => ru 88 44 ls (v.toList ++ []) h)) ∧
  (∀ (ls : eL) (st : List Value) (h : eH), ru 88 44 ls st h = ru 88 74 ls st h) ∧
  (∀ (v : Nat) (t : eL) (st : List Value) (h : eH), ru 88 47 (some (.ref v) :: t) st h = ru 88 48 (some (.ref v) :: t) (.ref v :: st) h) ∧
  (∀ (a : Nat) (ls : eL) (st : List Value) (h : eH), ru 88 48 ls (.ref a :: st) h = gF (h.1 a) 5 10 (fun v => ru 88 51 ls (v :: st) h)) ∧
  (∀ (x0 x1 x2 : Option Value) (v : Int32) (t : eL) (st : List Value) (h : eH), ru 88 51 (x0 :: x1 :: x2 :: some (.int v) :: t) st h = ru 88 52 (x0 :: x1 :: x2 :: some (.int v) :: t) (.int v :: st) h) ∧
  (∀ (i : Int32) (a : Nat) (ls : eL) (st : List Value) (h : eH), ru 88 52 ls (.int i :: .ref a :: st) h = aI (h.1 a) 0 i (fun v => ru 88 53 ls (.int v :: st) h)) ∧
  (∀ (ls : eL) (st : List Value) (h : eH), ru 88 53 ls st h = ru 88 54 ls (.int ((-1)) :: st) h) ∧
  (∀ (x y : Int32) (ls : eL) (st : List Value) (h : eH), ru 88 54 ls (.int y :: .int x :: st) h = if x = y then ru 88 74 ls st h else ru 88 57 ls st h) ∧
  (∀ (v : Nat) (t : eL) (st : List Value) (h : eH), ru 88 57 (some (.ref v) :: t) st h = ru 88 58 (some (.ref v) :: t) (.ref v :: st) h) ∧
  (∀ (x0 : Option Value) (v : Nat) (t : eL) (st : List Value) (h : eH), ru 88 58 (x0 :: some (.ref v) :: t) st h = ru 88 59 (x0 :: some (.ref v) :: t) (.ref v :: st) h) ∧
  (∀ (v : Nat) (t : eL) (st : List Value) (h : eH), ru 88 59 (some (.ref v) :: t) st h = ru 88 60 (some (.ref v) :: t) (.ref v :: st) h) ∧
  (∀ (a : Nat) (ls : eL) (st : List Value) (h : eH), ru 88 60 ls (.ref a :: st) h = gF (h.1 a) 5 10 (fun v => ru 88 63 ls (v :: st) h)) ∧
  (∀ (x0 x1 x2 : Option Value) (v : Int32) (t : eL) (st : List Value) (h : eH), ru 88 63 (x0 :: x1 :: x2 :: some (.int v) :: t) st h = ru 88 64 (x0 :: x1 :: x2 :: some (.int v) :: t) (.int v :: st) h) ∧
  (∀ (i : Int32) (a : Nat) (ls : eL) (st : List Value) (h : eH), ru 88 64 ls (.int i :: .ref a :: st) h = aI (h.1 a) 0 i (fun v => ru 88 65 ls (.int v :: st) h)) ∧
  (∀ (x0 x1 x2 x3 : Option Value) (v : Int32) (t : eL) (st : List Value) (h : eH), ru 88 65 (x0 :: x1 :: x2 :: x3 :: some (.int v) :: t) st h = ru 88 67 (x0 :: x1 :: x2 :: x3 :: some (.int v) :: t) (.int v :: st) h) ∧
  (∀ (a0 : Nat) (a1 : Nat) (a2 : Int32) (a3 : Int32) (ls : eL) (h : eH), ru 88 67 ls [.int a3, .int a2, .ref a1, .ref a0] h = cl (den 86 [.ref a0, .ref a1, .int a2, .int a3] h) (fun v h => ru 88 70 ls (v.toList ++ []) h)) ∧
  (∀ (x0 : Option Value) (v : Nat) (t : eL) (st : List Value) (h : eH), ru 88 70 (x0 :: some (.ref v) :: t) st h = ru 88 71 (x0 :: some (.ref v) :: t) (.ref v :: st) h) ∧
  (∀ (a0 : Nat) (ls : eL) (h : eH), ru 88 71 ls [.ref a0] h = cl (den 87 [.ref a0] h) (fun v h => ru 88 74 ls (v.toList ++ []) h)) ∧
  (∀ (ls : eL) (h : eH), ru 88 74 ls [] h = some (none, h)) := ⟨fun x0 v t st h => ru_go rfl rfl,
  fun a0 ls h => ru_inv rfl (by decide) rfl (Nat.le_of_ble_eq_true rfl),
  fun v t st h => ru_go rfl rfl,
  fun x0 x1 v t st h => ru_go rfl rfl,
  fun a0 a1 ls h => ru_inv rfl (by decide) rfl (Nat.le_of_ble_eq_true rfl),
  fun x0 x1 x2 x3 x4 v t st h => ru_go rfl rfl,
  fun x0 x1 x2 x3 v t st h => ru_go rfl rfl,
  fun ls st h => ru_go rfl rfl,
  fun x y ls st h => ru_if rfl rfl,
  fun x0 x1 x2 v t st h => ru_go rfl rfl,
  fun x ls st h => ru_if rfl rfl,
  fun x0 x1 x2 v t st h => ru_go rfl rfl,
  fun v t st h => ru_go rfl rfl,
  fun a ls st h => ru_getf rfl,
  fun x y ls st h => ru_if rfl rfl,
  fun ls h => ru_ret rfl rfl,
  fun x0 x1 x2 v t st h => ru_go rfl rfl,
  fun x0 x1 x2 x3 v t st h => ru_go rfl rfl,
  fun x y ls st h => ru_if rfl rfl,
  fun x0 v t st h => ru_go rfl rfl,
  fun v t st h => ru_go rfl rfl,
  fun a ls st h => ru_getf rfl,
  fun a0 a1 ls h => ru_inv rfl (by decide) rfl (Nat.le_of_ble_eq_true rfl),
  fun ls st h => ru_go rfl rfl,
  fun v t st h => ru_go rfl rfl,
  fun a ls st h => ru_getf rfl,
  fun x0 x1 x2 v t st h => ru_go rfl rfl,
  fun i a ls st h => ru_iald rfl,
  fun ls st h => ru_go rfl rfl,
  fun x y ls st h => ru_if rfl rfl,
  fun v t st h => ru_go rfl rfl,
  fun x0 v t st h => ru_go rfl rfl,
  fun v t st h => ru_go rfl rfl,
  fun a ls st h => ru_getf rfl,
  fun x0 x1 x2 v t st h => ru_go rfl rfl,
  fun i a ls st h => ru_iald rfl,
  fun x0 x1 x2 x3 v t st h => ru_go rfl rfl,
  fun a0 a1 a2 a3 ls h => ru_inv rfl (by decide) rfl (Nat.le_of_ble_eq_true rfl),
  fun x0 v t st h => ru_go rfl rfl,
  fun a0 ls h => ru_inv rfl (by decide) rfl (Nat.le_of_ble_eq_true rfl),
  fun ls h => ru_ret rfl rfl⟩
theorem E88 (a0 : Nat) (a1 : Nat) (a2 : Int32) (a3 : Int32) {h : eH} {fs : List Value} (ha : h.1 a0 = .inr (5, fs)) : den 88 [.ref a0, .ref a1, .int a2, .int a3] h = ru 88 0 [some (.ref a0), some (.ref a1), some (.int a2), some (.int a3), none] [] h := den_ob (Nat.le_of_ble_eq_true rfl) ha
