/-! 132 X5_freeColumns -/
set_option maxRecDepth 100000 in
theorem S132 : (∀ (v : Nat) (t : eL) (st : List Value) (h : eH), ru 132 0 (some (.ref v) :: t) st h = ru 132 1 (some (.ref v) :: t) (.ref v :: st) h) ∧
  (∀ (a : Nat) (ls : eL) (st : List Value) (h : eH), ru 132 1 ls (.ref a :: st) h = gF (h.1 a) 5 7 (fun v => ru 132 4 ls (v :: st) h)) ∧
  (∀ (v : Nat) (t : eL) (st : List Value) (h : eH), ru 132 4 (some (.ref v) :: t) st h = ru 132 5 (some (.ref v) :: t) (.ref v :: st) h) ∧
  (∀ (a : Nat) (ls : eL) (st : List Value) (h : eH), ru 132 5 ls (.ref a :: st) h = gF (h.1 a) 5 9 (fun v => ru 132 8 ls (v :: st) h)) ∧
  (∀ (x y : Int32) (ls : eL) (st : List Value) (h : eH), ru 132 8 ls (.int y :: .int x :: st) h = ru 132 9 ls (.int (x - y) :: st) h) ∧
  (∀ (x : Int32) (ls : eL) (h : eH), ru 132 9 ls [.int x] h = some (some (.int x), h)) := ⟨fun v t st h => ru_go rfl rfl,
  fun a ls st h => ru_getf rfl,
  fun v t st h => ru_go rfl rfl,
  fun a ls st h => ru_getf rfl,
  fun x y ls st h => ru_go rfl rfl,
  fun x ls h => ru_ret rfl rfl⟩
theorem E132 (a0 : Nat) {h : eH} {fs : List Value} (ha : h.1 a0 = .inr (5, fs)) : den 132 [.ref a0] h = ru 132 0 [some (.ref a0)] [] h := den_ob (Nat.le_of_ble_eq_true rfl) ha
/-! 133 X10_borne -/
set_option maxRecDepth 100000 in
theorem S133 : (∀ (v : Nat) (t : eL) (st : List Value) (h : eH), ru 133 0 (some (.ref v) :: t) st h = ru 133 1 (some (.ref v) :: t) (.ref v :: st) h) ∧
  (∀ (ls : eL) (st : List Value) (h : eH), ru 133 1 ls st h = ru 133 2 ls (.int (nI 1) :: st) h) ∧
  (∀ (a0 : Nat) (a1 : Int32) (ls : eL) (h : eH), ru 133 2 ls [.int a1, .ref a0] h = cl (den 123 [.ref a0, .int a1] h) (fun v h => ru 133 5 ls (v.toList ++ []) h)) ∧
  (∀ (v : Nat) (t : eL) (st : List Value) (h : eH), ru 133 5 (some (.ref v) :: t) st h = ru 133 6 (some (.ref v) :: t) (.ref v :: st) h) ∧
  (∀ (a : Nat) (ls : eL) (st : List Value) (h : eH), ru 133 6 ls (.ref a :: st) h = gF (h.1 a) 10 3 (fun v => ru 133 9 ls (v :: st) h)) ∧
  (∀ (v : Nat) (t : eL) (st : List Value) (h : eH), ru 133 9 (some (.ref v) :: t) st h = ru 133 10 (some (.ref v) :: t) (.ref v :: st) h) ∧
  (∀ (a : Nat) (ls : eL) (st : List Value) (h : eH), ru 133 10 ls (.ref a :: st) h = gF (h.1 a) 10 9 (fun v => ru 133 13 ls (v :: st) h)) ∧
  (∀ (a : Nat) (ls : eL) (st : List Value) (h : eH), ru 133 13 ls (.ref a :: st) h = gF (h.1 a) 6 2 (fun v => ru 133 16 ls (v :: st) h)) ∧
  (∀ (a0 : Nat) (a1 : Int32) (ls : eL) (h : eH), ru 133 16 ls [.int a1, .ref a0] h = cl (den 125 [.ref a0, .int a1] h) (fun v h => ru 133 19 ls (v.toList ++ []) h)) ∧
  (∀ (x : Int32) (ls : eL) (st : List Value) (h : eH), ru 133 19 ls (.int x :: st) h = if x = 0 then ru 133 22 ls st h else ru 133 24 ls st h) ∧
  (∀ (ls : eL) (st : List Value) (h : eH), ru 133 22 ls st h = ru 133 23 ls (.int (nI 0) :: st) h) ∧
  (∀ (x : Int32) (ls : eL) (h : eH), ru 133 23 ls [.int x] h = some (some (.int x), h)) ∧
  (∀ (v : Nat) (t : eL) (st : List Value) (h : eH), ru 133 24 (some (.ref v) :: t) st h = ru 133 25 (some (.ref v) :: t) (.ref v :: st) h) ∧
  (∀ (a : Nat) (ls : eL) (st : List Value) (h : eH), ru 133 25 ls (.ref a :: st) h = gF (h.1 a) 10 3 (fun v => ru 133 28 ls (v :: st) h)) ∧
  (∀ (a0 : Nat) (ls : eL) (h : eH), ru 133 28 ls [.ref a0] h = cl (den 132 [.ref a0] h) (fun v h => ru 133 31 ls (v.toList ++ []) h)) ∧
  (∀ (x : Int32) (ls : eL) (st : List Value) (h : eH), ru 133 31 ls (.int x :: st) h = if x = 0 then ru 133 34 ls st h else ru 133 38 ls st h) ∧
  (∀ (ls : eL) (st : List Value) (h : eH), ru 133 34 ls st h = ru 133 35 ls (.int (nI 1) :: st) h) ∧
  (∀ (ls : eL) (st : List Value) (h : eH), ru 133 35 ls st h = ru 133 39 ls st h) ∧
  (∀ (ls : eL) (st : List Value) (h : eH), ru 133 38 ls st h = ru 133 39 ls (.int (nI 2) :: st) h) ∧
  (∀ (x : Int32) (ls : eL) (h : eH), ru 133 39 ls [.int x] h = some (some (.int x), h)) := ⟨fun v t st h => ru_go rfl rfl,
  fun ls st h => ru_go rfl rfl,
  fun a0 a1 ls h => ru_inv rfl (by decide) rfl (Nat.le_of_ble_eq_true rfl),
  fun v t st h => ru_go rfl rfl,
  fun a ls st h => ru_getf rfl,
  fun v t st h => ru_go rfl rfl,
  fun a ls st h => ru_getf rfl,
  fun a ls st h => ru_getf rfl,
  fun a0 a1 ls h => ru_inv rfl (by decide) rfl (Nat.le_of_ble_eq_true rfl),
  fun x ls st h => ru_if rfl rfl,
  fun ls st h => ru_go rfl rfl,
  fun x ls h => ru_ret rfl rfl,
  fun v t st h => ru_go rfl rfl,
  fun a ls st h => ru_getf rfl,
  fun a0 ls h => ru_inv rfl (by decide) rfl (Nat.le_of_ble_eq_true rfl),
  fun x ls st h => ru_if rfl rfl,
  fun ls st h => ru_go rfl rfl,
  fun ls st h => ru_go rfl rfl,
  fun ls st h => ru_go rfl rfl,
  fun x ls h => ru_ret rfl rfl⟩
theorem E133 (a0 : Nat) {h : eH} {fs : List Value} (ha : h.1 a0 = .inr (10, fs)) : den 133 [.ref a0] h = ru 133 0 [some (.ref a0)] [] h := den_ob (Nat.le_of_ble_eq_true rfl) ha
/-! 134 X7_isFilled -/
set_option maxRecDepth 100000 in
theorem S134 : (∀ (v : Nat) (t : eL) (st : List Value) (h : eH), ru 134 0 (some (.ref v) :: t) st h = ru 134 1 (some (.ref v) :: t) (.ref v :: st) h) ∧
  (∀ (a : Nat) (ls : eL) (st : List Value) (h : eH), ru 134 1 ls (.ref a :: st) h = gF (h.1 a) 7 2 (fun v => ru 134 4 ls (v :: st) h)) ∧
  (∀ (x0 : Option Value) (v : Int32) (t : eL) (st : List Value) (h : eH), ru 134 4 (x0 :: some (.int v) :: t) st h = ru 134 5 (x0 :: some (.int v) :: t) (.int v :: st) h) ∧
  (∀ (i : Int32) (a : Nat) (ls : eL) (st : List Value) (h : eH), ru 134 5 ls (.int i :: .ref a :: st) h = aI (h.1 a) 0 i (fun v => ru 134 6 ls (.int v :: st) h)) ∧
  (∀ (ls : eL) (st : List Value) (h : eH), ru 134 6 ls st h = ru 134 7 ls (.int ((-1)) :: st) h) ∧
  (∀ (x y : Int32) (ls : eL) (st : List Value) (h : eH), ru 134 7 ls (.int y :: .int x :: st) h = if x = y then ru 134 14 ls st h else ru 134 10 ls st h) ∧
  (∀ (ls : eL) (st : List Value) (h : eH), ru 134 10 ls st h = ru 134 11 ls (.int (nI 1) :: st) h) ∧
  (∀ (ls : eL) (st : List Value) (h : eH), ru 134 11 ls st h = ru 134 15 ls st h) ∧
  (∀ (ls : eL) (st : List Value) (h : eH), ru 134 14 ls st h = ru 134 15 ls (.int (nI 0) :: st) h) ∧
  (∀ (x : Int32) (ls : eL) (h : eH), ru 134 15 ls [.int x] h = bo (x == 0 || x == 1) (some (some (.int x), h))) := ⟨fun v t st h => ru_go rfl rfl,
  fun a ls st h => ru_getf rfl,
  fun x0 v t st h => ru_go rfl rfl,
  fun i a ls st h => ru_iald rfl,
  fun ls st h => ru_go rfl rfl,
  fun x y ls st h => ru_if rfl rfl,
  fun ls st h => ru_go rfl rfl,
  fun ls st h => ru_go rfl rfl,
  fun ls st h => ru_go rfl rfl,
  fun x ls h => ru_bret rfl rfl⟩
theorem E134 (a0 : Nat) (a1 : Int32) {h : eH} {fs : List Value} (ha : h.1 a0 = .inr (7, fs)) : den 134 [.ref a0, .int a1] h = ru 134 0 [some (.ref a0), some (.int a1)] [] h := den_ob (Nat.le_of_ble_eq_true rfl) ha
/-! 135 X7_filled -/
set_option maxRecDepth 100000 in
theorem H135_4 : (∀ (x0 x1 : Option Value) (v : Int32) (t : eL) (st : List Value) (h : eH), ru 135 4 (x0 :: x1 :: some (.int v) :: t) st h = ru 135 5 (x0 :: x1 :: some (.int v) :: t) (.int v :: st) h) := fun x0 x1 v t st h => ru_go rfl rfl
set_option maxRecDepth 100000 in
theorem H135_32 : (∀ (x0 : Option Value) (v : Int32) (t : eL) (st : List Value) (h : eH), ru 135 32 (x0 :: some (.int v) :: t) st h = ru 135 33 (x0 :: some (.int v) :: t) (.int v :: st) h) := fun x0 v t st h => ru_go rfl rfl
set_option maxRecDepth 100000 in
theorem S135 : (∀ (ls : eL) (st : List Value) (h : eH), ru 135 0 ls st h = ru 135 1 ls (.int (nI 0) :: st) h) ∧
  (∀ (x0 x1 : Option Value) (v : Int32) (t : eL) (st : List Value) (h : eH), ru 135 1 (x0 :: x1 :: t) (.int v :: st) h = ru 135 2 (eKl x0 :: some (.int v) :: t) st h) ∧
  (∀ (ls : eL) (st : List Value) (h : eH), ru 135 2 ls st h = ru 135 3 ls (.int (nI 0) :: st) h) ∧
  (∀ (x0 x1 x2 : Option Value) (v : Int32) (t : eL) (st : List Value) (h : eH), ru 135 3 (x0 :: x1 :: x2 :: t) (.int v :: st) h = ru 135 4 (x0 :: eKl x1 :: some (.int v) :: t) st h) ∧
  (∀ (ls : eL) (st : List Value) (h : eH), ru 135 5 ls st h = ru 135 7 ls (.int (nI 8) :: st) h) ∧
  (∀ (x y : Int32) (ls : eL) (st : List Value) (h : eH), ru 135 7 ls (.int y :: .int x :: st) h = if y ≤ x then ru 135 32 ls st h else ru 135 10 ls st h) ∧
  (∀ (x0 : Option Value) (v : Int32) (t : eL) (st : List Value) (h : eH), ru 135 10 (x0 :: some (.int v) :: t) st h = ru 135 11 (x0 :: some (.int v) :: t) (.int v :: st) h) ∧
  (∀ (v : Nat) (t : eL) (st : List Value) (h : eH), ru 135 11 (some (.ref v) :: t) st h = ru 135 12 (some (.ref v) :: t) (.ref v :: st) h) ∧
  (∀ (x0 x1 : Option Value) (v : Int32) (t : eL) (st : List Value) (h : eH), ru 135 12 (x0 :: x1 :: some (.int v) :: t) st h = ru 135 13 (x0 :: x1 :: some (.int v) :: t) (.int v :: st) h) ∧
  (∀ (a0 : Nat) (a1 : Int32) (u0 : Int32) (ls : eL) (h : eH), ru 135 13 ls [.int a1, .ref a0, .int u0] h = cl (den 134 [.ref a0, .int a1] h) (fun v h => ru 135 16 ls (v.toList ++ [.int u0]) h)) ∧
  (∀ (x : Int32) (ls : eL) (st : List Value) (h : eH), ru 135 16 ls (.int x :: st) h = if x = 0 then ru 135 23 ls st h else ru 135 19 ls st h) ∧
  (∀ (ls : eL) (st : List Value) (h : eH), ru 135 19 ls st h = ru 135 20 ls (.int (nI 1) :: st) h) ∧
  (∀ (ls : eL) (st : List Value) (h : eH), ru 135 20 ls st h = ru 135 24 ls st h) ∧
  (∀ (ls : eL) (st : List Value) (h : eH), ru 135 23 ls st h = ru 135 24 ls (.int (nI 0) :: st) h) ∧
  (∀ (x y : Int32) (ls : eL) (st : List Value) (h : eH), ru 135 24 ls (.int y :: .int x :: st) h = ru 135 25 ls (.int (x + y) :: st) h) ∧
  (∀ (x0 x1 : Option Value) (v : Int32) (t : eL) (st : List Value) (h : eH), ru 135 25 (x0 :: x1 :: t) (.int v :: st) h = ru 135 26 (eKl x0 :: some (.int v) :: t) st h) ∧
  (∀ (x0 x1 : Option Value) (v : Int32) (t : eL) (st : List Value) (h : eH), ru 135 26 (x0 :: x1 :: some (.int v) :: t) st h = ru 135 29 (x0 :: eKl x1 :: some (.int (v + 1)) :: t) st h) ∧
  (∀ (ls : eL) (st : List Value) (h : eH), ru 135 29 ls st h = ru 135 4 ls st h) ∧
  (∀ (x : Int32) (ls : eL) (h : eH), ru 135 33 ls [.int x] h = some (some (.int x), h)) := ⟨fun ls st h => ru_go rfl rfl,
  fun x0 x1 v t st h => ru_go rfl rfl,
  fun ls st h => ru_go rfl rfl,
  fun x0 x1 x2 v t st h => ru_go rfl rfl,
  fun ls st h => ru_go rfl rfl,
  fun x y ls st h => ru_if rfl rfl,
  fun x0 v t st h => ru_go rfl rfl,
  fun v t st h => ru_go rfl rfl,
  fun x0 x1 v t st h => ru_go rfl rfl,
  fun a0 a1 u0 ls h => ru_inv rfl (by decide) rfl (Nat.le_of_ble_eq_true rfl),
  fun x ls st h => ru_if rfl rfl,
  fun ls st h => ru_go rfl rfl,
  fun ls st h => ru_go rfl rfl,
  fun ls st h => ru_go rfl rfl,
  fun x y ls st h => ru_go rfl rfl,
  fun x0 x1 v t st h => ru_go rfl rfl,
  fun x0 x1 v t st h => ru_go rfl rfl,
  fun ls st h => ru_go rfl rfl,
  fun x ls h => ru_ret rfl rfl⟩
theorem E135 (a0 : Nat) {h : eH} {fs : List Value} (ha : h.1 a0 = .inr (7, fs)) : den 135 [.ref a0] h = ru 135 0 [some (.ref a0), none, none] [] h := den_ob (Nat.le_of_ble_eq_true rfl) ha
/-! 136 X10_count -/
set_option maxRecDepth 100000 in
theorem S136 : (∀ (x0 : Option Value) (v : Int32) (t : eL) (st : List Value) (h : eH), ru 136 0 (x0 :: some (.int v) :: t) st h = ru 136 1 (x0 :: some (.int v) :: t) (.int v :: st) h) ∧
  (∀ (x : Int32) (ls : eL) (st : List Value) (h : eH), ru 136 1 ls (.int x :: st) h = swF (eSw 1 x 63 0 3 #[31, 39, 47, 55]) (fun z => ru 136 z ls st h)) ∧
  (∀ (v : Nat) (t : eL) (st : List Value) (h : eH), ru 136 32 (some (.ref v) :: t) st h = ru 136 33 (some (.ref v) :: t) (.ref v :: st) h) ∧
  (∀ (a : Nat) (ls : eL) (st : List Value) (h : eH), ru 136 33 ls (.ref a :: st) h = gF (h.1 a) 10 9 (fun v => ru 136 36 ls (v :: st) h)) ∧
  (∀ (a : Nat) (ls : eL) (st : List Value) (h : eH), ru 136 36 ls (.ref a :: st) h = gF (h.1 a) 6 0 (fun v => ru 136 39 ls (v :: st) h)) ∧
  (∀ (x : Int32) (ls : eL) (h : eH), ru 136 39 ls [.int x] h = some (some (.int x), h)) ∧
  (∀ (v : Nat) (t : eL) (st : List Value) (h : eH), ru 136 40 (some (.ref v) :: t) st h = ru 136 41 (some (.ref v) :: t) (.ref v :: st) h) ∧
  (∀ (a : Nat) (ls : eL) (st : List Value) (h : eH), ru 136 41 ls (.ref a :: st) h = gF (h.1 a) 10 9 (fun v => ru 136 44 ls (v :: st) h)) ∧
  (∀ (a : Nat) (ls : eL) (st : List Value) (h : eH), ru 136 44 ls (.ref a :: st) h = gF (h.1 a) 6 1 (fun v => ru 136 47 ls (v :: st) h)) ∧
  (∀ (x : Int32) (ls : eL) (h : eH), ru 136 47 ls [.int x] h = some (some (.int x), h)) ∧
  (∀ (v : Nat) (t : eL) (st : List Value) (h : eH), ru 136 48 (some (.ref v) :: t) st h = ru 136 49 (some (.ref v) :: t) (.ref v :: st) h) ∧
  (∀ (a : Nat) (ls : eL) (st : List Value) (h : eH), ru 136 49 ls (.ref a :: st) h = gF (h.1 a) 10 9 (fun v => ru 136 52 ls (v :: st) h)) ∧
  (∀ (a : Nat) (ls : eL) (st : List Value) (h : eH), ru 136 52 ls (.ref a :: st) h = gF (h.1 a) 6 2 (fun v => ru 136 55 ls (v :: st) h)) ∧
  (∀ (x : Int32) (ls : eL) (h : eH), ru 136 55 ls [.int x] h = some (some (.int x), h)) ∧
  (∀ (v : Nat) (t : eL) (st : List Value) (h : eH), ru 136 56 (some (.ref v) :: t) st h = ru 136 57 (some (.ref v) :: t) (.ref v :: st) h) ∧
  (∀ (a : Nat) (ls : eL) (st : List Value) (h : eH), ru 136 57 ls (.ref a :: st) h = gF (h.1 a) 10 0 (fun v => ru 136 60 ls (v :: st) h)) ∧
  (∀ (a0 : Nat) (ls : eL) (h : eH), ru 136 60 ls [.ref a0] h = cl (den 135 [.ref a0] h) (fun v h => ru 136 63 ls (v.toList ++ []) h)) ∧
  (∀ (x : Int32) (ls : eL) (h : eH), ru 136 63 ls [.int x] h = some (some (.int x), h)) ∧
  (∀ (ls : eL) (st : List Value) (h : eH), ru 136 64 ls st h = ru 136 65 ls (.int ((-1)) :: st) h) ∧
  (∀ (x : Int32) (ls : eL) (h : eH), ru 136 65 ls [.int x] h = some (some (.int x), h)) := ⟨fun x0 v t st h => ru_go rfl rfl,
  fun x ls st h => ru_sw rfl,
  fun v t st h => ru_go rfl rfl,
  fun a ls st h => ru_getf rfl,
  fun a ls st h => ru_getf rfl,
  fun x ls h => ru_ret rfl rfl,
  fun v t st h => ru_go rfl rfl,
  fun a ls st h => ru_getf rfl,
  fun a ls st h => ru_getf rfl,
  fun x ls h => ru_ret rfl rfl,
  fun v t st h => ru_go rfl rfl,
  fun a ls st h => ru_getf rfl,
  fun a ls st h => ru_getf rfl,
  fun x ls h => ru_ret rfl rfl,
  fun v t st h => ru_go rfl rfl,
  fun a ls st h => ru_getf rfl,
  fun a0 ls h => ru_inv rfl (by decide) rfl (Nat.le_of_ble_eq_true rfl),
  fun x ls h => ru_ret rfl rfl,
  fun ls st h => ru_go rfl rfl,
  fun x ls h => ru_ret rfl rfl⟩
theorem E136 (a0 : Nat) (a1 : Int32) {h : eH} {fs : List Value} (ha : h.1 a0 = .inr (10, fs)) : den 136 [.ref a0, .int a1] h = ru 136 0 [some (.ref a0), some (.int a1)] [] h := den_ob (Nat.le_of_ble_eq_true rfl) ha
/-! 137 X6_pullsAt -/
set_option maxRecDepth 100000 in
theorem H137_5 : (∀ (x0 x1 x2 x3 : Option Value) (v : Int32) (t : eL) (st : List Value) (h : eH), ru 137 5 (x0 :: x1 :: x2 :: x3 :: some (.int v) :: t) st h = ru 137 7 (x0 :: x1 :: x2 :: x3 :: some (.int v) :: t) (.int v :: st) h) := fun x0 x1 x2 x3 v t st h => ru_go rfl rfl
set_option maxRecDepth 100000 in
theorem H137_78 : (∀ (x0 x1 x2 : Option Value) (v : Int32) (t : eL) (st : List Value) (h : eH), ru 137 78 (x0 :: x1 :: x2 :: some (.int v) :: t) st h = ru 137 79 (x0 :: x1 :: x2 :: some (.int v) :: t) (.int v :: st) h) := fun x0 x1 x2 v t st h => ru_go rfl rfl
set_option maxRecDepth 100000 in
theorem S137 : (∀ (ls : eL) (st : List Value) (h : eH), ru 137 0 ls st h = ru 137 1 ls (.int (nI 0) :: st) h) ∧
  (∀ (x0 x1 x2 x3 : Option Value) (v : Int32) (t : eL) (st : List Value) (h : eH), ru 137 1 (x0 :: x1 :: x2 :: x3 :: t) (.int v :: st) h = ru 137 2 (x0 :: x1 :: eKl x2 :: some (.int v) :: t) st h) ∧
  (∀ (ls : eL) (st : List Value) (h : eH), ru 137 2 ls st h = ru 137 3 ls (.int (nI 0) :: st) h) ∧
  (∀ (x0 x1 x2 x3 x4 : Option Value) (v : Int32) (t : eL) (st : List Value) (h : eH), ru 137 3 (x0 :: x1 :: x2 :: x3 :: x4 :: t) (.int v :: st) h = ru 137 5 (x0 :: x1 :: x2 :: eKl x3 :: some (.int v) :: t) st h) ∧
  (∀ (v : Nat) (t : eL) (st : List Value) (h : eH), ru 137 7 (some (.ref v) :: t) st h = ru 137 8 (some (.ref v) :: t) (.ref v :: st) h) ∧
  (∀ (a : Nat) (ls : eL) (st : List Value) (h : eH), ru 137 8 ls (.ref a :: st) h = gF (h.1 a) 6 2 (fun v => ru 137 11 ls (v :: st) h)) ∧
  (∀ (x y : Int32) (ls : eL) (st : List Value) (h : eH), ru 137 11 ls (.int y :: .int x :: st) h = if y ≤ x then ru 137 78 ls st h else ru 137 14 ls st h) ∧
  (∀ (v : Nat) (t : eL) (st : List Value) (h : eH), ru 137 14 (some (.ref v) :: t) st h = ru 137 15 (some (.ref v) :: t) (.ref v :: st) h) ∧
  (∀ (a : Nat) (ls : eL) (st : List Value) (h : eH), ru 137 15 ls (.ref a :: st) h = gF (h.1 a) 6 6 (fun v => ru 137 18 ls (v :: st) h)) ∧
  (∀ (x0 x1 x2 x3 : Option Value) (v : Int32) (t : eL) (st : List Value) (h : eH), ru 137 18 (x0 :: x1 :: x2 :: x3 :: some (.int v) :: t) st h = ru 137 20 (x0 :: x1 :: x2 :: x3 :: some (.int v) :: t) (.int v :: st) h) ∧
  (∀ (i : Int32) (a : Nat) (ls : eL) (st : List Value) (h : eH), ru 137 20 ls (.int i :: .ref a :: st) h = aI (h.1 a) 0 i (fun v => ru 137 21 ls (.int v :: st) h)) ∧
  (∀ (x0 : Option Value) (v : Int32) (t : eL) (st : List Value) (h : eH), ru 137 21 (x0 :: some (.int v) :: t) st h = ru 137 22 (x0 :: some (.int v) :: t) (.int v :: st) h) ∧
  (∀ (x y : Int32) (ls : eL) (st : List Value) (h : eH), ru 137 22 ls (.int y :: .int x :: st) h = if x = y then ru 137 25 ls st h else ru 137 43 ls st h) ∧
  (∀ (x0 x1 x2 : Option Value) (v : Int32) (t : eL) (st : List Value) (h : eH), ru 137 25 (x0 :: x1 :: x2 :: some (.int v) :: t) st h = ru 137 26 (x0 :: x1 :: x2 :: some (.int v) :: t) (.int v :: st) h) ∧
  (∀ (v : Nat) (t : eL) (st : List Value) (h : eH), ru 137 26 (some (.ref v) :: t) st h = ru 137 27 (some (.ref v) :: t) (.ref v :: st) h) ∧
  (∀ (a : Nat) (ls : eL) (st : List Value) (h : eH), ru 137 27 ls (.ref a :: st) h = gF (h.1 a) 6 9 (fun v => ru 137 30 ls (v :: st) h)) ∧
  (∀ (x0 x1 x2 x3 : Option Value) (v : Int32) (t : eL) (st : List Value) (h : eH), ru 137 30 (x0 :: x1 :: x2 :: x3 :: some (.int v) :: t) st h = ru 137 32 (x0 :: x1 :: x2 :: x3 :: some (.int v) :: t) (.int v :: st) h) ∧
  (∀ (i : Int32) (a : Nat) (ls : eL) (st : List Value) (h : eH), ru 137 32 ls (.int i :: .ref a :: st) h = aI (h.1 a) 0 i (fun v => ru 137 33 ls (.int v :: st) h)) ∧
  (∀ (v : Nat) (t : eL) (st : List Value) (h : eH), ru 137 33 (some (.ref v) :: t) st h = ru 137 34 (some (.ref v) :: t) (.ref v :: st) h) ∧
  (∀ (x0 x1 x2 x3 : Option Value) (v : Int32) (t : eL) (st : List Value) (h : eH), ru 137 34 (x0 :: x1 :: x2 :: x3 :: some (.int v) :: t) st h = ru 137 36 (x0 :: x1 :: x2 :: x3 :: some (.int v) :: t) (.int v :: st) h) ∧
  (∀ (x0 x1 : Option Value) (v : Int32) (t : eL) (st : List Value) (h : eH), ru 137 36 (x0 :: x1 :: some (.int v) :: t) st h = ru 137 37 (x0 :: x1 :: some (.int v) :: t) (.int v :: st) h) ∧
  (∀ (a0 : Nat) (a1 : Int32) (a2 : Int32) (u0 : Int32) (u1 : Int32) (ls : eL) (h : eH), ru 137 37 ls [.int a2, .int a1, .ref a0, .int u0, .int u1] h = cl (den 109 [.ref a0, .int a1, .int a2] h) (fun v h => ru 137 40 ls (v.toList ++ [.int u0, .int u1]) h)) ∧
  (∀ (x y : Int32) (ls : eL) (st : List Value) (h : eH), ru 137 40 ls (.int y :: .int x :: st) h = ru 137 41 ls (.int (x * y) :: st) h) ∧
  (∀ (x y : Int32) (ls : eL) (st : List Value) (h : eH), ru 137 41 ls (.int y :: .int x :: st) h = ru 137 42 ls (.int (x + y) :: st) h) ∧
  (∀ (x0 x1 x2 x3 : Option Value) (v : Int32) (t : eL) (st : List Value) (h : eH), ru 137 42 (x0 :: x1 :: x2 :: x3 :: t) (.int v :: st) h = ru 137 43 (x0 :: x1 :: eKl x2 :: some (.int v) :: t) st h) ∧
  (∀ (v : Nat) (t : eL) (st : List Value) (h : eH), ru 137 43 (some (.ref v) :: t) st h = ru 137 44 (some (.ref v) :: t) (.ref v :: st) h) ∧
  (∀ (a : Nat) (ls : eL) (st : List Value) (h : eH), ru 137 44 ls (.ref a :: st) h = gF (h.1 a) 6 7 (fun v => ru 137 47 ls (v :: st) h)) ∧
  (∀ (x0 x1 x2 x3 : Option Value) (v : Int32) (t : eL) (st : List Value) (h : eH), ru 137 47 (x0 :: x1 :: x2 :: x3 :: some (.int v) :: t) st h = ru 137 49 (x0 :: x1 :: x2 :: x3 :: some (.int v) :: t) (.int v :: st) h) ∧
  (∀ (i : Int32) (a : Nat) (ls : eL) (st : List Value) (h : eH), ru 137 49 ls (.int i :: .ref a :: st) h = aI (h.1 a) 0 i (fun v => ru 137 50 ls (.int v :: st) h)) ∧
  (∀ (x0 : Option Value) (v : Int32) (t : eL) (st : List Value) (h : eH), ru 137 50 (x0 :: some (.int v) :: t) st h = ru 137 51 (x0 :: some (.int v) :: t) (.int v :: st) h) ∧
  (∀ (x y : Int32) (ls : eL) (st : List Value) (h : eH), ru 137 51 ls (.int y :: .int x :: st) h = if x = y then ru 137 54 ls st h else ru 137 72 ls st h) ∧
  (∀ (x0 x1 x2 : Option Value) (v : Int32) (t : eL) (st : List Value) (h : eH), ru 137 54 (x0 :: x1 :: x2 :: some (.int v) :: t) st h = ru 137 55 (x0 :: x1 :: x2 :: some (.int v) :: t) (.int v :: st) h) ∧
  (∀ (v : Nat) (t : eL) (st : List Value) (h : eH), ru 137 55 (some (.ref v) :: t) st h = ru 137 56 (some (.ref v) :: t) (.ref v :: st) h) ∧
  (∀ (a : Nat) (ls : eL) (st : List Value) (h : eH), ru 137 56 ls (.ref a :: st) h = gF (h.1 a) 6 9 (fun v => ru 137 59 ls (v :: st) h)) ∧
  (∀ (x0 x1 x2 x3 : Option Value) (v : Int32) (t : eL) (st : List Value) (h : eH), ru 137 59 (x0 :: x1 :: x2 :: x3 :: some (.int v) :: t) st h = ru 137 61 (x0 :: x1 :: x2 :: x3 :: some (.int v) :: t) (.int v :: st) h) ∧
  (∀ (i : Int32) (a : Nat) (ls : eL) (st : List Value) (h : eH), ru 137 61 ls (.int i :: .ref a :: st) h = aI (h.1 a) 0 i (fun v => ru 137 62 ls (.int v :: st) h)) ∧
  (∀ (v : Nat) (t : eL) (st : List Value) (h : eH), ru 137 62 (some (.ref v) :: t) st h = ru 137 63 (some (.ref v) :: t) (.ref v :: st) h) ∧
  (∀ (x0 x1 x2 x3 : Option Value) (v : Int32) (t : eL) (st : List Value) (h : eH), ru 137 63 (x0 :: x1 :: x2 :: x3 :: some (.int v) :: t) st h = ru 137 65 (x0 :: x1 :: x2 :: x3 :: some (.int v) :: t) (.int v :: st) h) ∧
  (∀ (x0 x1 : Option Value) (v : Int32) (t : eL) (st : List Value) (h : eH), ru 137 65 (x0 :: x1 :: some (.int v) :: t) st h = ru 137 66 (x0 :: x1 :: some (.int v) :: t) (.int v :: st) h) ∧
  (∀ (a0 : Nat) (a1 : Int32) (a2 : Int32) (u0 : Int32) (u1 : Int32) (ls : eL) (h : eH), ru 137 66 ls [.int a2, .int a1, .ref a0, .int u0, .int u1] h = cl (den 109 [.ref a0, .int a1, .int a2] h) (fun v h => ru 137 69 ls (v.toList ++ [.int u0, .int u1]) h)) ∧
  (∀ (x y : Int32) (ls : eL) (st : List Value) (h : eH), ru 137 69 ls (.int y :: .int x :: st) h = ru 137 70 ls (.int (x * y) :: st) h) ∧
  (∀ (x y : Int32) (ls : eL) (st : List Value) (h : eH), ru 137 70 ls (.int y :: .int x :: st) h = ru 137 71 ls (.int (x - y) :: st) h) ∧
  (∀ (x0 x1 x2 x3 : Option Value) (v : Int32) (t : eL) (st : List Value) (h : eH), ru 137 71 (x0 :: x1 :: x2 :: x3 :: t) (.int v :: st) h = ru 137 72 (x0 :: x1 :: eKl x2 :: some (.int v) :: t) st h) ∧
  (∀ (x0 x1 x2 x3 : Option Value) (v : Int32) (t : eL) (st : List Value) (h : eH), ru 137 72 (x0 :: x1 :: x2 :: x3 :: some (.int v) :: t) st h = ru 137 75 (x0 :: x1 :: x2 :: eKl x3 :: some (.int (v + 1)) :: t) st h) ∧
  (∀ (ls : eL) (st : List Value) (h : eH), ru 137 75 ls st h = ru 137 5 ls st h) ∧
  (∀ (x : Int32) (ls : eL) (h : eH), ru 137 79 ls [.int x] h = some (some (.int x), h)) := ⟨fun ls st h => ru_go rfl rfl,
  fun x0 x1 x2 x3 v t st h => ru_go rfl rfl,
  fun ls st h => ru_go rfl rfl,
  fun x0 x1 x2 x3 x4 v t st h => ru_go rfl rfl,
  fun v t st h => ru_go rfl rfl,
  fun a ls st h => ru_getf rfl,
  fun x y ls st h => ru_if rfl rfl,
  fun v t st h => ru_go rfl rfl,
  fun a ls st h => ru_getf rfl,
  fun x0 x1 x2 x3 v t st h => ru_go rfl rfl,
  fun i a ls st h => ru_iald rfl,
  fun x0 v t st h => ru_go rfl rfl,
  fun x y ls st h => ru_if rfl rfl,
  fun x0 x1 x2 v t st h => ru_go rfl rfl,
  fun v t st h => ru_go rfl rfl,
  fun a ls st h => ru_getf rfl,
  fun x0 x1 x2 x3 v t st h => ru_go rfl rfl,
  fun i a ls st h => ru_iald rfl,
  fun v t st h => ru_go rfl rfl,
  fun x0 x1 x2 x3 v t st h => ru_go rfl rfl,
  fun x0 x1 v t st h => ru_go rfl rfl,
  fun a0 a1 a2 u0 u1 ls h => ru_inv rfl (by decide) rfl (Nat.le_of_ble_eq_true rfl),
  fun x y ls st h => ru_go rfl rfl,
  fun x y ls st h => ru_go rfl rfl,
  fun x0 x1 x2 x3 v t st h => ru_go rfl rfl,
  fun v t st h => ru_go rfl rfl,
  fun a ls st h => ru_getf rfl,
  fun x0 x1 x2 x3 v t st h => ru_go rfl rfl,
  fun i a ls st h => ru_iald rfl,
  fun x0 v t st h => ru_go rfl rfl,
  fun x y ls st h => ru_if rfl rfl,
  fun x0 x1 x2 v t st h => ru_go rfl rfl,
  fun v t st h => ru_go rfl rfl,
  fun a ls st h => ru_getf rfl,
  fun x0 x1 x2 x3 v t st h => ru_go rfl rfl,
  fun i a ls st h => ru_iald rfl,
  fun v t st h => ru_go rfl rfl,
  fun x0 x1 x2 x3 v t st h => ru_go rfl rfl,
  fun x0 x1 v t st h => ru_go rfl rfl,
  fun a0 a1 a2 u0 u1 ls h => ru_inv rfl (by decide) rfl (Nat.le_of_ble_eq_true rfl),
  fun x y ls st h => ru_go rfl rfl,
  fun x y ls st h => ru_go rfl rfl,
  fun x0 x1 x2 x3 v t st h => ru_go rfl rfl,
  fun x0 x1 x2 x3 v t st h => ru_go rfl rfl,
  fun ls st h => ru_go rfl rfl,
  fun x ls h => ru_ret rfl rfl⟩
theorem E137 (a0 : Nat) (a1 : Int32) (a2 : Int32) {h : eH} {fs : List Value} (ha : h.1 a0 = .inr (6, fs)) : den 137 [.ref a0, .int a1, .int a2] h = ru 137 0 [some (.ref a0), some (.int a1), some (.int a2), none, none] [] h := den_ob (Nat.le_of_ble_eq_true rfl) ha
/-! 138 X6_isEven -/
set_option maxRecDepth 100000 in
theorem H138_2 : (∀ (x0 x1 : Option Value) (v : Int32) (t : eL) (st : List Value) (h : eH), ru 138 2 (x0 :: x1 :: some (.int v) :: t) st h = ru 138 3 (x0 :: x1 :: some (.int v) :: t) (.int v :: st) h) := fun x0 x1 v t st h => ru_go rfl rfl
set_option maxRecDepth 100000 in
theorem H138_12 : (∀ (x0 x1 x2 : Option Value) (v : Int32) (t : eL) (st : List Value) (h : eH), ru 138 12 (x0 :: x1 :: x2 :: some (.int v) :: t) st h = ru 138 13 (x0 :: x1 :: x2 :: some (.int v) :: t) (.int v :: st) h) := fun x0 x1 x2 v t st h => ru_go rfl rfl
set_option maxRecDepth 100000 in
theorem H138_63 : (∀ (x0 x1 : Option Value) (v : Int32) (t : eL) (st : List Value) (h : eH), ru 138 63 (x0 :: x1 :: some (.int v) :: t) st h = ru 138 66 (x0 :: eKl x1 :: some (.int (v + 1)) :: t) st h) := fun x0 x1 v t st h => ru_go rfl rfl
set_option maxRecDepth 100000 in
theorem H138_69 : (∀ (ls : eL) (st : List Value) (h : eH), ru 138 69 ls st h = ru 138 70 ls (.int (nI 1) :: st) h) := fun ls st h => ru_go rfl rfl
set_option maxRecDepth 100000 in
theorem S138 : (∀ (ls : eL) (st : List Value) (h : eH), ru 138 0 ls st h = ru 138 1 ls (.int (nI 0) :: st) h) ∧
  (∀ (x0 x1 x2 : Option Value) (v : Int32) (t : eL) (st : List Value) (h : eH), ru 138 1 (x0 :: x1 :: x2 :: t) (.int v :: st) h = ru 138 2 (x0 :: eKl x1 :: some (.int v) :: t) st h) ∧
  (∀ (v : Nat) (t : eL) (st : List Value) (h : eH), ru 138 3 (some (.ref v) :: t) st h = ru 138 4 (some (.ref v) :: t) (.ref v :: st) h) ∧
  (∀ (a : Nat) (ls : eL) (st : List Value) (h : eH), ru 138 4 ls (.ref a :: st) h = gF (h.1 a) 6 0 (fun v => ru 138 7 ls (v :: st) h)) ∧
  (∀ (x y : Int32) (ls : eL) (st : List Value) (h : eH), ru 138 7 ls (.int y :: .int x :: st) h = if y ≤ x then ru 138 69 ls st h else ru 138 10 ls st h) ∧
  (∀ (ls : eL) (st : List Value) (h : eH), ru 138 10 ls st h = ru 138 11 ls (.int (nI 0) :: st) h) ∧
  (∀ (x0 x1 x2 x3 : Option Value) (v : Int32) (t : eL) (st : List Value) (h : eH), ru 138 11 (x0 :: x1 :: x2 :: x3 :: t) (.int v :: st) h = ru 138 12 (x0 :: x1 :: eKl x2 :: some (.int v) :: t) st h) ∧
  (∀ (ls : eL) (st : List Value) (h : eH), ru 138 13 ls st h = ru 138 14 ls (.int (nI 2) :: st) h) ∧
  (∀ (x y : Int32) (ls : eL) (st : List Value) (h : eH), ru 138 14 ls (.int y :: .int x :: st) h = if y ≤ x then ru 138 63 ls st h else ru 138 17 ls st h) ∧
  (∀ (v : Nat) (t : eL) (st : List Value) (h : eH), ru 138 17 (some (.ref v) :: t) st h = ru 138 18 (some (.ref v) :: t) (.ref v :: st) h) ∧
  (∀ (x0 x1 : Option Value) (v : Int32) (t : eL) (st : List Value) (h : eH), ru 138 18 (x0 :: x1 :: some (.int v) :: t) st h = ru 138 19 (x0 :: x1 :: some (.int v) :: t) (.int v :: st) h) ∧
  (∀ (a0 : Nat) (a1 : Int32) (ls : eL) (h : eH), ru 138 19 ls [.int a1, .ref a0] h = cl (den 107 [.ref a0, .int a1] h) (fun v h => ru 138 22 ls (v.toList ++ []) h)) ∧
  (∀ (x : Int32) (ls : eL) (st : List Value) (h : eH), ru 138 22 ls (.int x :: st) h = if x = 0 then ru 138 25 ls st h else ru 138 63 ls st h) ∧
  (∀ (v : Nat) (t : eL) (st : List Value) (h : eH), ru 138 25 (some (.ref v) :: t) st h = ru 138 26 (some (.ref v) :: t) (.ref v :: st) h) ∧
  (∀ (x0 x1 : Option Value) (v : Int32) (t : eL) (st : List Value) (h : eH), ru 138 26 (x0 :: x1 :: some (.int v) :: t) st h = ru 138 27 (x0 :: x1 :: some (.int v) :: t) (.int v :: st) h) ∧
  (∀ (x0 x1 x2 : Option Value) (v : Int32) (t : eL) (st : List Value) (h : eH), ru 138 27 (x0 :: x1 :: x2 :: some (.int v) :: t) st h = ru 138 28 (x0 :: x1 :: x2 :: some (.int v) :: t) (.int v :: st) h) ∧
  (∀ (a0 : Nat) (a1 : Int32) (a2 : Int32) (ls : eL) (h : eH), ru 138 28 ls [.int a2, .int a1, .ref a0] h = cl (den 137 [.ref a0, .int a1, .int a2] h) (fun v h => ru 138 31 ls (v.toList ++ []) h)) ∧
  (∀ (x0 : Option Value) (v : Int32) (t : eL) (st : List Value) (h : eH), ru 138 31 (x0 :: some (.int v) :: t) st h = ru 138 32 (x0 :: some (.int v) :: t) (.int v :: st) h) ∧
  (∀ (x : Int32) (ls : eL) (st : List Value) (h : eH), ru 138 32 ls (.int x :: st) h = if x = 0 then ru 138 46 ls st h else ru 138 35 ls st h) ∧
  (∀ (v : Nat) (t : eL) (st : List Value) (h : eH), ru 138 35 (some (.ref v) :: t) st h = ru 138 36 (some (.ref v) :: t) (.ref v :: st) h) ∧
  (∀ (a : Nat) (ls : eL) (st : List Value) (h : eH), ru 138 36 ls (.ref a :: st) h = gF (h.1 a) 6 4 (fun v => ru 138 39 ls (v :: st) h)) ∧
  (∀ (x0 x1 x2 : Option Value) (v : Int32) (t : eL) (st : List Value) (h : eH), ru 138 39 (x0 :: x1 :: x2 :: some (.int v) :: t) st h = ru 138 40 (x0 :: x1 :: x2 :: some (.int v) :: t) (.int v :: st) h) ∧
  (∀ (i : Int32) (a : Nat) (ls : eL) (st : List Value) (h : eH), ru 138 40 ls (.int i :: .ref a :: st) h = aQ (h.1 a) i (fun v => ru 138 41 ls (.ref v :: st) h)) ∧
  (∀ (x0 x1 : Option Value) (v : Int32) (t : eL) (st : List Value) (h : eH), ru 138 41 (x0 :: x1 :: some (.int v) :: t) st h = ru 138 42 (x0 :: x1 :: some (.int v) :: t) (.int v :: st) h) ∧
  (∀ (i : Int32) (a : Nat) (ls : eL) (st : List Value) (h : eH), ru 138 42 ls (.int i :: .ref a :: st) h = aI (h.1 a) 0 i (fun v => ru 138 43 ls (.int v :: st) h)) ∧
  (∀ (ls : eL) (st : List Value) (h : eH), ru 138 43 ls st h = ru 138 47 ls st h) ∧
  (∀ (ls : eL) (st : List Value) (h : eH), ru 138 46 ls st h = ru 138 47 ls (.int (nI 0) :: st) h) ∧
  (∀ (x y : Int32) (ls : eL) (st : List Value) (h : eH), ru 138 47 ls (.int y :: .int x :: st) h = ru 138 48 ls (.int (x + y) :: st) h) ∧
  (∀ (x0 x1 x2 x3 x4 : Option Value) (v : Int32) (t : eL) (st : List Value) (h : eH), ru 138 48 (x0 :: x1 :: x2 :: x3 :: x4 :: t) (.int v :: st) h = ru 138 50 (x0 :: x1 :: x2 :: eKl x3 :: some (.int v) :: t) st h) ∧
  (∀ (x0 x1 x2 x3 : Option Value) (v : Int32) (t : eL) (st : List Value) (h : eH), ru 138 50 (x0 :: x1 :: x2 :: x3 :: some (.int v) :: t) st h = ru 138 52 (x0 :: x1 :: x2 :: x3 :: some (.int v) :: t) (.int v :: st) h) ∧
  (∀ (x : Int32) (ls : eL) (st : List Value) (h : eH), ru 138 52 ls (.int x :: st) h = if x = 0 then ru 138 57 ls st h else ru 138 55 ls st h) ∧
  (∀ (ls : eL) (st : List Value) (h : eH), ru 138 55 ls st h = ru 138 56 ls (.int (nI 0) :: st) h) ∧
  (∀ (x : Int32) (ls : eL) (h : eH), ru 138 56 ls [.int x] h = bo (x == 0 || x == 1) (some (some (.int x), h))) ∧
  (∀ (x0 x1 x2 : Option Value) (v : Int32) (t : eL) (st : List Value) (h : eH), ru 138 57 (x0 :: x1 :: x2 :: some (.int v) :: t) st h = ru 138 60 (x0 :: x1 :: eKl x2 :: some (.int (v + 1)) :: t) st h) ∧
  (∀ (ls : eL) (st : List Value) (h : eH), ru 138 60 ls st h = ru 138 12 ls st h) ∧
  (∀ (ls : eL) (st : List Value) (h : eH), ru 138 66 ls st h = ru 138 2 ls st h) ∧
  (∀ (x : Int32) (ls : eL) (h : eH), ru 138 70 ls [.int x] h = bo (x == 0 || x == 1) (some (some (.int x), h))) := ⟨fun ls st h => ru_go rfl rfl,
  fun x0 x1 x2 v t st h => ru_go rfl rfl,
  fun v t st h => ru_go rfl rfl,
  fun a ls st h => ru_getf rfl,
  fun x y ls st h => ru_if rfl rfl,
  fun ls st h => ru_go rfl rfl,
  fun x0 x1 x2 x3 v t st h => ru_go rfl rfl,
  fun ls st h => ru_go rfl rfl,
  fun x y ls st h => ru_if rfl rfl,
  fun v t st h => ru_go rfl rfl,
  fun x0 x1 v t st h => ru_go rfl rfl,
  fun a0 a1 ls h => ru_inv rfl (by decide) rfl (Nat.le_of_ble_eq_true rfl),
  fun x ls st h => ru_if rfl rfl,
  fun v t st h => ru_go rfl rfl,
  fun x0 x1 v t st h => ru_go rfl rfl,
  fun x0 x1 x2 v t st h => ru_go rfl rfl,
  fun a0 a1 a2 ls h => ru_inv rfl (by decide) rfl (Nat.le_of_ble_eq_true rfl),
  fun x0 v t st h => ru_go rfl rfl,
  fun x ls st h => ru_if rfl rfl,
  fun v t st h => ru_go rfl rfl,
  fun a ls st h => ru_getf rfl,
  fun x0 x1 x2 v t st h => ru_go rfl rfl,
  fun i a ls st h => ru_aald rfl,
  fun x0 x1 v t st h => ru_go rfl rfl,
  fun i a ls st h => ru_iald rfl,
  fun ls st h => ru_go rfl rfl,
  fun ls st h => ru_go rfl rfl,
  fun x y ls st h => ru_go rfl rfl,
  fun x0 x1 x2 x3 x4 v t st h => ru_go rfl rfl,
  fun x0 x1 x2 x3 v t st h => ru_go rfl rfl,
  fun x ls st h => ru_if rfl rfl,
  fun ls st h => ru_go rfl rfl,
  fun x ls h => ru_bret rfl rfl,
  fun x0 x1 x2 v t st h => ru_go rfl rfl,
  fun ls st h => ru_go rfl rfl,
  fun ls st h => ru_go rfl rfl,
  fun x ls h => ru_bret rfl rfl⟩
theorem E138 (a0 : Nat) (a1 : Int32) {h : eH} {fs : List Value} (ha : h.1 a0 = .inr (6, fs)) : den 138 [.ref a0, .int a1] h = ru 138 0 [some (.ref a0), some (.int a1), none, none, none] [] h := den_ob (Nat.le_of_ble_eq_true rfl) ha
/-! 139 X10_even -/
set_option maxRecDepth 100000 in
theorem S139 : (∀ (v : Nat) (t : eL) (st : List Value) (h : eH), ru 139 0 (some (.ref v) :: t) st h = ru 139 1 (some (.ref v) :: t) (.ref v :: st) h) ∧
  (∀ (a : Nat) (ls : eL) (st : List Value) (h : eH), ru 139 1 ls (.ref a :: st) h = gF (h.1 a) 10 9 (fun v => ru 139 4 ls (v :: st) h)) ∧
  (∀ (ls : eL) (st : List Value) (h : eH), ru 139 4 ls st h = ru 139 5 ls (.int (nI 1) :: st) h) ∧
  (∀ (a0 : Nat) (a1 : Int32) (ls : eL) (h : eH), ru 139 5 ls [.int a1, .ref a0] h = cl (den 138 [.ref a0, .int a1] h) (fun v h => ru 139 8 ls (v.toList ++ []) h)) ∧
  (∀ (x : Int32) (ls : eL) (h : eH), ru 139 8 ls [.int x] h = bo (x == 0 || x == 1) (some (some (.int x), h))) := ⟨fun v t st h => ru_go rfl rfl,
  fun a ls st h => ru_getf rfl,
  fun ls st h => ru_go rfl rfl,
  fun a0 a1 ls h => ru_inv rfl (by decide) rfl (Nat.le_of_ble_eq_true rfl),
  fun x ls h => ru_bret rfl rfl⟩
theorem E139 (a0 : Nat) {h : eH} {fs : List Value} (ha : h.1 a0 = .inr (10, fs)) : den 139 [.ref a0] h = ru 139 0 [some (.ref a0)] [] h := den_ob (Nat.le_of_ble_eq_true rfl) ha
/-! 140 X10_forgetNet -/
set_option maxRecDepth 100000 in
theorem S140 : (∀ (v : Nat) (t : eL) (st : List Value) (h : eH), ru 140 0 (some (.ref v) :: t) st h = ru 140 1 (some (.ref v) :: t) (.ref v :: st) h) ∧
  (∀ (ls : eL) (st : List Value) (h : eH), ru 140 1 ls st h = ru 140 2 ls (.int (nI 0) :: st) h) ∧
  (∀ (v : Int32) (a : Nat) (ls : eL) (st : List Value) (h : eH), ru 140 2 ls (.int v :: .ref a :: st) h = pF (h.1 a) 10 11 (.int v) (fun e => ru 140 5 ls st (eUp h a e))) ∧
  (∀ (v : Nat) (t : eL) (st : List Value) (h : eH), ru 140 5 (some (.ref v) :: t) st h = ru 140 6 (some (.ref v) :: t) (.ref v :: st) h) ∧
  (∀ (ls : eL) (st : List Value) (h : eH), ru 140 6 ls st h = ru 140 7 ls (.int (nI 0) :: st) h) ∧
  (∀ (v : Int32) (a : Nat) (ls : eL) (st : List Value) (h : eH), ru 140 7 ls (.int v :: .ref a :: st) h = pF (h.1 a) 10 12 (.int v) (fun e => ru 140 10 ls st (eUp h a e))) ∧
  (∀ (v : Nat) (t : eL) (st : List Value) (h : eH), ru 140 10 (some (.ref v) :: t) st h = ru 140 11 (some (.ref v) :: t) (.ref v :: st) h) ∧
  (∀ (ls : eL) (st : List Value) (h : eH), ru 140 11 ls st h = ru 140 12 ls (.int (nI 0) :: st) h) ∧
  (∀ (v : Int32) (a : Nat) (ls : eL) (st : List Value) (h : eH), ru 140 12 ls (.int v :: .ref a :: st) h = pF (h.1 a) 10 13 (.int v) (fun e => ru 140 15 ls st (eUp h a e))) ∧
  (∀ (v : Nat) (t : eL) (st : List Value) (h : eH), ru 140 15 (some (.ref v) :: t) st h = ru 140 16 (some (.ref v) :: t) (.ref v :: st) h) ∧
  (∀ (ls : eL) (st : List Value) (h : eH), ru 140 16 ls st h = ru 140 17 ls (.int (nI 0) :: st) h) ∧
  (∀ (v : Int32) (a : Nat) (ls : eL) (st : List Value) (h : eH), ru 140 17 ls (.int v :: .ref a :: st) h = pF (h.1 a) 10 14 (.int v) (fun e => ru 140 20 ls st (eUp h a e))) ∧
  (∀ (v : Nat) (t : eL) (st : List Value) (h : eH), ru 140 20 (some (.ref v) :: t) st h = ru 140 21 (some (.ref v) :: t) (.ref v :: st) h) ∧
  (∀ (ls : eL) (st : List Value) (h : eH), ru 140 21 ls st h = ru 140 22 ls (.int (nI 0) :: st) h) ∧
  (∀ (v : Int32) (a : Nat) (ls : eL) (st : List Value) (h : eH), ru 140 22 ls (.int v :: .ref a :: st) h = pF (h.1 a) 10 15 (.int v) (fun e => ru 140 25 ls st (eUp h a e))) ∧
  (∀ (ls : eL) (h : eH), ru 140 25 ls [] h = some (none, h)) := ⟨fun v t st h => ru_go rfl rfl,
  fun ls st h => ru_go rfl rfl,
  fun v a ls st h => ru_putf rfl,
  fun v t st h => ru_go rfl rfl,
  fun ls st h => ru_go rfl rfl,
  fun v a ls st h => ru_putf rfl,
  fun v t st h => ru_go rfl rfl,
  fun ls st h => ru_go rfl rfl,
  fun v a ls st h => ru_putf rfl,
  fun v t st h => ru_go rfl rfl,
  fun ls st h => ru_go rfl rfl,
  fun v a ls st h => ru_putf rfl,
  fun v t st h => ru_go rfl rfl,
  fun ls st h => ru_go rfl rfl,
  fun v a ls st h => ru_putf rfl,
  fun ls h => ru_ret rfl rfl⟩
theorem E140 (a0 : Nat) {h : eH} {fs : List Value} (ha : h.1 a0 = .inr (10, fs)) : den 140 [.ref a0] h = ru 140 0 [some (.ref a0)] [] h := den_ob (Nat.le_of_ble_eq_true rfl) ha
/-! 141 X7_init -/
set_option maxRecDepth 100000 in
theorem S141 : (∀ (v : Nat) (t : eL) (st : List Value) (h : eH), ru 141 0 (some (.ref v) :: t) st h = ru 141 1 (some (.ref v) :: t) (.ref v :: st) h) ∧
  (∀ (a : Nat) (ls : eL) (h : eH), ru 141 1 ls [.ref a] h = ru 141 4 ls [] h) ∧
  (∀ (v : Nat) (t : eL) (st : List Value) (h : eH), ru 141 4 (some (.ref v) :: t) st h = ru 141 5 (some (.ref v) :: t) (.ref v :: st) h) ∧
  (∀ (ls : eL) (st : List Value) (h : eH), ru 141 5 ls st h = ru 141 7 ls (.int (nI 8) :: st) h) ∧
  (∀ (ls : eL) (st : List Value) (h : eH), ru 141 7 ls st h = ru 141 9 ls (.int (nI 60) :: st) h) ∧
  (∀ (n c : Int32) (ls : eL) (st : List Value) (h : eH), ru 141 9 ls (.int c :: .int n :: st) h = if n < 0 ∨ c < 0 ∨ 1000 < n.toNatClampNeg ∨ 1000 < c.toNatClampNeg then none else ru 141 13 ls (.ref h.2.1 :: st) (fun i => if i = h.2.1 then .inl (6, n.toNatClampNeg, .inr (.inr (.inr (.inr (fun j => if j < n.toNatClampNeg then some (h.2.1 + 1 + j) else none))))) else if h.2.1 < i ∧ i < h.2.1 + 1 + n.toNatClampNeg then .inl (1, c.toNatClampNeg, .inr (.inl (fun _ => 0))) else h.1 i, h.2.1 + 1 + n.toNatClampNeg, h.2.2 + n.toNatClampNeg + n.toNatClampNeg * c.toNatClampNeg)) ∧
  (∀ (v : Nat) (a : Nat) (ls : eL) (st : List Value) (h : eH), ru 141 13 ls (.ref v :: .ref a :: st) h = pF (h.1 a) 7 0 (.ref v) (fun e => ru 141 16 ls st (eUp h a e))) ∧
  (∀ (v : Nat) (t : eL) (st : List Value) (h : eH), ru 141 16 (some (.ref v) :: t) st h = ru 141 17 (some (.ref v) :: t) (.ref v :: st) h) ∧
  (∀ (ls : eL) (st : List Value) (h : eH), ru 141 17 ls st h = ru 141 19 ls (.int (nI 8) :: st) h) ∧
  (∀ (c : Int32) (ls : eL) (st : List Value) (h : eH), ru 141 19 ls (.int c :: st) h = if c < 0 ∨ 1000000 < c.toNatClampNeg then none else ru 141 21 ls (.ref h.2.1 :: st) (va_up h.1 h.2.1 (.inl (0, c.toNatClampNeg, .inl (fun _ => 0))), h.2.1 + 1, h.2.2 + c.toNatClampNeg)) ∧
  (∀ (v : Nat) (a : Nat) (ls : eL) (st : List Value) (h : eH), ru 141 21 ls (.ref v :: .ref a :: st) h = pF (h.1 a) 7 1 (.ref v) (fun e => ru 141 24 ls st (eUp h a e))) ∧
  (∀ (v : Nat) (t : eL) (st : List Value) (h : eH), ru 141 24 (some (.ref v) :: t) st h = ru 141 25 (some (.ref v) :: t) (.ref v :: st) h) ∧
  (∀ (ls : eL) (st : List Value) (h : eH), ru 141 25 ls st h = ru 141 27 ls (.int (nI 8) :: st) h) ∧
  (∀ (c : Int32) (ls : eL) (st : List Value) (h : eH), ru 141 27 ls (.int c :: st) h = if c < 0 ∨ 1000000 < c.toNatClampNeg then none else ru 141 29 ls (.ref h.2.1 :: st) (va_up h.1 h.2.1 (.inl (0, c.toNatClampNeg, .inl (fun _ => 0))), h.2.1 + 1, h.2.2 + c.toNatClampNeg)) ∧
  (∀ (v : Nat) (a : Nat) (ls : eL) (st : List Value) (h : eH), ru 141 29 ls (.ref v :: .ref a :: st) h = pF (h.1 a) 7 2 (.ref v) (fun e => ru 141 32 ls st (eUp h a e))) ∧
  (∀ (v : Nat) (t : eL) (st : List Value) (h : eH), ru 141 32 (some (.ref v) :: t) st h = ru 141 33 (some (.ref v) :: t) (.ref v :: st) h) ∧
  (∀ (a : Nat) (ls : eL) (st : List Value) (h : eH), ru 141 33 ls (.ref a :: st) h = gF (h.1 a) 7 2 (fun v => ru 141 36 ls (v :: st) h)) ∧
  (∀ (ls : eL) (st : List Value) (h : eH), ru 141 36 ls st h = ru 141 37 ls (.int ((-1)) :: st) h) ∧
  (∀ (a0 : Nat) (a1 : Int32) (ls : eL) (h : eH), ru 141 37 ls [.int a1, .ref a0] h = cl (den 1 [.ref a0, .int a1] h) (fun v h => ru 141 40 ls (v.toList ++ []) h)) ∧
  (∀ (ls : eL) (h : eH), ru 141 40 ls [] h = some (none, h)) := ⟨fun v t st h => ru_go rfl rfl,
  fun a ls h => ru_go rfl rfl,
  fun v t st h => ru_go rfl rfl,
  fun ls st h => ru_go rfl rfl,
  fun ls st h => ru_go rfl rfl,
  fun n c ls st h => ru_guard rfl rfl,
  fun v a ls st h => ru_putf rfl,
  fun v t st h => ru_go rfl rfl,
  fun ls st h => ru_go rfl rfl,
  fun c ls st h => ru_guard rfl rfl,
  fun v a ls st h => ru_putf rfl,
  fun v t st h => ru_go rfl rfl,
  fun ls st h => ru_go rfl rfl,
  fun c ls st h => ru_guard rfl rfl,
  fun v a ls st h => ru_putf rfl,
  fun v t st h => ru_go rfl rfl,
  fun a ls st h => ru_getf rfl,
  fun ls st h => ru_go rfl rfl,
  fun a0 a1 ls h => ru_inv rfl (by decide) rfl (Nat.le_of_ble_eq_true rfl),
  fun ls h => ru_ret rfl rfl⟩
theorem E141 (a0 : Nat) {h : eH} {fs : List Value} (ha : h.1 a0 = .inr (7, fs)) : den 141 [.ref a0] h = ru 141 0 [some (.ref a0)] [] h := den_ob (Nat.le_of_ble_eq_true rfl) ha
/-! 142 X4_init -/
set_option maxRecDepth 100000 in
theorem S142 : (∀ (v : Nat) (t : eL) (st : List Value) (h : eH), ru 142 0 (some (.ref v) :: t) st h = ru 142 1 (some (.ref v) :: t) (.ref v :: st) h) ∧
  (∀ (a : Nat) (ls : eL) (h : eH), ru 142 1 ls [.ref a] h = ru 142 4 ls [] h) ∧
  (∀ (v : Nat) (t : eL) (st : List Value) (h : eH), ru 142 4 (some (.ref v) :: t) st h = ru 142 5 (some (.ref v) :: t) (.ref v :: st) h) ∧
  (∀ (ls : eL) (st : List Value) (h : eH), ru 142 5 ls st h = ru 142 8 ls (.ref h.2.1 :: st) (va_up h.1 h.2.1 (.inr (9, [.null, .int 0, .int 0])), h.2.1 + 1, h.2.2 + 3)) ∧
  (∀ (x : Nat) (ls : eL) (st : List Value) (h : eH), ru 142 8 ls (.ref x :: st) h = ru 142 9 ls (.ref x :: .ref x :: st) h) ∧
  (∀ (ls : eL) (st : List Value) (h : eH), ru 142 9 ls st h = ru 142 11 ls (.int (nI 36) :: st) h) ∧
  (∀ (a0 : Nat) (a1 : Int32) (u0 : Nat) (u1 : Nat) (ls : eL) (h : eH), ru 142 11 ls [.int a1, .ref a0, .ref u0, .ref u1] h = cl (den 90 [.ref a0, .int a1] h) (fun v h => ru 142 14 ls (v.toList ++ [.ref u0, .ref u1]) h)) ∧
  (∀ (v : Nat) (a : Nat) (ls : eL) (st : List Value) (h : eH), ru 142 14 ls (.ref v :: .ref a :: st) h = pF (h.1 a) 4 0 (.ref v) (fun e => ru 142 17 ls st (eUp h a e))) ∧
  (∀ (v : Nat) (t : eL) (st : List Value) (h : eH), ru 142 17 (some (.ref v) :: t) st h = ru 142 18 (some (.ref v) :: t) (.ref v :: st) h) ∧
  (∀ (ls : eL) (st : List Value) (h : eH), ru 142 18 ls st h = ru 142 21 ls (.ref h.2.1 :: st) (va_up h.1 h.2.1 (.inr (9, [.null, .int 0, .int 0])), h.2.1 + 1, h.2.2 + 3)) ∧
  (∀ (x : Nat) (ls : eL) (st : List Value) (h : eH), ru 142 21 ls (.ref x :: st) h = ru 142 22 ls (.ref x :: .ref x :: st) h) ∧
  (∀ (ls : eL) (st : List Value) (h : eH), ru 142 22 ls st h = ru 142 24 ls (.int (nI 36) :: st) h) ∧
  (∀ (a0 : Nat) (a1 : Int32) (u0 : Nat) (u1 : Nat) (ls : eL) (h : eH), ru 142 24 ls [.int a1, .ref a0, .ref u0, .ref u1] h = cl (den 90 [.ref a0, .int a1] h) (fun v h => ru 142 27 ls (v.toList ++ [.ref u0, .ref u1]) h)) ∧
  (∀ (v : Nat) (a : Nat) (ls : eL) (st : List Value) (h : eH), ru 142 27 ls (.ref v :: .ref a :: st) h = pF (h.1 a) 4 1 (.ref v) (fun e => ru 142 30 ls st (eUp h a e))) ∧
  (∀ (v : Nat) (t : eL) (st : List Value) (h : eH), ru 142 30 (some (.ref v) :: t) st h = ru 142 31 (some (.ref v) :: t) (.ref v :: st) h) ∧
  (∀ (ls : eL) (st : List Value) (h : eH), ru 142 31 ls st h = ru 142 34 ls (.ref h.2.1 :: st) (va_up h.1 h.2.1 (.inr (9, [.null, .int 0, .int 0])), h.2.1 + 1, h.2.2 + 3)) ∧
  (∀ (x : Nat) (ls : eL) (st : List Value) (h : eH), ru 142 34 ls (.ref x :: st) h = ru 142 35 ls (.ref x :: .ref x :: st) h) ∧
  (∀ (ls : eL) (st : List Value) (h : eH), ru 142 35 ls st h = ru 142 37 ls (.int (nI 36) :: st) h) ∧
  (∀ (a0 : Nat) (a1 : Int32) (u0 : Nat) (u1 : Nat) (ls : eL) (h : eH), ru 142 37 ls [.int a1, .ref a0, .ref u0, .ref u1] h = cl (den 90 [.ref a0, .int a1] h) (fun v h => ru 142 40 ls (v.toList ++ [.ref u0, .ref u1]) h)) ∧
  (∀ (v : Nat) (a : Nat) (ls : eL) (st : List Value) (h : eH), ru 142 40 ls (.ref v :: .ref a :: st) h = pF (h.1 a) 4 2 (.ref v) (fun e => ru 142 43 ls st (eUp h a e))) ∧
  (∀ (v : Nat) (t : eL) (st : List Value) (h : eH), ru 142 43 (some (.ref v) :: t) st h = ru 142 44 (some (.ref v) :: t) (.ref v :: st) h) ∧
  (∀ (a : Nat) (ls : eL) (st : List Value) (h : eH), ru 142 44 ls (.ref a :: st) h = gF (h.1 a) 4 1 (fun v => ru 142 47 ls (v :: st) h)) ∧
  (∀ (ls : eL) (st : List Value) (h : eH), ru 142 47 ls st h = ru 142 48 ls (.int (nI 1) :: st) h) ∧
  (∀ (a0 : Nat) (a1 : Int32) (ls : eL) (h : eH), ru 142 48 ls [.int a1, .ref a0] h = cl (den 112 [.ref a0, .int a1] h) (fun v h => ru 142 51 ls (v.toList ++ []) h)) ∧
  (∀ (ls : eL) (h : eH), ru 142 51 ls [] h = some (none, h)) := ⟨fun v t st h => ru_go rfl rfl,
  fun a ls h => ru_go rfl rfl,
  fun v t st h => ru_go rfl rfl,
  fun ls st h => ru_go rfl rfl,
  fun x ls st h => ru_go rfl rfl,
  fun ls st h => ru_go rfl rfl,
  fun a0 a1 u0 u1 ls h => ru_inv rfl (by decide) rfl (Nat.le_of_ble_eq_true rfl),
  fun v a ls st h => ru_putf rfl,
  fun v t st h => ru_go rfl rfl,
  fun ls st h => ru_go rfl rfl,
  fun x ls st h => ru_go rfl rfl,
  fun ls st h => ru_go rfl rfl,
  fun a0 a1 u0 u1 ls h => ru_inv rfl (by decide) rfl (Nat.le_of_ble_eq_true rfl),
  fun v a ls st h => ru_putf rfl,
  fun v t st h => ru_go rfl rfl,
  fun ls st h => ru_go rfl rfl,
  fun x ls st h => ru_go rfl rfl,
  fun ls st h => ru_go rfl rfl,
  fun a0 a1 u0 u1 ls h => ru_inv rfl (by decide) rfl (Nat.le_of_ble_eq_true rfl),
  fun v a ls st h => ru_putf rfl,
  fun v t st h => ru_go rfl rfl,
  fun a ls st h => ru_getf rfl,
  fun ls st h => ru_go rfl rfl,
  fun a0 a1 ls h => ru_inv rfl (by decide) rfl (Nat.le_of_ble_eq_true rfl),
  fun ls h => ru_ret rfl rfl⟩
theorem E142 (a0 : Nat) {h : eH} {fs : List Value} (ha : h.1 a0 = .inr (4, fs)) : den 142 [.ref a0] h = ru 142 0 [some (.ref a0)] [] h := den_ob (Nat.le_of_ble_eq_true rfl) ha
/-! 143 X2_init -/
set_option maxRecDepth 100000 in
theorem S143 : (∀ (v : Nat) (t : eL) (st : List Value) (h : eH), ru 143 0 (some (.ref v) :: t) st h = ru 143 1 (some (.ref v) :: t) (.ref v :: st) h) ∧
  (∀ (a : Nat) (ls : eL) (h : eH), ru 143 1 ls [.ref a] h = ru 143 4 ls [] h) ∧
  (∀ (v : Nat) (t : eL) (st : List Value) (h : eH), ru 143 4 (some (.ref v) :: t) st h = ru 143 5 (some (.ref v) :: t) (.ref v :: st) h) ∧
  (∀ (ls : eL) (st : List Value) (h : eH), ru 143 5 ls st h = ru 143 8 ls (.ref h.2.1 :: st) (va_up h.1 h.2.1 (.inr (9, [.null, .int 0, .int 0])), h.2.1 + 1, h.2.2 + 3)) ∧
  (∀ (x : Nat) (ls : eL) (st : List Value) (h : eH), ru 143 8 ls (.ref x :: st) h = ru 143 9 ls (.ref x :: .ref x :: st) h) ∧
  (∀ (ls : eL) (st : List Value) (h : eH), ru 143 9 ls st h = ru 143 11 ls (.int (nI 36) :: st) h) ∧
  (∀ (a0 : Nat) (a1 : Int32) (u0 : Nat) (u1 : Nat) (ls : eL) (h : eH), ru 143 11 ls [.int a1, .ref a0, .ref u0, .ref u1] h = cl (den 90 [.ref a0, .int a1] h) (fun v h => ru 143 14 ls (v.toList ++ [.ref u0, .ref u1]) h)) ∧
  (∀ (v : Nat) (a : Nat) (ls : eL) (st : List Value) (h : eH), ru 143 14 ls (.ref v :: .ref a :: st) h = pF (h.1 a) 2 0 (.ref v) (fun e => ru 143 17 ls st (eUp h a e))) ∧
  (∀ (v : Nat) (t : eL) (st : List Value) (h : eH), ru 143 17 (some (.ref v) :: t) st h = ru 143 18 (some (.ref v) :: t) (.ref v :: st) h) ∧
  (∀ (ls : eL) (st : List Value) (h : eH), ru 143 18 ls st h = ru 143 21 ls (.ref h.2.1 :: st) (va_up h.1 h.2.1 (.inr (9, [.null, .int 0, .int 0])), h.2.1 + 1, h.2.2 + 3)) ∧
  (∀ (x : Nat) (ls : eL) (st : List Value) (h : eH), ru 143 21 ls (.ref x :: st) h = ru 143 22 ls (.ref x :: .ref x :: st) h) ∧
  (∀ (ls : eL) (st : List Value) (h : eH), ru 143 22 ls st h = ru 143 24 ls (.int (nI 36) :: st) h) ∧
  (∀ (a0 : Nat) (a1 : Int32) (u0 : Nat) (u1 : Nat) (ls : eL) (h : eH), ru 143 24 ls [.int a1, .ref a0, .ref u0, .ref u1] h = cl (den 90 [.ref a0, .int a1] h) (fun v h => ru 143 27 ls (v.toList ++ [.ref u0, .ref u1]) h)) ∧
  (∀ (v : Nat) (a : Nat) (ls : eL) (st : List Value) (h : eH), ru 143 27 ls (.ref v :: .ref a :: st) h = pF (h.1 a) 2 1 (.ref v) (fun e => ru 143 30 ls st (eUp h a e))) ∧
  (∀ (v : Nat) (t : eL) (st : List Value) (h : eH), ru 143 30 (some (.ref v) :: t) st h = ru 143 31 (some (.ref v) :: t) (.ref v :: st) h) ∧
  (∀ (ls : eL) (st : List Value) (h : eH), ru 143 31 ls st h = ru 143 34 ls (.ref h.2.1 :: st) (va_up h.1 h.2.1 (.inr (9, [.null, .int 0, .int 0])), h.2.1 + 1, h.2.2 + 3)) ∧
  (∀ (x : Nat) (ls : eL) (st : List Value) (h : eH), ru 143 34 ls (.ref x :: st) h = ru 143 35 ls (.ref x :: .ref x :: st) h) ∧
  (∀ (ls : eL) (st : List Value) (h : eH), ru 143 35 ls st h = ru 143 37 ls (.int (nI 36) :: st) h) ∧
  (∀ (a0 : Nat) (a1 : Int32) (u0 : Nat) (u1 : Nat) (ls : eL) (h : eH), ru 143 37 ls [.int a1, .ref a0, .ref u0, .ref u1] h = cl (den 90 [.ref a0, .int a1] h) (fun v h => ru 143 40 ls (v.toList ++ [.ref u0, .ref u1]) h)) ∧
  (∀ (v : Nat) (a : Nat) (ls : eL) (st : List Value) (h : eH), ru 143 40 ls (.ref v :: .ref a :: st) h = pF (h.1 a) 2 2 (.ref v) (fun e => ru 143 43 ls st (eUp h a e))) ∧
  (∀ (v : Nat) (t : eL) (st : List Value) (h : eH), ru 143 43 (some (.ref v) :: t) st h = ru 143 44 (some (.ref v) :: t) (.ref v :: st) h) ∧
  (∀ (ls : eL) (st : List Value) (h : eH), ru 143 44 ls st h = ru 143 47 ls (.ref h.2.1 :: st) (va_up h.1 h.2.1 (.inr (9, [.null, .int 0, .int 0])), h.2.1 + 1, h.2.2 + 3)) ∧
  (∀ (x : Nat) (ls : eL) (st : List Value) (h : eH), ru 143 47 ls (.ref x :: st) h = ru 143 48 ls (.ref x :: .ref x :: st) h) ∧
  (∀ (ls : eL) (st : List Value) (h : eH), ru 143 48 ls st h = ru 143 50 ls (.int (nI 36) :: st) h) ∧
  (∀ (a0 : Nat) (a1 : Int32) (u0 : Nat) (u1 : Nat) (ls : eL) (h : eH), ru 143 50 ls [.int a1, .ref a0, .ref u0, .ref u1] h = cl (den 90 [.ref a0, .int a1] h) (fun v h => ru 143 53 ls (v.toList ++ [.ref u0, .ref u1]) h)) ∧
  (∀ (v : Nat) (a : Nat) (ls : eL) (st : List Value) (h : eH), ru 143 53 ls (.ref v :: .ref a :: st) h = pF (h.1 a) 2 3 (.ref v) (fun e => ru 143 56 ls st (eUp h a e))) ∧
  (∀ (ls : eL) (h : eH), ru 143 56 ls [] h = some (none, h)) := ⟨fun v t st h => ru_go rfl rfl,
  fun a ls h => ru_go rfl rfl,
  fun v t st h => ru_go rfl rfl,
  fun ls st h => ru_go rfl rfl,
  fun x ls st h => ru_go rfl rfl,
  fun ls st h => ru_go rfl rfl,
  fun a0 a1 u0 u1 ls h => ru_inv rfl (by decide) rfl (Nat.le_of_ble_eq_true rfl),
  fun v a ls st h => ru_putf rfl,
  fun v t st h => ru_go rfl rfl,
  fun ls st h => ru_go rfl rfl,
  fun x ls st h => ru_go rfl rfl,
  fun ls st h => ru_go rfl rfl,
  fun a0 a1 u0 u1 ls h => ru_inv rfl (by decide) rfl (Nat.le_of_ble_eq_true rfl),
  fun v a ls st h => ru_putf rfl,
  fun v t st h => ru_go rfl rfl,
  fun ls st h => ru_go rfl rfl,
  fun x ls st h => ru_go rfl rfl,
  fun ls st h => ru_go rfl rfl,
  fun a0 a1 u0 u1 ls h => ru_inv rfl (by decide) rfl (Nat.le_of_ble_eq_true rfl),
  fun v a ls st h => ru_putf rfl,
  fun v t st h => ru_go rfl rfl,
  fun ls st h => ru_go rfl rfl,
  fun x ls st h => ru_go rfl rfl,
  fun ls st h => ru_go rfl rfl,
  fun a0 a1 u0 u1 ls h => ru_inv rfl (by decide) rfl (Nat.le_of_ble_eq_true rfl),
  fun v a ls st h => ru_putf rfl,
  fun ls h => ru_ret rfl rfl⟩
theorem E143 (a0 : Nat) {h : eH} {fs : List Value} (ha : h.1 a0 = .inr (2, fs)) : den 143 [.ref a0] h = ru 143 0 [some (.ref a0)] [] h := den_ob (Nat.le_of_ble_eq_true rfl) ha
/-! 144 X1_init -/
set_option maxRecDepth 100000 in
theorem S144 : (∀ (v : Nat) (t : eL) (st : List Value) (h : eH), ru 144 0 (some (.ref v) :: t) st h = ru 144 1 (some (.ref v) :: t) (.ref v :: st) h) ∧
  (∀ (a : Nat) (ls : eL) (h : eH), ru 144 1 ls [.ref a] h = ru 144 4 ls [] h) ∧
  (∀ (v : Nat) (t : eL) (st : List Value) (h : eH), ru 144 4 (some (.ref v) :: t) st h = ru 144 5 (some (.ref v) :: t) (.ref v :: st) h) ∧
  (∀ (ls : eL) (st : List Value) (h : eH), ru 144 5 ls st h = ru 144 8 ls (.ref h.2.1 :: st) (va_up h.1 h.2.1 (.inr (2, [.null, .null, .null, .null])), h.2.1 + 1, h.2.2 + 4)) ∧
  (∀ (x : Nat) (ls : eL) (st : List Value) (h : eH), ru 144 8 ls (.ref x :: st) h = ru 144 9 ls (.ref x :: .ref x :: st) h) ∧
  (∀ (a0 : Nat) (u0 : Nat) (u1 : Nat) (ls : eL) (h : eH), ru 144 9 ls [.ref a0, .ref u0, .ref u1] h = cl (den 143 [.ref a0] h) (fun v h => ru 144 12 ls (v.toList ++ [.ref u0, .ref u1]) h)) ∧
  (∀ (v : Nat) (a : Nat) (ls : eL) (st : List Value) (h : eH), ru 144 12 ls (.ref v :: .ref a :: st) h = pF (h.1 a) 1 0 (.ref v) (fun e => ru 144 15 ls st (eUp h a e))) ∧
  (∀ (v : Nat) (t : eL) (st : List Value) (h : eH), ru 144 15 (some (.ref v) :: t) st h = ru 144 16 (some (.ref v) :: t) (.ref v :: st) h) ∧
  (∀ (ls : eL) (st : List Value) (h : eH), ru 144 16 ls st h = ru 144 19 ls (.ref h.2.1 :: st) (va_up h.1 h.2.1 (.inr (9, [.null, .int 0, .int 0])), h.2.1 + 1, h.2.2 + 3)) ∧
  (∀ (x : Nat) (ls : eL) (st : List Value) (h : eH), ru 144 19 ls (.ref x :: st) h = ru 144 20 ls (.ref x :: .ref x :: st) h) ∧
  (∀ (ls : eL) (st : List Value) (h : eH), ru 144 20 ls st h = ru 144 22 ls (.int (nI 36) :: st) h) ∧
  (∀ (a0 : Nat) (a1 : Int32) (u0 : Nat) (u1 : Nat) (ls : eL) (h : eH), ru 144 22 ls [.int a1, .ref a0, .ref u0, .ref u1] h = cl (den 90 [.ref a0, .int a1] h) (fun v h => ru 144 25 ls (v.toList ++ [.ref u0, .ref u1]) h)) ∧
  (∀ (v : Nat) (a : Nat) (ls : eL) (st : List Value) (h : eH), ru 144 25 ls (.ref v :: .ref a :: st) h = pF (h.1 a) 1 1 (.ref v) (fun e => ru 144 28 ls st (eUp h a e))) ∧
  (∀ (v : Nat) (t : eL) (st : List Value) (h : eH), ru 144 28 (some (.ref v) :: t) st h = ru 144 29 (some (.ref v) :: t) (.ref v :: st) h) ∧
  (∀ (ls : eL) (st : List Value) (h : eH), ru 144 29 ls st h = ru 144 32 ls (.ref h.2.1 :: st) (va_up h.1 h.2.1 (.inr (9, [.null, .int 0, .int 0])), h.2.1 + 1, h.2.2 + 3)) ∧
  (∀ (x : Nat) (ls : eL) (st : List Value) (h : eH), ru 144 32 ls (.ref x :: st) h = ru 144 33 ls (.ref x :: .ref x :: st) h) ∧
  (∀ (ls : eL) (st : List Value) (h : eH), ru 144 33 ls st h = ru 144 35 ls (.int (nI 36) :: st) h) ∧
  (∀ (a0 : Nat) (a1 : Int32) (u0 : Nat) (u1 : Nat) (ls : eL) (h : eH), ru 144 35 ls [.int a1, .ref a0, .ref u0, .ref u1] h = cl (den 90 [.ref a0, .int a1] h) (fun v h => ru 144 38 ls (v.toList ++ [.ref u0, .ref u1]) h)) ∧
  (∀ (v : Nat) (a : Nat) (ls : eL) (st : List Value) (h : eH), ru 144 38 ls (.ref v :: .ref a :: st) h = pF (h.1 a) 1 2 (.ref v) (fun e => ru 144 41 ls st (eUp h a e))) ∧
  (∀ (v : Nat) (t : eL) (st : List Value) (h : eH), ru 144 41 (some (.ref v) :: t) st h = ru 144 42 (some (.ref v) :: t) (.ref v :: st) h) ∧
  (∀ (ls : eL) (st : List Value) (h : eH), ru 144 42 ls st h = ru 144 45 ls (.ref h.2.1 :: st) (va_up h.1 h.2.1 (.inr (9, [.null, .int 0, .int 0])), h.2.1 + 1, h.2.2 + 3)) ∧
  (∀ (x : Nat) (ls : eL) (st : List Value) (h : eH), ru 144 45 ls (.ref x :: st) h = ru 144 46 ls (.ref x :: .ref x :: st) h) ∧
  (∀ (ls : eL) (st : List Value) (h : eH), ru 144 46 ls st h = ru 144 48 ls (.int (nI 36) :: st) h) ∧
  (∀ (a0 : Nat) (a1 : Int32) (u0 : Nat) (u1 : Nat) (ls : eL) (h : eH), ru 144 48 ls [.int a1, .ref a0, .ref u0, .ref u1] h = cl (den 90 [.ref a0, .int a1] h) (fun v h => ru 144 51 ls (v.toList ++ [.ref u0, .ref u1]) h)) ∧
  (∀ (v : Nat) (a : Nat) (ls : eL) (st : List Value) (h : eH), ru 144 51 ls (.ref v :: .ref a :: st) h = pF (h.1 a) 1 3 (.ref v) (fun e => ru 144 54 ls st (eUp h a e))) ∧
  (∀ (v : Nat) (t : eL) (st : List Value) (h : eH), ru 144 54 (some (.ref v) :: t) st h = ru 144 55 (some (.ref v) :: t) (.ref v :: st) h) ∧
  (∀ (ls : eL) (st : List Value) (h : eH), ru 144 55 ls st h = ru 144 58 ls (.ref h.2.1 :: st) (va_up h.1 h.2.1 (.inr (9, [.null, .int 0, .int 0])), h.2.1 + 1, h.2.2 + 3)) ∧
  (∀ (x : Nat) (ls : eL) (st : List Value) (h : eH), ru 144 58 ls (.ref x :: st) h = ru 144 59 ls (.ref x :: .ref x :: st) h) ∧
  (∀ (ls : eL) (st : List Value) (h : eH), ru 144 59 ls st h = ru 144 61 ls (.int (nI 36) :: st) h) ∧
  (∀ (a0 : Nat) (a1 : Int32) (u0 : Nat) (u1 : Nat) (ls : eL) (h : eH), ru 144 61 ls [.int a1, .ref a0, .ref u0, .ref u1] h = cl (den 90 [.ref a0, .int a1] h) (fun v h => ru 144 64 ls (v.toList ++ [.ref u0, .ref u1]) h)) ∧
  (∀ (v : Nat) (a : Nat) (ls : eL) (st : List Value) (h : eH), ru 144 64 ls (.ref v :: .ref a :: st) h = pF (h.1 a) 1 4 (.ref v) (fun e => ru 144 67 ls st (eUp h a e))) ∧
  (∀ (v : Nat) (t : eL) (st : List Value) (h : eH), ru 144 67 (some (.ref v) :: t) st h = ru 144 68 (some (.ref v) :: t) (.ref v :: st) h) ∧
  (∀ (ls : eL) (st : List Value) (h : eH), ru 144 68 ls st h = ru 144 71 ls (.ref h.2.1 :: st) (va_up h.1 h.2.1 (.inr (9, [.null, .int 0, .int 0])), h.2.1 + 1, h.2.2 + 3)) ∧
  (∀ (x : Nat) (ls : eL) (st : List Value) (h : eH), ru 144 71 ls (.ref x :: st) h = ru 144 72 ls (.ref x :: .ref x :: st) h) ∧
  (∀ (ls : eL) (st : List Value) (h : eH), ru 144 72 ls st h = ru 144 74 ls (.int (nI 36) :: st) h) ∧
  (∀ (a0 : Nat) (a1 : Int32) (u0 : Nat) (u1 : Nat) (ls : eL) (h : eH), ru 144 74 ls [.int a1, .ref a0, .ref u0, .ref u1] h = cl (den 90 [.ref a0, .int a1] h) (fun v h => ru 144 77 ls (v.toList ++ [.ref u0, .ref u1]) h)) ∧
  (∀ (v : Nat) (a : Nat) (ls : eL) (st : List Value) (h : eH), ru 144 77 ls (.ref v :: .ref a :: st) h = pF (h.1 a) 1 5 (.ref v) (fun e => ru 144 80 ls st (eUp h a e))) ∧
  (∀ (v : Nat) (t : eL) (st : List Value) (h : eH), ru 144 80 (some (.ref v) :: t) st h = ru 144 81 (some (.ref v) :: t) (.ref v :: st) h) ∧
  (∀ (ls : eL) (st : List Value) (h : eH), ru 144 81 ls st h = ru 144 84 ls (.ref h.2.1 :: st) (va_up h.1 h.2.1 (.inr (9, [.null, .int 0, .int 0])), h.2.1 + 1, h.2.2 + 3)) ∧
  (∀ (x : Nat) (ls : eL) (st : List Value) (h : eH), ru 144 84 ls (.ref x :: st) h = ru 144 85 ls (.ref x :: .ref x :: st) h) ∧
  (∀ (ls : eL) (st : List Value) (h : eH), ru 144 85 ls st h = ru 144 87 ls (.int (nI 36) :: st) h) ∧
  (∀ (a0 : Nat) (a1 : Int32) (u0 : Nat) (u1 : Nat) (ls : eL) (h : eH), ru 144 87 ls [.int a1, .ref a0, .ref u0, .ref u1] h = cl (den 90 [.ref a0, .int a1] h) (fun v h => ru 144 90 ls (v.toList ++ [.ref u0, .ref u1]) h)) ∧
  (∀ (v : Nat) (a : Nat) (ls : eL) (st : List Value) (h : eH), ru 144 90 ls (.ref v :: .ref a :: st) h = pF (h.1 a) 1 6 (.ref v) (fun e => ru 144 93 ls st (eUp h a e))) ∧
  (∀ (ls : eL) (h : eH), ru 144 93 ls [] h = some (none, h)) := ⟨fun v t st h => ru_go rfl rfl,
  fun a ls h => ru_go rfl rfl,
  fun v t st h => ru_go rfl rfl,
  fun ls st h => ru_go rfl rfl,
  fun x ls st h => ru_go rfl rfl,
  fun a0 u0 u1 ls h => ru_inv rfl (by decide) rfl (Nat.le_of_ble_eq_true rfl),
  fun v a ls st h => ru_putf rfl,
  fun v t st h => ru_go rfl rfl,
  fun ls st h => ru_go rfl rfl,
  fun x ls st h => ru_go rfl rfl,
  fun ls st h => ru_go rfl rfl,
  fun a0 a1 u0 u1 ls h => ru_inv rfl (by decide) rfl (Nat.le_of_ble_eq_true rfl),
  fun v a ls st h => ru_putf rfl,
  fun v t st h => ru_go rfl rfl,
  fun ls st h => ru_go rfl rfl,
  fun x ls st h => ru_go rfl rfl,
  fun ls st h => ru_go rfl rfl,
  fun a0 a1 u0 u1 ls h => ru_inv rfl (by decide) rfl (Nat.le_of_ble_eq_true rfl),
  fun v a ls st h => ru_putf rfl,
  fun v t st h => ru_go rfl rfl,
  fun ls st h => ru_go rfl rfl,
  fun x ls st h => ru_go rfl rfl,
  fun ls st h => ru_go rfl rfl,
  fun a0 a1 u0 u1 ls h => ru_inv rfl (by decide) rfl (Nat.le_of_ble_eq_true rfl),
  fun v a ls st h => ru_putf rfl,
  fun v t st h => ru_go rfl rfl,
  fun ls st h => ru_go rfl rfl,
  fun x ls st h => ru_go rfl rfl,
  fun ls st h => ru_go rfl rfl,
  fun a0 a1 u0 u1 ls h => ru_inv rfl (by decide) rfl (Nat.le_of_ble_eq_true rfl),
  fun v a ls st h => ru_putf rfl,
  fun v t st h => ru_go rfl rfl,
  fun ls st h => ru_go rfl rfl,
  fun x ls st h => ru_go rfl rfl,
  fun ls st h => ru_go rfl rfl,
  fun a0 a1 u0 u1 ls h => ru_inv rfl (by decide) rfl (Nat.le_of_ble_eq_true rfl),
  fun v a ls st h => ru_putf rfl,
  fun v t st h => ru_go rfl rfl,
  fun ls st h => ru_go rfl rfl,
  fun x ls st h => ru_go rfl rfl,
  fun ls st h => ru_go rfl rfl,
  fun a0 a1 u0 u1 ls h => ru_inv rfl (by decide) rfl (Nat.le_of_ble_eq_true rfl),
  fun v a ls st h => ru_putf rfl,
  fun ls h => ru_ret rfl rfl⟩
theorem E144 (a0 : Nat) {h : eH} {fs : List Value} (ha : h.1 a0 = .inr (1, fs)) : den 144 [.ref a0] h = ru 144 0 [some (.ref a0)] [] h := den_ob (Nat.le_of_ble_eq_true rfl) ha
/-! 145 X5_init -/
set_option maxRecDepth 100000 in
theorem S145 : (∀ (v : Nat) (t : eL) (st : List Value) (h : eH), ru 145 0 (some (.ref v) :: t) st h = ru 145 1 (some (.ref v) :: t) (.ref v :: st) h) ∧
  (∀ (a : Nat) (ls : eL) (h : eH), ru 145 1 ls [.ref a] h = ru 145 4 ls [] h) ∧
  (∀ (v : Nat) (t : eL) (st : List Value) (h : eH), ru 145 4 (some (.ref v) :: t) st h = ru 145 5 (some (.ref v) :: t) (.ref v :: st) h) ∧
  (∀ (ls : eL) (st : List Value) (h : eH), ru 145 5 ls st h = ru 145 8 ls (.ref h.2.1 :: st) (va_up h.1 h.2.1 (.inr (9, [.null, .int 0, .int 0])), h.2.1 + 1, h.2.2 + 3)) ∧
  (∀ (x : Nat) (ls : eL) (st : List Value) (h : eH), ru 145 8 ls (.ref x :: st) h = ru 145 9 ls (.ref x :: .ref x :: st) h) ∧
  (∀ (ls : eL) (st : List Value) (h : eH), ru 145 9 ls st h = ru 145 11 ls (.int (nI 36) :: st) h) ∧
  (∀ (a0 : Nat) (a1 : Int32) (u0 : Nat) (u1 : Nat) (ls : eL) (h : eH), ru 145 11 ls [.int a1, .ref a0, .ref u0, .ref u1] h = cl (den 90 [.ref a0, .int a1] h) (fun v h => ru 145 14 ls (v.toList ++ [.ref u0, .ref u1]) h)) ∧
  (∀ (v : Nat) (a : Nat) (ls : eL) (st : List Value) (h : eH), ru 145 14 ls (.ref v :: .ref a :: st) h = pF (h.1 a) 5 11 (.ref v) (fun e => ru 145 17 ls st (eUp h a e))) ∧
  (∀ (v : Nat) (t : eL) (st : List Value) (h : eH), ru 145 17 (some (.ref v) :: t) st h = ru 145 18 (some (.ref v) :: t) (.ref v :: st) h) ∧
  (∀ (x0 : Option Value) (v : Int32) (t : eL) (st : List Value) (h : eH), ru 145 18 (x0 :: some (.int v) :: t) st h = ru 145 19 (x0 :: some (.int v) :: t) (.int v :: st) h) ∧
  (∀ (v : Int32) (a : Nat) (ls : eL) (st : List Value) (h : eH), ru 145 19 ls (.int v :: .ref a :: st) h = pF (h.1 a) 5 0 (.int v) (fun e => ru 145 22 ls st (eUp h a e))) ∧
  (∀ (v : Nat) (t : eL) (st : List Value) (h : eH), ru 145 22 (some (.ref v) :: t) st h = ru 145 23 (some (.ref v) :: t) (.ref v :: st) h) ∧
  (∀ (x0 x1 : Option Value) (v : Int32) (t : eL) (st : List Value) (h : eH), ru 145 23 (x0 :: x1 :: some (.int v) :: t) st h = ru 145 24 (x0 :: x1 :: some (.int v) :: t) (.int v :: st) h) ∧
  (∀ (v : Int32) (a : Nat) (ls : eL) (st : List Value) (h : eH), ru 145 24 ls (.int v :: .ref a :: st) h = pF (h.1 a) 5 1 (.int v) (fun e => ru 145 27 ls st (eUp h a e))) ∧
  (∀ (v : Nat) (t : eL) (st : List Value) (h : eH), ru 145 27 (some (.ref v) :: t) st h = ru 145 28 (some (.ref v) :: t) (.ref v :: st) h) ∧
  (∀ (x0 x1 x2 : Option Value) (v : Int32) (t : eL) (st : List Value) (h : eH), ru 145 28 (x0 :: x1 :: x2 :: some (.int v) :: t) st h = ru 145 29 (x0 :: x1 :: x2 :: some (.int v) :: t) (.int v :: st) h) ∧
  (∀ (v : Int32) (a : Nat) (ls : eL) (st : List Value) (h : eH), ru 145 29 ls (.int v :: .ref a :: st) h = pF (h.1 a) 5 2 (.int v) (fun e => ru 145 32 ls st (eUp h a e))) ∧
  (∀ (v : Nat) (t : eL) (st : List Value) (h : eH), ru 145 32 (some (.ref v) :: t) st h = ru 145 33 (some (.ref v) :: t) (.ref v :: st) h) ∧
  (∀ (x0 x1 x2 x3 : Option Value) (v : Nat) (t : eL) (st : List Value) (h : eH), ru 145 33 (x0 :: x1 :: x2 :: x3 :: some (.ref v) :: t) st h = ru 145 35 (x0 :: x1 :: x2 :: x3 :: some (.ref v) :: t) (.ref v :: st) h) ∧
  (∀ (v : Nat) (a : Nat) (ls : eL) (st : List Value) (h : eH), ru 145 35 ls (.ref v :: .ref a :: st) h = pF (h.1 a) 5 5 (.ref v) (fun e => ru 145 38 ls st (eUp h a e))) ∧
  (∀ (v : Nat) (t : eL) (st : List Value) (h : eH), ru 145 38 (some (.ref v) :: t) st h = ru 145 39 (some (.ref v) :: t) (.ref v :: st) h) ∧
  (∀ (x0 : Option Value) (v : Int32) (t : eL) (st : List Value) (h : eH), ru 145 39 (x0 :: some (.int v) :: t) st h = ru 145 40 (x0 :: some (.int v) :: t) (.int v :: st) h) ∧
  (∀ (x0 x1 : Option Value) (v : Int32) (t : eL) (st : List Value) (h : eH), ru 145 40 (x0 :: x1 :: some (.int v) :: t) st h = ru 145 41 (x0 :: x1 :: some (.int v) :: t) (.int v :: st) h) ∧
  (∀ (x y : Int32) (ls : eL) (st : List Value) (h : eH), ru 145 41 ls (.int y :: .int x :: st) h = ru 145 42 ls (.int (x * y) :: st) h) ∧
  (∀ (x0 x1 x2 : Option Value) (v : Int32) (t : eL) (st : List Value) (h : eH), ru 145 42 (x0 :: x1 :: x2 :: some (.int v) :: t) st h = ru 145 43 (x0 :: x1 :: x2 :: some (.int v) :: t) (.int v :: st) h) ∧
  (∀ (x y : Int32) (ls : eL) (st : List Value) (h : eH), ru 145 43 ls (.int y :: .int x :: st) h = ru 145 44 ls (.int (x * y) :: st) h) ∧
  (∀ (c : Int32) (ls : eL) (st : List Value) (h : eH), ru 145 44 ls (.int c :: st) h = if c < 0 ∨ 1000000 < c.toNatClampNeg then none else ru 145 46 ls (.ref h.2.1 :: st) (va_up h.1 h.2.1 (.inl (0, c.toNatClampNeg, .inl (fun _ => 0))), h.2.1 + 1, h.2.2 + c.toNatClampNeg)) ∧
  (∀ (v : Nat) (a : Nat) (ls : eL) (st : List Value) (h : eH), ru 145 46 ls (.ref v :: .ref a :: st) h = pF (h.1 a) 5 3 (.ref v) (fun e => ru 145 49 ls st (eUp h a e))) ∧
  (∀ (v : Nat) (t : eL) (st : List Value) (h : eH), ru 145 49 (some (.ref v) :: t) st h = ru 145 50 (some (.ref v) :: t) (.ref v :: st) h) ∧
  (∀ (x0 : Option Value) (v : Int32) (t : eL) (st : List Value) (h : eH), ru 145 50 (x0 :: some (.int v) :: t) st h = ru 145 51 (x0 :: some (.int v) :: t) (.int v :: st) h) ∧
  (∀ (x0 x1 : Option Value) (v : Int32) (t : eL) (st : List Value) (h : eH), ru 145 51 (x0 :: x1 :: some (.int v) :: t) st h = ru 145 52 (x0 :: x1 :: some (.int v) :: t) (.int v :: st) h) ∧
  (∀ (x y : Int32) (ls : eL) (st : List Value) (h : eH), ru 145 52 ls (.int y :: .int x :: st) h = ru 145 53 ls (.int (x * y) :: st) h) ∧
  (∀ (c : Int32) (ls : eL) (st : List Value) (h : eH), ru 145 53 ls (.int c :: st) h = if c < 0 ∨ 1000000 < c.toNatClampNeg then none else ru 145 55 ls (.ref h.2.1 :: st) (va_up h.1 h.2.1 (.inl (0, c.toNatClampNeg, .inl (fun _ => 0))), h.2.1 + 1, h.2.2 + c.toNatClampNeg)) ∧
  (∀ (v : Nat) (a : Nat) (ls : eL) (st : List Value) (h : eH), ru 145 55 ls (.ref v :: .ref a :: st) h = pF (h.1 a) 5 4 (.ref v) (fun e => ru 145 58 ls st (eUp h a e))) ∧
  (∀ (v : Nat) (t : eL) (st : List Value) (h : eH), ru 145 58 (some (.ref v) :: t) st h = ru 145 59 (some (.ref v) :: t) (.ref v :: st) h) ∧
  (∀ (x0 x1 : Option Value) (v : Int32) (t : eL) (st : List Value) (h : eH), ru 145 59 (x0 :: x1 :: some (.int v) :: t) st h = ru 145 60 (x0 :: x1 :: some (.int v) :: t) (.int v :: st) h) ∧
  (∀ (c : Int32) (ls : eL) (st : List Value) (h : eH), ru 145 60 ls (.int c :: st) h = if c < 0 ∨ 1000000 < c.toNatClampNeg then none else ru 145 62 ls (.ref h.2.1 :: st) (va_up h.1 h.2.1 (.inl (0, c.toNatClampNeg, .inl (fun _ => 0))), h.2.1 + 1, h.2.2 + c.toNatClampNeg)) ∧
  (∀ (v : Nat) (a : Nat) (ls : eL) (st : List Value) (h : eH), ru 145 62 ls (.ref v :: .ref a :: st) h = pF (h.1 a) 5 10 (.ref v) (fun e => ru 145 65 ls st (eUp h a e))) ∧
  (∀ (ls : eL) (h : eH), ru 145 65 ls [] h = some (none, h)) := ⟨fun v t st h => ru_go rfl rfl,
  fun a ls h => ru_go rfl rfl,
  fun v t st h => ru_go rfl rfl,
  fun ls st h => ru_go rfl rfl,
  fun x ls st h => ru_go rfl rfl,
  fun ls st h => ru_go rfl rfl,
  fun a0 a1 u0 u1 ls h => ru_inv rfl (by decide) rfl (Nat.le_of_ble_eq_true rfl),
  fun v a ls st h => ru_putf rfl,
  fun v t st h => ru_go rfl rfl,
  fun x0 v t st h => ru_go rfl rfl,
  fun v a ls st h => ru_putf rfl,
  fun v t st h => ru_go rfl rfl,
  fun x0 x1 v t st h => ru_go rfl rfl,
  fun v a ls st h => ru_putf rfl,
  fun v t st h => ru_go rfl rfl,
  fun x0 x1 x2 v t st h => ru_go rfl rfl,
  fun v a ls st h => ru_putf rfl,
  fun v t st h => ru_go rfl rfl,
  fun x0 x1 x2 x3 v t st h => ru_go rfl rfl,
  fun v a ls st h => ru_putf rfl,
  fun v t st h => ru_go rfl rfl,
  fun x0 v t st h => ru_go rfl rfl,
  fun x0 x1 v t st h => ru_go rfl rfl,
  fun x y ls st h => ru_go rfl rfl,
  fun x0 x1 x2 v t st h => ru_go rfl rfl,
  fun x y ls st h => ru_go rfl rfl,
  fun c ls st h => ru_guard rfl rfl,
  fun v a ls st h => ru_putf rfl,
  fun v t st h => ru_go rfl rfl,
  fun x0 v t st h => ru_go rfl rfl,
  fun x0 x1 v t st h => ru_go rfl rfl,
  fun x y ls st h => ru_go rfl rfl,
  fun c ls st h => ru_guard rfl rfl,
  fun v a ls st h => ru_putf rfl,
  fun v t st h => ru_go rfl rfl,
  fun x0 x1 v t st h => ru_go rfl rfl,
  fun c ls st h => ru_guard rfl rfl,
  fun v a ls st h => ru_putf rfl,
  fun ls h => ru_ret rfl rfl⟩
theorem E145 (a0 : Nat) (a1 : Int32) (a2 : Int32) (a3 : Int32) (a4 : Nat) {h : eH} {fs : List Value} (ha : h.1 a0 = .inr (5, fs)) : den 145 [.ref a0, .int a1, .int a2, .int a3, .ref a4] h = ru 145 0 [some (.ref a0), some (.int a1), some (.int a2), some (.int a3), some (.ref a4)] [] h := den_ob (Nat.le_of_ble_eq_true rfl) ha
/-! 146 X3_init -/
set_option maxRecDepth 100000 in
theorem S146 : (∀ (v : Nat) (t : eL) (st : List Value) (h : eH), ru 146 0 (some (.ref v) :: t) st h = ru 146 1 (some (.ref v) :: t) (.ref v :: st) h) ∧
  (∀ (a : Nat) (ls : eL) (h : eH), ru 146 1 ls [.ref a] h = ru 146 4 ls [] h) ∧
  (∀ (v : Nat) (t : eL) (st : List Value) (h : eH), ru 146 4 (some (.ref v) :: t) st h = ru 146 5 (some (.ref v) :: t) (.ref v :: st) h) ∧
  (∀ (ls : eL) (st : List Value) (h : eH), ru 146 5 ls st h = ru 146 8 ls (.ref h.2.1 :: st) (va_up h.1 h.2.1 (.inr (9, [.null, .int 0, .int 0])), h.2.1 + 1, h.2.2 + 3)) ∧
  (∀ (x : Nat) (ls : eL) (st : List Value) (h : eH), ru 146 8 ls (.ref x :: st) h = ru 146 9 ls (.ref x :: .ref x :: st) h) ∧
  (∀ (ls : eL) (st : List Value) (h : eH), ru 146 9 ls st h = ru 146 11 ls (.int (nI 36) :: st) h) ∧
  (∀ (a0 : Nat) (a1 : Int32) (u0 : Nat) (u1 : Nat) (ls : eL) (h : eH), ru 146 11 ls [.int a1, .ref a0, .ref u0, .ref u1] h = cl (den 90 [.ref a0, .int a1] h) (fun v h => ru 146 14 ls (v.toList ++ [.ref u0, .ref u1]) h)) ∧
  (∀ (v : Nat) (a : Nat) (ls : eL) (st : List Value) (h : eH), ru 146 14 ls (.ref v :: .ref a :: st) h = pF (h.1 a) 3 1 (.ref v) (fun e => ru 146 17 ls st (eUp h a e))) ∧
  (∀ (v : Nat) (t : eL) (st : List Value) (h : eH), ru 146 17 (some (.ref v) :: t) st h = ru 146 18 (some (.ref v) :: t) (.ref v :: st) h) ∧
  (∀ (ls : eL) (st : List Value) (h : eH), ru 146 18 ls st h = ru 146 21 ls (.ref h.2.1 :: st) (va_up h.1 h.2.1 (.inr (9, [.null, .int 0, .int 0])), h.2.1 + 1, h.2.2 + 3)) ∧
  (∀ (x : Nat) (ls : eL) (st : List Value) (h : eH), ru 146 21 ls (.ref x :: st) h = ru 146 22 ls (.ref x :: .ref x :: st) h) ∧
  (∀ (ls : eL) (st : List Value) (h : eH), ru 146 22 ls st h = ru 146 24 ls (.int (nI 36) :: st) h) ∧
  (∀ (a0 : Nat) (a1 : Int32) (u0 : Nat) (u1 : Nat) (ls : eL) (h : eH), ru 146 24 ls [.int a1, .ref a0, .ref u0, .ref u1] h = cl (den 90 [.ref a0, .int a1] h) (fun v h => ru 146 27 ls (v.toList ++ [.ref u0, .ref u1]) h)) ∧
  (∀ (v : Nat) (a : Nat) (ls : eL) (st : List Value) (h : eH), ru 146 27 ls (.ref v :: .ref a :: st) h = pF (h.1 a) 3 2 (.ref v) (fun e => ru 146 30 ls st (eUp h a e))) ∧
  (∀ (v : Nat) (t : eL) (st : List Value) (h : eH), ru 146 30 (some (.ref v) :: t) st h = ru 146 31 (some (.ref v) :: t) (.ref v :: st) h) ∧
  (∀ (ls : eL) (st : List Value) (h : eH), ru 146 31 ls st h = ru 146 34 ls (.ref h.2.1 :: st) (va_up h.1 h.2.1 (.inr (9, [.null, .int 0, .int 0])), h.2.1 + 1, h.2.2 + 3)) ∧
  (∀ (x : Nat) (ls : eL) (st : List Value) (h : eH), ru 146 34 ls (.ref x :: st) h = ru 146 35 ls (.ref x :: .ref x :: st) h) ∧
  (∀ (ls : eL) (st : List Value) (h : eH), ru 146 35 ls st h = ru 146 37 ls (.int (nI 36) :: st) h) ∧
  (∀ (a0 : Nat) (a1 : Int32) (u0 : Nat) (u1 : Nat) (ls : eL) (h : eH), ru 146 37 ls [.int a1, .ref a0, .ref u0, .ref u1] h = cl (den 90 [.ref a0, .int a1] h) (fun v h => ru 146 40 ls (v.toList ++ [.ref u0, .ref u1]) h)) ∧
  (∀ (v : Nat) (a : Nat) (ls : eL) (st : List Value) (h : eH), ru 146 40 ls (.ref v :: .ref a :: st) h = pF (h.1 a) 3 3 (.ref v) (fun e => ru 146 43 ls st (eUp h a e))) ∧
  (∀ (v : Nat) (t : eL) (st : List Value) (h : eH), ru 146 43 (some (.ref v) :: t) st h = ru 146 44 (some (.ref v) :: t) (.ref v :: st) h) ∧
  (∀ (ls : eL) (st : List Value) (h : eH), ru 146 44 ls st h = ru 146 47 ls (.ref h.2.1 :: st) (va_up h.1 h.2.1 (.inr (9, [.null, .int 0, .int 0])), h.2.1 + 1, h.2.2 + 3)) ∧
  (∀ (x : Nat) (ls : eL) (st : List Value) (h : eH), ru 146 47 ls (.ref x :: st) h = ru 146 48 ls (.ref x :: .ref x :: st) h) ∧
  (∀ (ls : eL) (st : List Value) (h : eH), ru 146 48 ls st h = ru 146 50 ls (.int (nI 36) :: st) h) ∧
  (∀ (a0 : Nat) (a1 : Int32) (u0 : Nat) (u1 : Nat) (ls : eL) (h : eH), ru 146 50 ls [.int a1, .ref a0, .ref u0, .ref u1] h = cl (den 90 [.ref a0, .int a1] h) (fun v h => ru 146 53 ls (v.toList ++ [.ref u0, .ref u1]) h)) ∧
  (∀ (v : Nat) (a : Nat) (ls : eL) (st : List Value) (h : eH), ru 146 53 ls (.ref v :: .ref a :: st) h = pF (h.1 a) 3 4 (.ref v) (fun e => ru 146 56 ls st (eUp h a e))) ∧
  (∀ (v : Nat) (t : eL) (st : List Value) (h : eH), ru 146 56 (some (.ref v) :: t) st h = ru 146 57 (some (.ref v) :: t) (.ref v :: st) h) ∧
  (∀ (ls : eL) (st : List Value) (h : eH), ru 146 57 ls st h = ru 146 60 ls (.ref h.2.1 :: st) (va_up h.1 h.2.1 (.inr (9, [.null, .int 0, .int 0])), h.2.1 + 1, h.2.2 + 3)) ∧
  (∀ (x : Nat) (ls : eL) (st : List Value) (h : eH), ru 146 60 ls (.ref x :: st) h = ru 146 61 ls (.ref x :: .ref x :: st) h) ∧
  (∀ (ls : eL) (st : List Value) (h : eH), ru 146 61 ls st h = ru 146 63 ls (.int (nI 36) :: st) h) ∧
  (∀ (a0 : Nat) (a1 : Int32) (u0 : Nat) (u1 : Nat) (ls : eL) (h : eH), ru 146 63 ls [.int a1, .ref a0, .ref u0, .ref u1] h = cl (den 90 [.ref a0, .int a1] h) (fun v h => ru 146 66 ls (v.toList ++ [.ref u0, .ref u1]) h)) ∧
  (∀ (v : Nat) (a : Nat) (ls : eL) (st : List Value) (h : eH), ru 146 66 ls (.ref v :: .ref a :: st) h = pF (h.1 a) 3 5 (.ref v) (fun e => ru 146 69 ls st (eUp h a e))) ∧
  (∀ (v : Nat) (t : eL) (st : List Value) (h : eH), ru 146 69 (some (.ref v) :: t) st h = ru 146 70 (some (.ref v) :: t) (.ref v :: st) h) ∧
  (∀ (ls : eL) (st : List Value) (h : eH), ru 146 70 ls st h = ru 146 73 ls (.ref h.2.1 :: st) (va_up h.1 h.2.1 (.inr (5, [.int 0, .int 0, .int 0, .null, .null, .null, .int 0, .int 0, .int 0, .int 0, .null, .null, .int 0])), h.2.1 + 1, h.2.2 + 13)) ∧
  (∀ (x : Nat) (ls : eL) (st : List Value) (h : eH), ru 146 73 ls (.ref x :: st) h = ru 146 74 ls (.ref x :: .ref x :: st) h) ∧
  (∀ (ls : eL) (st : List Value) (h : eH), ru 146 74 ls st h = ru 146 75 ls (.int (nI 3) :: st) h) ∧
  (∀ (ls : eL) (st : List Value) (h : eH), ru 146 75 ls st h = ru 146 76 ls (.int (nI 3) :: st) h) ∧
  (∀ (ls : eL) (st : List Value) (h : eH), ru 146 76 ls st h = ru 146 78 ls (.int (nI 24) :: st) h) ∧
  (∀ (x0 : Option Value) (v : Nat) (t : eL) (st : List Value) (h : eH), ru 146 78 (x0 :: some (.ref v) :: t) st h = ru 146 79 (x0 :: some (.ref v) :: t) (.ref v :: st) h) ∧
  (∀ (a0 : Nat) (a1 : Int32) (a2 : Int32) (a3 : Int32) (a4 : Nat) (u0 : Nat) (u1 : Nat) (ls : eL) (h : eH), ru 146 79 ls [.ref a4, .int a3, .int a2, .int a1, .ref a0, .ref u0, .ref u1] h = cl (den 145 [.ref a0, .int a1, .int a2, .int a3, .ref a4] h) (fun v h => ru 146 82 ls (v.toList ++ [.ref u0, .ref u1]) h)) ∧
  (∀ (v : Nat) (a : Nat) (ls : eL) (st : List Value) (h : eH), ru 146 82 ls (.ref v :: .ref a :: st) h = pF (h.1 a) 3 0 (.ref v) (fun e => ru 146 85 ls st (eUp h a e))) ∧
  (∀ (ls : eL) (h : eH), ru 146 85 ls [] h = some (none, h)) := ⟨fun v t st h => ru_go rfl rfl,
  fun a ls h => ru_go rfl rfl,
  fun v t st h => ru_go rfl rfl,
  fun ls st h => ru_go rfl rfl,
  fun x ls st h => ru_go rfl rfl,
  fun ls st h => ru_go rfl rfl,
  fun a0 a1 u0 u1 ls h => ru_inv rfl (by decide) rfl (Nat.le_of_ble_eq_true rfl),
  fun v a ls st h => ru_putf rfl,
  fun v t st h => ru_go rfl rfl,
  fun ls st h => ru_go rfl rfl,
  fun x ls st h => ru_go rfl rfl,
  fun ls st h => ru_go rfl rfl,
  fun a0 a1 u0 u1 ls h => ru_inv rfl (by decide) rfl (Nat.le_of_ble_eq_true rfl),
  fun v a ls st h => ru_putf rfl,
  fun v t st h => ru_go rfl rfl,
  fun ls st h => ru_go rfl rfl,
  fun x ls st h => ru_go rfl rfl,
  fun ls st h => ru_go rfl rfl,
  fun a0 a1 u0 u1 ls h => ru_inv rfl (by decide) rfl (Nat.le_of_ble_eq_true rfl),
  fun v a ls st h => ru_putf rfl,
  fun v t st h => ru_go rfl rfl,
  fun ls st h => ru_go rfl rfl,
  fun x ls st h => ru_go rfl rfl,
  fun ls st h => ru_go rfl rfl,
  fun a0 a1 u0 u1 ls h => ru_inv rfl (by decide) rfl (Nat.le_of_ble_eq_true rfl),
  fun v a ls st h => ru_putf rfl,
  fun v t st h => ru_go rfl rfl,
  fun ls st h => ru_go rfl rfl,
  fun x ls st h => ru_go rfl rfl,
  fun ls st h => ru_go rfl rfl,
  fun a0 a1 u0 u1 ls h => ru_inv rfl (by decide) rfl (Nat.le_of_ble_eq_true rfl),
  fun v a ls st h => ru_putf rfl,
  fun v t st h => ru_go rfl rfl,
  fun ls st h => ru_go rfl rfl,
  fun x ls st h => ru_go rfl rfl,
  fun ls st h => ru_go rfl rfl,
  fun ls st h => ru_go rfl rfl,
  fun ls st h => ru_go rfl rfl,
  fun x0 v t st h => ru_go rfl rfl,
  fun a0 a1 a2 a3 a4 u0 u1 ls h => ru_inv rfl (by decide) rfl (Nat.le_of_ble_eq_true rfl),
  fun v a ls st h => ru_putf rfl,
  fun ls h => ru_ret rfl rfl⟩
theorem E146 (a0 : Nat) (a1 : Nat) {h : eH} {fs : List Value} (ha : h.1 a0 = .inr (3, fs)) : den 146 [.ref a0, .ref a1] h = ru 146 0 [some (.ref a0), some (.ref a1)] [] h := den_ob (Nat.le_of_ble_eq_true rfl) ha
/-! 147 X6_init -/
set_option maxRecDepth 100000 in
theorem S147 : (∀ (v : Nat) (t : eL) (st : List Value) (h : eH), ru 147 0 (some (.ref v) :: t) st h = ru 147 1 (some (.ref v) :: t) (.ref v :: st) h) ∧
  (∀ (a : Nat) (ls : eL) (h : eH), ru 147 1 ls [.ref a] h = ru 147 4 ls [] h) ∧
  (∀ (v : Nat) (t : eL) (st : List Value) (h : eH), ru 147 4 (some (.ref v) :: t) st h = ru 147 5 (some (.ref v) :: t) (.ref v :: st) h) ∧
  (∀ (ls : eL) (st : List Value) (h : eH), ru 147 5 ls st h = ru 147 6 ls (.int (nI 1) :: st) h) ∧
  (∀ (v : Int32) (a : Nat) (ls : eL) (st : List Value) (h : eH), ru 147 6 ls (.int v :: .ref a :: st) h = pF (h.1 a) 6 0 (.int v) (fun e => ru 147 9 ls st (eUp h a e))) ∧
  (∀ (v : Nat) (t : eL) (st : List Value) (h : eH), ru 147 9 (some (.ref v) :: t) st h = ru 147 10 (some (.ref v) :: t) (.ref v :: st) h) ∧
  (∀ (ls : eL) (st : List Value) (h : eH), ru 147 10 ls st h = ru 147 11 ls (.int (nI 1) :: st) h) ∧
  (∀ (v : Int32) (a : Nat) (ls : eL) (st : List Value) (h : eH), ru 147 11 ls (.int v :: .ref a :: st) h = pF (h.1 a) 6 1 (.int v) (fun e => ru 147 14 ls st (eUp h a e))) ∧
  (∀ (v : Nat) (t : eL) (st : List Value) (h : eH), ru 147 14 (some (.ref v) :: t) st h = ru 147 15 (some (.ref v) :: t) (.ref v :: st) h) ∧
  (∀ (ls : eL) (st : List Value) (h : eH), ru 147 15 ls st h = ru 147 16 ls (.int (nI 2) :: st) h) ∧
  (∀ (ls : eL) (st : List Value) (h : eH), ru 147 16 ls st h = ru 147 18 ls (.int (nI 8) :: st) h) ∧
  (∀ (n c : Int32) (ls : eL) (st : List Value) (h : eH), ru 147 18 ls (.int c :: .int n :: st) h = if n < 0 ∨ c < 0 ∨ 1000 < n.toNatClampNeg ∨ 1000 < c.toNatClampNeg then none else ru 147 22 ls (.ref h.2.1 :: st) (fun i => if i = h.2.1 then .inl (5, n.toNatClampNeg, .inr (.inr (.inr (.inr (fun j => if j < n.toNatClampNeg then some (h.2.1 + 1 + j) else none))))) else if h.2.1 < i ∧ i < h.2.1 + 1 + n.toNatClampNeg then .inl (0, c.toNatClampNeg, .inl (fun _ => 0)) else h.1 i, h.2.1 + 1 + n.toNatClampNeg, h.2.2 + n.toNatClampNeg + n.toNatClampNeg * c.toNatClampNeg)) ∧
  (∀ (v : Nat) (a : Nat) (ls : eL) (st : List Value) (h : eH), ru 147 22 ls (.ref v :: .ref a :: st) h = pF (h.1 a) 6 3 (.ref v) (fun e => ru 147 25 ls st (eUp h a e))) ∧
  (∀ (v : Nat) (t : eL) (st : List Value) (h : eH), ru 147 25 (some (.ref v) :: t) st h = ru 147 26 (some (.ref v) :: t) (.ref v :: st) h) ∧
  (∀ (ls : eL) (st : List Value) (h : eH), ru 147 26 ls st h = ru 147 27 ls (.int (nI 2) :: st) h) ∧
  (∀ (ls : eL) (st : List Value) (h : eH), ru 147 27 ls st h = ru 147 29 ls (.int (nI 8) :: st) h) ∧
  (∀ (n c : Int32) (ls : eL) (st : List Value) (h : eH), ru 147 29 ls (.int c :: .int n :: st) h = if n < 0 ∨ c < 0 ∨ 1000 < n.toNatClampNeg ∨ 1000 < c.toNatClampNeg then none else ru 147 33 ls (.ref h.2.1 :: st) (fun i => if i = h.2.1 then .inl (5, n.toNatClampNeg, .inr (.inr (.inr (.inr (fun j => if j < n.toNatClampNeg then some (h.2.1 + 1 + j) else none))))) else if h.2.1 < i ∧ i < h.2.1 + 1 + n.toNatClampNeg then .inl (0, c.toNatClampNeg, .inl (fun _ => 0)) else h.1 i, h.2.1 + 1 + n.toNatClampNeg, h.2.2 + n.toNatClampNeg + n.toNatClampNeg * c.toNatClampNeg)) ∧
  (∀ (v : Nat) (a : Nat) (ls : eL) (st : List Value) (h : eH), ru 147 33 ls (.ref v :: .ref a :: st) h = pF (h.1 a) 6 4 (.ref v) (fun e => ru 147 36 ls st (eUp h a e))) ∧
  (∀ (v : Nat) (t : eL) (st : List Value) (h : eH), ru 147 36 (some (.ref v) :: t) st h = ru 147 37 (some (.ref v) :: t) (.ref v :: st) h) ∧
  (∀ (ls : eL) (st : List Value) (h : eH), ru 147 37 ls st h = ru 147 39 ls (.int (nI 8) :: st) h) ∧
  (∀ (c : Int32) (ls : eL) (st : List Value) (h : eH), ru 147 39 ls (.int c :: st) h = if c < 0 ∨ 1000000 < c.toNatClampNeg then none else ru 147 41 ls (.ref h.2.1 :: st) (va_up h.1 h.2.1 (.inl (0, c.toNatClampNeg, .inl (fun _ => 0))), h.2.1 + 1, h.2.2 + c.toNatClampNeg)) ∧
  (∀ (v : Nat) (a : Nat) (ls : eL) (st : List Value) (h : eH), ru 147 41 ls (.ref v :: .ref a :: st) h = pF (h.1 a) 6 5 (.ref v) (fun e => ru 147 44 ls st (eUp h a e))) ∧
  (∀ (v : Nat) (t : eL) (st : List Value) (h : eH), ru 147 44 (some (.ref v) :: t) st h = ru 147 45 (some (.ref v) :: t) (.ref v :: st) h) ∧
  (∀ (ls : eL) (st : List Value) (h : eH), ru 147 45 ls st h = ru 147 47 ls (.int (nI 14) :: st) h) ∧
  (∀ (c : Int32) (ls : eL) (st : List Value) (h : eH), ru 147 47 ls (.int c :: st) h = if c < 0 ∨ 1000000 < c.toNatClampNeg then none else ru 147 49 ls (.ref h.2.1 :: st) (va_up h.1 h.2.1 (.inl (0, c.toNatClampNeg, .inl (fun _ => 0))), h.2.1 + 1, h.2.2 + c.toNatClampNeg)) ∧
  (∀ (v : Nat) (a : Nat) (ls : eL) (st : List Value) (h : eH), ru 147 49 ls (.ref v :: .ref a :: st) h = pF (h.1 a) 6 6 (.ref v) (fun e => ru 147 52 ls st (eUp h a e))) ∧
  (∀ (v : Nat) (t : eL) (st : List Value) (h : eH), ru 147 52 (some (.ref v) :: t) st h = ru 147 53 (some (.ref v) :: t) (.ref v :: st) h) ∧
  (∀ (ls : eL) (st : List Value) (h : eH), ru 147 53 ls st h = ru 147 55 ls (.int (nI 14) :: st) h) ∧
  (∀ (c : Int32) (ls : eL) (st : List Value) (h : eH), ru 147 55 ls (.int c :: st) h = if c < 0 ∨ 1000000 < c.toNatClampNeg then none else ru 147 57 ls (.ref h.2.1 :: st) (va_up h.1 h.2.1 (.inl (0, c.toNatClampNeg, .inl (fun _ => 0))), h.2.1 + 1, h.2.2 + c.toNatClampNeg)) ∧
  (∀ (v : Nat) (a : Nat) (ls : eL) (st : List Value) (h : eH), ru 147 57 ls (.ref v :: .ref a :: st) h = pF (h.1 a) 6 7 (.ref v) (fun e => ru 147 60 ls st (eUp h a e))) ∧
  (∀ (v : Nat) (t : eL) (st : List Value) (h : eH), ru 147 60 (some (.ref v) :: t) st h = ru 147 61 (some (.ref v) :: t) (.ref v :: st) h) ∧
  (∀ (ls : eL) (st : List Value) (h : eH), ru 147 61 ls st h = ru 147 63 ls (.int (nI 14) :: st) h) ∧
  (∀ (c : Int32) (ls : eL) (st : List Value) (h : eH), ru 147 63 ls (.int c :: st) h = if c < 0 ∨ 1000000 < c.toNatClampNeg then none else ru 147 65 ls (.ref h.2.1 :: st) (va_up h.1 h.2.1 (.inl (0, c.toNatClampNeg, .inl (fun _ => 0))), h.2.1 + 1, h.2.2 + c.toNatClampNeg)) ∧
  (∀ (v : Nat) (a : Nat) (ls : eL) (st : List Value) (h : eH), ru 147 65 ls (.ref v :: .ref a :: st) h = pF (h.1 a) 6 8 (.ref v) (fun e => ru 147 68 ls st (eUp h a e))) ∧
  (∀ (v : Nat) (t : eL) (st : List Value) (h : eH), ru 147 68 (some (.ref v) :: t) st h = ru 147 69 (some (.ref v) :: t) (.ref v :: st) h) ∧
  (∀ (ls : eL) (st : List Value) (h : eH), ru 147 69 ls st h = ru 147 71 ls (.int (nI 14) :: st) h) ∧
  (∀ (c : Int32) (ls : eL) (st : List Value) (h : eH), ru 147 71 ls (.int c :: st) h = if c < 0 ∨ 1000000 < c.toNatClampNeg then none else ru 147 73 ls (.ref h.2.1 :: st) (va_up h.1 h.2.1 (.inl (0, c.toNatClampNeg, .inl (fun _ => 0))), h.2.1 + 1, h.2.2 + c.toNatClampNeg)) ∧
  (∀ (v : Nat) (a : Nat) (ls : eL) (st : List Value) (h : eH), ru 147 73 ls (.ref v :: .ref a :: st) h = pF (h.1 a) 6 9 (.ref v) (fun e => ru 147 76 ls st (eUp h a e))) ∧
  (∀ (ls : eL) (h : eH), ru 147 76 ls [] h = some (none, h)) := ⟨fun v t st h => ru_go rfl rfl,
  fun a ls h => ru_go rfl rfl,
  fun v t st h => ru_go rfl rfl,
  fun ls st h => ru_go rfl rfl,
  fun v a ls st h => ru_putf rfl,
  fun v t st h => ru_go rfl rfl,
  fun ls st h => ru_go rfl rfl,
  fun v a ls st h => ru_putf rfl,
  fun v t st h => ru_go rfl rfl,
  fun ls st h => ru_go rfl rfl,
  fun ls st h => ru_go rfl rfl,
  fun n c ls st h => ru_guard rfl rfl,
  fun v a ls st h => ru_putf rfl,
  fun v t st h => ru_go rfl rfl,
  fun ls st h => ru_go rfl rfl,
  fun ls st h => ru_go rfl rfl,
  fun n c ls st h => ru_guard rfl rfl,
  fun v a ls st h => ru_putf rfl,
  fun v t st h => ru_go rfl rfl,
  fun ls st h => ru_go rfl rfl,
  fun c ls st h => ru_guard rfl rfl,
  fun v a ls st h => ru_putf rfl,
  fun v t st h => ru_go rfl rfl,
  fun ls st h => ru_go rfl rfl,
  fun c ls st h => ru_guard rfl rfl,
  fun v a ls st h => ru_putf rfl,
  fun v t st h => ru_go rfl rfl,
  fun ls st h => ru_go rfl rfl,
  fun c ls st h => ru_guard rfl rfl,
  fun v a ls st h => ru_putf rfl,
  fun v t st h => ru_go rfl rfl,
  fun ls st h => ru_go rfl rfl,
  fun c ls st h => ru_guard rfl rfl,
  fun v a ls st h => ru_putf rfl,
  fun v t st h => ru_go rfl rfl,
  fun ls st h => ru_go rfl rfl,
  fun c ls st h => ru_guard rfl rfl,
  fun v a ls st h => ru_putf rfl,
  fun ls h => ru_ret rfl rfl⟩
theorem E147 (a0 : Nat) {h : eH} {fs : List Value} (ha : h.1 a0 = .inr (6, fs)) : den 147 [.ref a0] h = ru 147 0 [some (.ref a0)] [] h := den_ob (Nat.le_of_ble_eq_true rfl) ha
/-! 148 X10_init -/
set_option maxRecDepth 100000 in
theorem S148 : (∀ (v : Nat) (t : eL) (st : List Value) (h : eH), ru 148 0 (some (.ref v) :: t) st h = ru 148 1 (some (.ref v) :: t) (.ref v :: st) h) ∧
  (∀ (a : Nat) (ls : eL) (h : eH), ru 148 1 ls [.ref a] h = ru 148 4 ls [] h) ∧
  (∀ (v : Nat) (t : eL) (st : List Value) (h : eH), ru 148 4 (some (.ref v) :: t) st h = ru 148 5 (some (.ref v) :: t) (.ref v :: st) h) ∧
  (∀ (ls : eL) (st : List Value) (h : eH), ru 148 5 ls st h = ru 148 8 ls (.ref h.2.1 :: st) (va_up h.1 h.2.1 (.inr (7, [.null, .null, .null, .int 0, .int 0, .int 0])), h.2.1 + 1, h.2.2 + 6)) ∧
  (∀ (x : Nat) (ls : eL) (st : List Value) (h : eH), ru 148 8 ls (.ref x :: st) h = ru 148 9 ls (.ref x :: .ref x :: st) h) ∧
  (∀ (a0 : Nat) (u0 : Nat) (u1 : Nat) (ls : eL) (h : eH), ru 148 9 ls [.ref a0, .ref u0, .ref u1] h = cl (den 141 [.ref a0] h) (fun v h => ru 148 12 ls (v.toList ++ [.ref u0, .ref u1]) h)) ∧
  (∀ (v : Nat) (a : Nat) (ls : eL) (st : List Value) (h : eH), ru 148 12 ls (.ref v :: .ref a :: st) h = pF (h.1 a) 10 0 (.ref v) (fun e => ru 148 15 ls st (eUp h a e))) ∧
  (∀ (v : Nat) (t : eL) (st : List Value) (h : eH), ru 148 15 (some (.ref v) :: t) st h = ru 148 16 (some (.ref v) :: t) (.ref v :: st) h) ∧
  (∀ (ls : eL) (st : List Value) (h : eH), ru 148 16 ls st h = ru 148 19 ls (.ref h.2.1 :: st) (va_up h.1 h.2.1 (.inr (4, [.null, .null, .null])), h.2.1 + 1, h.2.2 + 3)) ∧
  (∀ (x : Nat) (ls : eL) (st : List Value) (h : eH), ru 148 19 ls (.ref x :: st) h = ru 148 20 ls (.ref x :: .ref x :: st) h) ∧
  (∀ (a0 : Nat) (u0 : Nat) (u1 : Nat) (ls : eL) (h : eH), ru 148 20 ls [.ref a0, .ref u0, .ref u1] h = cl (den 142 [.ref a0] h) (fun v h => ru 148 23 ls (v.toList ++ [.ref u0, .ref u1]) h)) ∧
  (∀ (v : Nat) (a : Nat) (ls : eL) (st : List Value) (h : eH), ru 148 23 ls (.ref v :: .ref a :: st) h = pF (h.1 a) 10 1 (.ref v) (fun e => ru 148 26 ls st (eUp h a e))) ∧
  (∀ (v : Nat) (t : eL) (st : List Value) (h : eH), ru 148 26 (some (.ref v) :: t) st h = ru 148 27 (some (.ref v) :: t) (.ref v :: st) h) ∧
  (∀ (ls : eL) (st : List Value) (h : eH), ru 148 27 ls st h = ru 148 30 ls (.ref h.2.1 :: st) (va_up h.1 h.2.1 (.inr (1, [.null, .null, .null, .null, .null, .null, .null])), h.2.1 + 1, h.2.2 + 7)) ∧
  (∀ (x : Nat) (ls : eL) (st : List Value) (h : eH), ru 148 30 ls (.ref x :: st) h = ru 148 31 ls (.ref x :: .ref x :: st) h) ∧
  (∀ (a0 : Nat) (u0 : Nat) (u1 : Nat) (ls : eL) (h : eH), ru 148 31 ls [.ref a0, .ref u0, .ref u1] h = cl (den 144 [.ref a0] h) (fun v h => ru 148 34 ls (v.toList ++ [.ref u0, .ref u1]) h)) ∧
  (∀ (v : Nat) (a : Nat) (ls : eL) (st : List Value) (h : eH), ru 148 34 ls (.ref v :: .ref a :: st) h = pF (h.1 a) 10 2 (.ref v) (fun e => ru 148 37 ls st (eUp h a e))) ∧
  (∀ (v : Nat) (t : eL) (st : List Value) (h : eH), ru 148 37 (some (.ref v) :: t) st h = ru 148 38 (some (.ref v) :: t) (.ref v :: st) h) ∧
  (∀ (ls : eL) (st : List Value) (h : eH), ru 148 38 ls st h = ru 148 41 ls (.ref h.2.1 :: st) (va_up h.1 h.2.1 (.inr (5, [.int 0, .int 0, .int 0, .null, .null, .null, .int 0, .int 0, .int 0, .int 0, .null, .null, .int 0])), h.2.1 + 1, h.2.2 + 13)) ∧
  (∀ (x : Nat) (ls : eL) (st : List Value) (h : eH), ru 148 41 ls (.ref x :: st) h = ru 148 42 ls (.ref x :: .ref x :: st) h) ∧
  (∀ (ls : eL) (st : List Value) (h : eH), ru 148 42 ls st h = ru 148 44 ls (.int (nI 16) :: st) h) ∧
  (∀ (ls : eL) (st : List Value) (h : eH), ru 148 44 ls st h = ru 148 46 ls (.int (nI 15) :: st) h) ∧
  (∀ (ls : eL) (st : List Value) (h : eH), ru 148 46 ls st h = ru 148 47 ls (.int (nI 5) :: st) h) ∧
  (∀ (v : Nat) (t : eL) (st : List Value) (h : eH), ru 148 47 (some (.ref v) :: t) st h = ru 148 48 (some (.ref v) :: t) (.ref v :: st) h) ∧
  (∀ (a : Nat) (ls : eL) (st : List Value) (h : eH), ru 148 48 ls (.ref a :: st) h = gF (h.1 a) 10 2 (fun v => ru 148 51 ls (v :: st) h)) ∧
  (∀ (a0 : Nat) (a1 : Int32) (a2 : Int32) (a3 : Int32) (a4 : Nat) (u0 : Nat) (u1 : Nat) (ls : eL) (h : eH), ru 148 51 ls [.ref a4, .int a3, .int a2, .int a1, .ref a0, .ref u0, .ref u1] h = cl (den 145 [.ref a0, .int a1, .int a2, .int a3, .ref a4] h) (fun v h => ru 148 54 ls (v.toList ++ [.ref u0, .ref u1]) h)) ∧
  (∀ (v : Nat) (a : Nat) (ls : eL) (st : List Value) (h : eH), ru 148 54 ls (.ref v :: .ref a :: st) h = pF (h.1 a) 10 3 (.ref v) (fun e => ru 148 57 ls st (eUp h a e))) ∧
  (∀ (v : Nat) (t : eL) (st : List Value) (h : eH), ru 148 57 (some (.ref v) :: t) st h = ru 148 58 (some (.ref v) :: t) (.ref v :: st) h) ∧
  (∀ (ls : eL) (st : List Value) (h : eH), ru 148 58 ls st h = ru 148 61 ls (.ref h.2.1 :: st) (va_up h.1 h.2.1 (.inr (5, [.int 0, .int 0, .int 0, .null, .null, .null, .int 0, .int 0, .int 0, .int 0, .null, .null, .int 0])), h.2.1 + 1, h.2.2 + 13)) ∧
  (∀ (x : Nat) (ls : eL) (st : List Value) (h : eH), ru 148 61 ls (.ref x :: st) h = ru 148 62 ls (.ref x :: .ref x :: st) h) ∧
  (∀ (ls : eL) (st : List Value) (h : eH), ru 148 62 ls st h = ru 148 64 ls (.int (nI 14) :: st) h) ∧
  (∀ (ls : eL) (st : List Value) (h : eH), ru 148 64 ls st h = ru 148 66 ls (.int (nI 16) :: st) h) ∧
  (∀ (ls : eL) (st : List Value) (h : eH), ru 148 66 ls st h = ru 148 67 ls (.int (nI 5) :: st) h) ∧
  (∀ (v : Nat) (t : eL) (st : List Value) (h : eH), ru 148 67 (some (.ref v) :: t) st h = ru 148 68 (some (.ref v) :: t) (.ref v :: st) h) ∧
  (∀ (a : Nat) (ls : eL) (st : List Value) (h : eH), ru 148 68 ls (.ref a :: st) h = gF (h.1 a) 10 2 (fun v => ru 148 71 ls (v :: st) h)) ∧
  (∀ (a0 : Nat) (a1 : Int32) (a2 : Int32) (a3 : Int32) (a4 : Nat) (u0 : Nat) (u1 : Nat) (ls : eL) (h : eH), ru 148 71 ls [.ref a4, .int a3, .int a2, .int a1, .ref a0, .ref u0, .ref u1] h = cl (den 145 [.ref a0, .int a1, .int a2, .int a3, .ref a4] h) (fun v h => ru 148 74 ls (v.toList ++ [.ref u0, .ref u1]) h)) ∧
  (∀ (v : Nat) (a : Nat) (ls : eL) (st : List Value) (h : eH), ru 148 74 ls (.ref v :: .ref a :: st) h = pF (h.1 a) 10 4 (.ref v) (fun e => ru 148 77 ls st (eUp h a e))) ∧
  (∀ (v : Nat) (t : eL) (st : List Value) (h : eH), ru 148 77 (some (.ref v) :: t) st h = ru 148 78 (some (.ref v) :: t) (.ref v :: st) h) ∧
  (∀ (ls : eL) (st : List Value) (h : eH), ru 148 78 ls st h = ru 148 81 ls (.ref h.2.1 :: st) (va_up h.1 h.2.1 (.inr (5, [.int 0, .int 0, .int 0, .null, .null, .null, .int 0, .int 0, .int 0, .int 0, .null, .null, .int 0])), h.2.1 + 1, h.2.2 + 13)) ∧
  (∀ (x : Nat) (ls : eL) (st : List Value) (h : eH), ru 148 81 ls (.ref x :: st) h = ru 148 82 ls (.ref x :: .ref x :: st) h) ∧
  (∀ (ls : eL) (st : List Value) (h : eH), ru 148 82 ls st h = ru 148 84 ls (.int (nI 8) :: st) h) ∧
  (∀ (ls : eL) (st : List Value) (h : eH), ru 148 84 ls st h = ru 148 86 ls (.int (nI 10) :: st) h) ∧
  (∀ (ls : eL) (st : List Value) (h : eH), ru 148 86 ls st h = ru 148 87 ls (.int (nI 5) :: st) h) ∧
  (∀ (v : Nat) (t : eL) (st : List Value) (h : eH), ru 148 87 (some (.ref v) :: t) st h = ru 148 88 (some (.ref v) :: t) (.ref v :: st) h) ∧
  (∀ (a : Nat) (ls : eL) (st : List Value) (h : eH), ru 148 88 ls (.ref a :: st) h = gF (h.1 a) 10 2 (fun v => ru 148 91 ls (v :: st) h)) ∧
  (∀ (a0 : Nat) (a1 : Int32) (a2 : Int32) (a3 : Int32) (a4 : Nat) (u0 : Nat) (u1 : Nat) (ls : eL) (h : eH), ru 148 91 ls [.ref a4, .int a3, .int a2, .int a1, .ref a0, .ref u0, .ref u1] h = cl (den 145 [.ref a0, .int a1, .int a2, .int a3, .ref a4] h) (fun v h => ru 148 94 ls (v.toList ++ [.ref u0, .ref u1]) h)) ∧
  (∀ (v : Nat) (a : Nat) (ls : eL) (st : List Value) (h : eH), ru 148 94 ls (.ref v :: .ref a :: st) h = pF (h.1 a) 10 5 (.ref v) (fun e => ru 148 97 ls st (eUp h a e))) ∧
  (∀ (v : Nat) (t : eL) (st : List Value) (h : eH), ru 148 97 (some (.ref v) :: t) st h = ru 148 98 (some (.ref v) :: t) (.ref v :: st) h) ∧
  (∀ (ls : eL) (st : List Value) (h : eH), ru 148 98 ls st h = ru 148 101 ls (.ref h.2.1 :: st) (va_up h.1 h.2.1 (.inr (0, [.null, .null, .null, .null, .null, .null, .null, .int 0])), h.2.1 + 1, h.2.2 + 8)) ∧
  (∀ (x : Nat) (ls : eL) (st : List Value) (h : eH), ru 148 101 ls (.ref x :: st) h = ru 148 102 ls (.ref x :: .ref x :: st) h) ∧
  (∀ (a0 : Nat) (u0 : Nat) (u1 : Nat) (ls : eL) (h : eH), ru 148 102 ls [.ref a0, .ref u0, .ref u1] h = cl (den 92 [.ref a0] h) (fun v h => ru 148 105 ls (v.toList ++ [.ref u0, .ref u1]) h)) ∧
  (∀ (v : Nat) (a : Nat) (ls : eL) (st : List Value) (h : eH), ru 148 105 ls (.ref v :: .ref a :: st) h = pF (h.1 a) 10 6 (.ref v) (fun e => ru 148 108 ls st (eUp h a e))) ∧
  (∀ (v : Nat) (t : eL) (st : List Value) (h : eH), ru 148 108 (some (.ref v) :: t) st h = ru 148 109 (some (.ref v) :: t) (.ref v :: st) h) ∧
  (∀ (ls : eL) (st : List Value) (h : eH), ru 148 109 ls st h = ru 148 112 ls (.ref h.2.1 :: st) (va_up h.1 h.2.1 (.inr (3, [.null, .null, .null, .null, .null, .null])), h.2.1 + 1, h.2.2 + 6)) ∧
  (∀ (x : Nat) (ls : eL) (st : List Value) (h : eH), ru 148 112 ls (.ref x :: st) h = ru 148 113 ls (.ref x :: .ref x :: st) h) ∧
  (∀ (v : Nat) (t : eL) (st : List Value) (h : eH), ru 148 113 (some (.ref v) :: t) st h = ru 148 114 (some (.ref v) :: t) (.ref v :: st) h) ∧
  (∀ (a : Nat) (ls : eL) (st : List Value) (h : eH), ru 148 114 ls (.ref a :: st) h = gF (h.1 a) 10 2 (fun v => ru 148 117 ls (v :: st) h)) ∧
  (∀ (a0 : Nat) (a1 : Nat) (u0 : Nat) (u1 : Nat) (ls : eL) (h : eH), ru 148 117 ls [.ref a1, .ref a0, .ref u0, .ref u1] h = cl (den 146 [.ref a0, .ref a1] h) (fun v h => ru 148 120 ls (v.toList ++ [.ref u0, .ref u1]) h)) ∧
  (∀ (v : Nat) (a : Nat) (ls : eL) (st : List Value) (h : eH), ru 148 120 ls (.ref v :: .ref a :: st) h = pF (h.1 a) 10 7 (.ref v) (fun e => ru 148 123 ls st (eUp h a e))) ∧
  (∀ (v : Nat) (t : eL) (st : List Value) (h : eH), ru 148 123 (some (.ref v) :: t) st h = ru 148 124 (some (.ref v) :: t) (.ref v :: st) h) ∧
  (∀ (ls : eL) (st : List Value) (h : eH), ru 148 124 ls st h = ru 148 127 ls (.ref h.2.1 :: st) (va_up h.1 h.2.1 (.inr (9, [.null, .int 0, .int 0])), h.2.1 + 1, h.2.2 + 3)) ∧
  (∀ (x : Nat) (ls : eL) (st : List Value) (h : eH), ru 148 127 ls (.ref x :: st) h = ru 148 128 ls (.ref x :: .ref x :: st) h) ∧
  (∀ (ls : eL) (st : List Value) (h : eH), ru 148 128 ls st h = ru 148 130 ls (.int (nI 36) :: st) h) ∧
  (∀ (a0 : Nat) (a1 : Int32) (u0 : Nat) (u1 : Nat) (ls : eL) (h : eH), ru 148 130 ls [.int a1, .ref a0, .ref u0, .ref u1] h = cl (den 90 [.ref a0, .int a1] h) (fun v h => ru 148 133 ls (v.toList ++ [.ref u0, .ref u1]) h)) ∧
  (∀ (v : Nat) (a : Nat) (ls : eL) (st : List Value) (h : eH), ru 148 133 ls (.ref v :: .ref a :: st) h = pF (h.1 a) 10 8 (.ref v) (fun e => ru 148 136 ls st (eUp h a e))) ∧
  (∀ (v : Nat) (t : eL) (st : List Value) (h : eH), ru 148 136 (some (.ref v) :: t) st h = ru 148 137 (some (.ref v) :: t) (.ref v :: st) h) ∧
  (∀ (ls : eL) (st : List Value) (h : eH), ru 148 137 ls st h = ru 148 140 ls (.ref h.2.1 :: st) (va_up h.1 h.2.1 (.inr (6, [.int 0, .int 0, .int 0, .null, .null, .null, .null, .null, .null, .null])), h.2.1 + 1, h.2.2 + 10)) ∧
  (∀ (x : Nat) (ls : eL) (st : List Value) (h : eH), ru 148 140 ls (.ref x :: st) h = ru 148 141 ls (.ref x :: .ref x :: st) h) ∧
  (∀ (a0 : Nat) (u0 : Nat) (u1 : Nat) (ls : eL) (h : eH), ru 148 141 ls [.ref a0, .ref u0, .ref u1] h = cl (den 147 [.ref a0] h) (fun v h => ru 148 144 ls (v.toList ++ [.ref u0, .ref u1]) h)) ∧
  (∀ (v : Nat) (a : Nat) (ls : eL) (st : List Value) (h : eH), ru 148 144 ls (.ref v :: .ref a :: st) h = pF (h.1 a) 10 9 (.ref v) (fun e => ru 148 147 ls st (eUp h a e))) ∧
  (∀ (v : Nat) (t : eL) (st : List Value) (h : eH), ru 148 147 (some (.ref v) :: t) st h = ru 148 148 (some (.ref v) :: t) (.ref v :: st) h) ∧
  (∀ (ls : eL) (st : List Value) (h : eH), ru 148 148 ls st h = ru 148 151 ls (.ref h.2.1 :: st) (va_up h.1 h.2.1 (.inr (6, [.int 0, .int 0, .int 0, .null, .null, .null, .null, .null, .null, .null])), h.2.1 + 1, h.2.2 + 10)) ∧
  (∀ (x : Nat) (ls : eL) (st : List Value) (h : eH), ru 148 151 ls (.ref x :: st) h = ru 148 152 ls (.ref x :: .ref x :: st) h) ∧
  (∀ (a0 : Nat) (u0 : Nat) (u1 : Nat) (ls : eL) (h : eH), ru 148 152 ls [.ref a0, .ref u0, .ref u1] h = cl (den 147 [.ref a0] h) (fun v h => ru 148 155 ls (v.toList ++ [.ref u0, .ref u1]) h)) ∧
  (∀ (v : Nat) (a : Nat) (ls : eL) (st : List Value) (h : eH), ru 148 155 ls (.ref v :: .ref a :: st) h = pF (h.1 a) 10 10 (.ref v) (fun e => ru 148 158 ls st (eUp h a e))) ∧
  (∀ (ls : eL) (h : eH), ru 148 158 ls [] h = some (none, h)) := ⟨fun v t st h => ru_go rfl rfl,
  fun a ls h => ru_go rfl rfl,
  fun v t st h => ru_go rfl rfl,
  fun ls st h => ru_go rfl rfl,
  fun x ls st h => ru_go rfl rfl,
  fun a0 u0 u1 ls h => ru_inv rfl (by decide) rfl (Nat.le_of_ble_eq_true rfl),
  fun v a ls st h => ru_putf rfl,
  fun v t st h => ru_go rfl rfl,
  fun ls st h => ru_go rfl rfl,
  fun x ls st h => ru_go rfl rfl,
  fun a0 u0 u1 ls h => ru_inv rfl (by decide) rfl (Nat.le_of_ble_eq_true rfl),
  fun v a ls st h => ru_putf rfl,
  fun v t st h => ru_go rfl rfl,
  fun ls st h => ru_go rfl rfl,
  fun x ls st h => ru_go rfl rfl,
  fun a0 u0 u1 ls h => ru_inv rfl (by decide) rfl (Nat.le_of_ble_eq_true rfl),
  fun v a ls st h => ru_putf rfl,
  fun v t st h => ru_go rfl rfl,
  fun ls st h => ru_go rfl rfl,
  fun x ls st h => ru_go rfl rfl,
  fun ls st h => ru_go rfl rfl,
  fun ls st h => ru_go rfl rfl,
  fun ls st h => ru_go rfl rfl,
  fun v t st h => ru_go rfl rfl,
  fun a ls st h => ru_getf rfl,
  fun a0 a1 a2 a3 a4 u0 u1 ls h => ru_inv rfl (by decide) rfl (Nat.le_of_ble_eq_true rfl),
  fun v a ls st h => ru_putf rfl,
  fun v t st h => ru_go rfl rfl,
  fun ls st h => ru_go rfl rfl,
  fun x ls st h => ru_go rfl rfl,
  fun ls st h => ru_go rfl rfl,
  fun ls st h => ru_go rfl rfl,
  fun ls st h => ru_go rfl rfl,
  fun v t st h => ru_go rfl rfl,
  fun a ls st h => ru_getf rfl,
  fun a0 a1 a2 a3 a4 u0 u1 ls h => ru_inv rfl (by decide) rfl (Nat.le_of_ble_eq_true rfl),
  fun v a ls st h => ru_putf rfl,
  fun v t st h => ru_go rfl rfl,
  fun ls st h => ru_go rfl rfl,
  fun x ls st h => ru_go rfl rfl,
  fun ls st h => ru_go rfl rfl,
  fun ls st h => ru_go rfl rfl,
  fun ls st h => ru_go rfl rfl,
  fun v t st h => ru_go rfl rfl,
  fun a ls st h => ru_getf rfl,
  fun a0 a1 a2 a3 a4 u0 u1 ls h => ru_inv rfl (by decide) rfl (Nat.le_of_ble_eq_true rfl),
  fun v a ls st h => ru_putf rfl,
  fun v t st h => ru_go rfl rfl,
  fun ls st h => ru_go rfl rfl,
  fun x ls st h => ru_go rfl rfl,
  fun a0 u0 u1 ls h => ru_inv rfl (by decide) rfl (Nat.le_of_ble_eq_true rfl),
  fun v a ls st h => ru_putf rfl,
  fun v t st h => ru_go rfl rfl,
  fun ls st h => ru_go rfl rfl,
  fun x ls st h => ru_go rfl rfl,
  fun v t st h => ru_go rfl rfl,
  fun a ls st h => ru_getf rfl,
  fun a0 a1 u0 u1 ls h => ru_inv rfl (by decide) rfl (Nat.le_of_ble_eq_true rfl),
  fun v a ls st h => ru_putf rfl,
  fun v t st h => ru_go rfl rfl,
  fun ls st h => ru_go rfl rfl,
  fun x ls st h => ru_go rfl rfl,
  fun ls st h => ru_go rfl rfl,
  fun a0 a1 u0 u1 ls h => ru_inv rfl (by decide) rfl (Nat.le_of_ble_eq_true rfl),
  fun v a ls st h => ru_putf rfl,
  fun v t st h => ru_go rfl rfl,
  fun ls st h => ru_go rfl rfl,
  fun x ls st h => ru_go rfl rfl,
  fun a0 u0 u1 ls h => ru_inv rfl (by decide) rfl (Nat.le_of_ble_eq_true rfl),
  fun v a ls st h => ru_putf rfl,
  fun v t st h => ru_go rfl rfl,
  fun ls st h => ru_go rfl rfl,
  fun x ls st h => ru_go rfl rfl,
  fun a0 u0 u1 ls h => ru_inv rfl (by decide) rfl (Nat.le_of_ble_eq_true rfl),
  fun v a ls st h => ru_putf rfl,
  fun ls h => ru_ret rfl rfl⟩
theorem E148 (a0 : Nat) {h : eH} {fs : List Value} (ha : h.1 a0 = .inr (10, fs)) : den 148 [.ref a0] h = ru 148 0 [some (.ref a0)] [] h := den_ob (Nat.le_of_ble_eq_true rfl) ha
/-! 149 X10_isAxis -/
set_option maxRecDepth 100000 in
theorem S149 : (∀ (v : Int32) (t : eL) (st : List Value) (h : eH), ru 149 0 (some (.int v) :: t) st h = ru 149 1 (some (.int v) :: t) (.int v :: st) h) ∧
  (∀ (x : Int32) (ls : eL) (st : List Value) (h : eH), ru 149 1 ls (.int x :: st) h = if x = 0 then ru 149 9 ls st h else ru 149 4 ls st h) ∧
  (∀ (v : Int32) (t : eL) (st : List Value) (h : eH), ru 149 4 (some (.int v) :: t) st h = ru 149 5 (some (.int v) :: t) (.int v :: st) h) ∧
  (∀ (ls : eL) (st : List Value) (h : eH), ru 149 5 ls st h = ru 149 6 ls (.int (nI 1) :: st) h) ∧
  (∀ (x y : Int32) (ls : eL) (st : List Value) (h : eH), ru 149 6 ls (.int y :: .int x :: st) h = if x = y then ru 149 9 ls st h else ru 149 13 ls st h) ∧
  (∀ (ls : eL) (st : List Value) (h : eH), ru 149 9 ls st h = ru 149 10 ls (.int (nI 1) :: st) h) ∧
  (∀ (ls : eL) (st : List Value) (h : eH), ru 149 10 ls st h = ru 149 14 ls st h) ∧
  (∀ (ls : eL) (st : List Value) (h : eH), ru 149 13 ls st h = ru 149 14 ls (.int (nI 0) :: st) h) ∧
  (∀ (x : Int32) (ls : eL) (h : eH), ru 149 14 ls [.int x] h = bo (x == 0 || x == 1) (some (some (.int x), h))) := ⟨fun v t st h => ru_go rfl rfl,
  fun x ls st h => ru_if rfl rfl,
  fun v t st h => ru_go rfl rfl,
  fun ls st h => ru_go rfl rfl,
  fun x y ls st h => ru_if rfl rfl,
  fun ls st h => ru_go rfl rfl,
  fun ls st h => ru_go rfl rfl,
  fun ls st h => ru_go rfl rfl,
  fun x ls h => ru_bret rfl rfl⟩
theorem E149 (a0 : Int32) (h : eH) : den 149 [.int a0] h = ru 149 0 [some (.int a0)] [] h := den_st rfl (Nat.le_of_ble_eq_true rfl)
/-! 150 X10_isSlot -/
set_option maxRecDepth 100000 in
theorem S150 : (∀ (v : Int32) (t : eL) (st : List Value) (h : eH), ru 150 0 (some (.int v) :: t) st h = ru 150 1 (some (.int v) :: t) (.int v :: st) h) ∧
  (∀ (x : Int32) (ls : eL) (st : List Value) (h : eH), ru 150 1 ls (.int x :: st) h = if x < 0 then ru 150 14 ls st h else ru 150 4 ls st h) ∧
  (∀ (v : Int32) (t : eL) (st : List Value) (h : eH), ru 150 4 (some (.int v) :: t) st h = ru 150 5 (some (.int v) :: t) (.int v :: st) h) ∧
  (∀ (ls : eL) (st : List Value) (h : eH), ru 150 5 ls st h = ru 150 7 ls (.int (nI 8) :: st) h) ∧
  (∀ (x y : Int32) (ls : eL) (st : List Value) (h : eH), ru 150 7 ls (.int y :: .int x :: st) h = if y ≤ x then ru 150 14 ls st h else ru 150 10 ls st h) ∧
  (∀ (ls : eL) (st : List Value) (h : eH), ru 150 10 ls st h = ru 150 11 ls (.int (nI 1) :: st) h) ∧
  (∀ (ls : eL) (st : List Value) (h : eH), ru 150 11 ls st h = ru 150 15 ls st h) ∧
  (∀ (ls : eL) (st : List Value) (h : eH), ru 150 14 ls st h = ru 150 15 ls (.int (nI 0) :: st) h) ∧
  (∀ (x : Int32) (ls : eL) (h : eH), ru 150 15 ls [.int x] h = bo (x == 0 || x == 1) (some (some (.int x), h))) := ⟨fun v t st h => ru_go rfl rfl,
  fun x ls st h => ru_if rfl rfl,
  fun v t st h => ru_go rfl rfl,
  fun ls st h => ru_go rfl rfl,
  fun x y ls st h => ru_if rfl rfl,
  fun ls st h => ru_go rfl rfl,
  fun ls st h => ru_go rfl rfl,
  fun ls st h => ru_go rfl rfl,
  fun x ls h => ru_bret rfl rfl⟩
theorem E150 (a0 : Int32) (h : eH) : den 150 [.int a0] h = ru 150 0 [some (.int a0)] [] h := den_st rfl (Nat.le_of_ble_eq_true rfl)
/-! 151 X10_isStrength -/
set_option maxRecDepth 100000 in
theorem S151 : (∀ (v : Int32) (t : eL) (st : List Value) (h : eH), ru 151 0 (some (.int v) :: t) st h = ru 151 1 (some (.int v) :: t) (.int v :: st) h) ∧
  (∀ (ls : eL) (st : List Value) (h : eH), ru 151 1 ls st h = ru 151 4 ls (.int ((-1000)) :: st) h) ∧
  (∀ (x y : Int32) (ls : eL) (st : List Value) (h : eH), ru 151 4 ls (.int y :: .int x :: st) h = if x < y then ru 151 18 ls st h else ru 151 7 ls st h) ∧
  (∀ (v : Int32) (t : eL) (st : List Value) (h : eH), ru 151 7 (some (.int v) :: t) st h = ru 151 8 (some (.int v) :: t) (.int v :: st) h) ∧
  (∀ (ls : eL) (st : List Value) (h : eH), ru 151 8 ls st h = ru 151 11 ls (.int (nI 1000) :: st) h) ∧
  (∀ (x y : Int32) (ls : eL) (st : List Value) (h : eH), ru 151 11 ls (.int y :: .int x :: st) h = if y < x then ru 151 18 ls st h else ru 151 14 ls st h) ∧
  (∀ (ls : eL) (st : List Value) (h : eH), ru 151 14 ls st h = ru 151 15 ls (.int (nI 1) :: st) h) ∧
  (∀ (ls : eL) (st : List Value) (h : eH), ru 151 15 ls st h = ru 151 19 ls st h) ∧
  (∀ (ls : eL) (st : List Value) (h : eH), ru 151 18 ls st h = ru 151 19 ls (.int (nI 0) :: st) h) ∧
  (∀ (x : Int32) (ls : eL) (h : eH), ru 151 19 ls [.int x] h = bo (x == 0 || x == 1) (some (some (.int x), h))) := ⟨fun v t st h => ru_go rfl rfl,
  fun ls st h => ru_go rfl rfl,
  fun x y ls st h => ru_if rfl rfl,
  fun v t st h => ru_go rfl rfl,
  fun ls st h => ru_go rfl rfl,
  fun x y ls st h => ru_if rfl rfl,
  fun ls st h => ru_go rfl rfl,
  fun ls st h => ru_go rfl rfl,
  fun ls st h => ru_go rfl rfl,
  fun x ls h => ru_bret rfl rfl⟩
theorem E151 (a0 : Int32) (h : eH) : den 151 [.int a0] h = ru 151 0 [some (.int a0)] [] h := den_st rfl (Nat.le_of_ble_eq_true rfl)
/-! 152 X6_fillMoves -/
set_option maxRecDepth 100000 in
theorem H152_17 : (∀ (x0 x1 : Option Value) (v : Int32) (t : eL) (st : List Value) (h : eH), ru 152 17 (x0 :: x1 :: some (.int v) :: t) st h = ru 152 18 (x0 :: x1 :: some (.int v) :: t) (.int v :: st) h) := fun x0 x1 v t st h => ru_go rfl rfl
set_option maxRecDepth 100000 in
theorem H152_27 : (∀ (x0 x1 x2 : Option Value) (v : Int32) (t : eL) (st : List Value) (h : eH), ru 152 27 (x0 :: x1 :: x2 :: some (.int v) :: t) st h = ru 152 28 (x0 :: x1 :: x2 :: some (.int v) :: t) (.int v :: st) h) := fun x0 x1 x2 v t st h => ru_go rfl rfl
set_option maxRecDepth 100000 in
theorem H152_83 : (∀ (x0 x1 : Option Value) (v : Int32) (t : eL) (st : List Value) (h : eH), ru 152 83 (x0 :: x1 :: some (.int v) :: t) st h = ru 152 86 (x0 :: eKl x1 :: some (.int (v + 1)) :: t) st h) := fun x0 x1 v t st h => ru_go rfl rfl
set_option maxRecDepth 100000 in
theorem S152 : (∀ (x0 : Option Value) (v : Nat) (t : eL) (st : List Value) (h : eH), ru 152 0 (x0 :: some (.ref v) :: t) st h = ru 152 1 (x0 :: some (.ref v) :: t) (.ref v :: st) h) ∧
  (∀ (v : Nat) (t : eL) (st : List Value) (h : eH), ru 152 1 (some (.ref v) :: t) st h = ru 152 2 (some (.ref v) :: t) (.ref v :: st) h) ∧
  (∀ (a : Nat) (ls : eL) (st : List Value) (h : eH), ru 152 2 ls (.ref a :: st) h = gF (h.1 a) 6 2 (fun v => ru 152 5 ls (v :: st) h)) ∧
  (∀ (ls : eL) (st : List Value) (h : eH), ru 152 5 ls st h = ru 152 6 ls (.int (nI 2) :: st) h) ∧
  (∀ (v : Nat) (t : eL) (st : List Value) (h : eH), ru 152 6 (some (.ref v) :: t) st h = ru 152 7 (some (.ref v) :: t) (.ref v :: st) h) ∧
  (∀ (a : Nat) (ls : eL) (st : List Value) (h : eH), ru 152 7 ls (.ref a :: st) h = gF (h.1 a) 6 1 (fun v => ru 152 10 ls (v :: st) h)) ∧
  (∀ (x y : Int32) (ls : eL) (st : List Value) (h : eH), ru 152 10 ls (.int y :: .int x :: st) h = ru 152 11 ls (.int (x * y) :: st) h) ∧
  (∀ (ls : eL) (st : List Value) (h : eH), ru 152 11 ls st h = ru 152 12 ls (.int (nI 0) :: st) h) ∧
  (∀ (a0 : Nat) (a1 : Int32) (a2 : Int32) (a3 : Int32) (ls : eL) (h : eH), ru 152 12 ls [.int a3, .int a2, .int a1, .ref a0] h = cl (den 106 [.ref a0, .int a1, .int a2, .int a3] h) (fun v h => ru 152 15 ls (v.toList ++ []) h)) ∧
  (∀ (ls : eL) (st : List Value) (h : eH), ru 152 15 ls st h = ru 152 16 ls (.int (nI 0) :: st) h) ∧
  (∀ (x0 x1 x2 : Option Value) (v : Int32) (t : eL) (st : List Value) (h : eH), ru 152 16 (x0 :: x1 :: x2 :: t) (.int v :: st) h = ru 152 17 (x0 :: eKl x1 :: some (.int v) :: t) st h) ∧
  (∀ (v : Nat) (t : eL) (st : List Value) (h : eH), ru 152 18 (some (.ref v) :: t) st h = ru 152 19 (some (.ref v) :: t) (.ref v :: st) h) ∧
  (∀ (a : Nat) (ls : eL) (st : List Value) (h : eH), ru 152 19 ls (.ref a :: st) h = gF (h.1 a) 6 2 (fun v => ru 152 22 ls (v :: st) h)) ∧
  (∀ (x y : Int32) (ls : eL) (st : List Value) (h : eH), ru 152 22 ls (.int y :: .int x :: st) h = if y ≤ x then ru 152 89 ls st h else ru 152 25 ls st h) ∧
  (∀ (ls : eL) (st : List Value) (h : eH), ru 152 25 ls st h = ru 152 26 ls (.int (nI 0) :: st) h) ∧
  (∀ (x0 x1 x2 x3 : Option Value) (v : Int32) (t : eL) (st : List Value) (h : eH), ru 152 26 (x0 :: x1 :: x2 :: x3 :: t) (.int v :: st) h = ru 152 27 (x0 :: x1 :: eKl x2 :: some (.int v) :: t) st h) ∧
  (∀ (ls : eL) (st : List Value) (h : eH), ru 152 28 ls st h = ru 152 29 ls (.int (nI 2) :: st) h) ∧
  (∀ (x y : Int32) (ls : eL) (st : List Value) (h : eH), ru 152 29 ls (.int y :: .int x :: st) h = if y ≤ x then ru 152 83 ls st h else ru 152 32 ls st h) ∧
  (∀ (x0 : Option Value) (v : Nat) (t : eL) (st : List Value) (h : eH), ru 152 32 (x0 :: some (.ref v) :: t) st h = ru 152 33 (x0 :: some (.ref v) :: t) (.ref v :: st) h) ∧
  (∀ (x0 x1 : Option Value) (v : Int32) (t : eL) (st : List Value) (h : eH), ru 152 33 (x0 :: x1 :: some (.int v) :: t) st h = ru 152 34 (x0 :: x1 :: some (.int v) :: t) (.int v :: st) h) ∧
  (∀ (v : Nat) (t : eL) (st : List Value) (h : eH), ru 152 34 (some (.ref v) :: t) st h = ru 152 35 (some (.ref v) :: t) (.ref v :: st) h) ∧
  (∀ (v : Nat) (t : eL) (st : List Value) (h : eH), ru 152 35 (some (.ref v) :: t) st h = ru 152 36 (some (.ref v) :: t) (.ref v :: st) h) ∧
  (∀ (a : Nat) (ls : eL) (st : List Value) (h : eH), ru 152 36 ls (.ref a :: st) h = gF (h.1 a) 6 6 (fun v => ru 152 39 ls (v :: st) h)) ∧
  (∀ (x0 x1 : Option Value) (v : Int32) (t : eL) (st : List Value) (h : eH), ru 152 39 (x0 :: x1 :: some (.int v) :: t) st h = ru 152 40 (x0 :: x1 :: some (.int v) :: t) (.int v :: st) h) ∧
  (∀ (i : Int32) (a : Nat) (ls : eL) (st : List Value) (h : eH), ru 152 40 ls (.int i :: .ref a :: st) h = aI (h.1 a) 0 i (fun v => ru 152 41 ls (.int v :: st) h)) ∧
  (∀ (x0 x1 x2 : Option Value) (v : Int32) (t : eL) (st : List Value) (h : eH), ru 152 41 (x0 :: x1 :: x2 :: some (.int v) :: t) st h = ru 152 42 (x0 :: x1 :: x2 :: some (.int v) :: t) (.int v :: st) h) ∧
  (∀ (a0 : Nat) (a1 : Int32) (a2 : Int32) (u0 : Int32) (u1 : Nat) (ls : eL) (h : eH), ru 152 42 ls [.int a2, .int a1, .ref a0, .int u0, .ref u1] h = cl (den 108 [.ref a0, .int a1, .int a2] h) (fun v h => ru 152 45 ls (v.toList ++ [.int u0, .ref u1]) h)) ∧
  (∀ (v : Nat) (t : eL) (st : List Value) (h : eH), ru 152 45 (some (.ref v) :: t) st h = ru 152 46 (some (.ref v) :: t) (.ref v :: st) h) ∧
  (∀ (x0 x1 : Option Value) (v : Int32) (t : eL) (st : List Value) (h : eH), ru 152 46 (x0 :: x1 :: some (.int v) :: t) st h = ru 152 47 (x0 :: x1 :: some (.int v) :: t) (.int v :: st) h) ∧
  (∀ (x0 x1 x2 : Option Value) (v : Int32) (t : eL) (st : List Value) (h : eH), ru 152 47 (x0 :: x1 :: x2 :: some (.int v) :: t) st h = ru 152 48 (x0 :: x1 :: x2 :: some (.int v) :: t) (.int v :: st) h) ∧
  (∀ (a0 : Nat) (a1 : Int32) (a2 : Int32) (u0 : Int32) (u1 : Int32) (u2 : Nat) (ls : eL) (h : eH), ru 152 48 ls [.int a2, .int a1, .ref a0, .int u0, .int u1, .ref u2] h = cl (den 109 [.ref a0, .int a1, .int a2] h) (fun v h => ru 152 51 ls (v.toList ++ [.int u0, .int u1, .ref u2]) h)) ∧
  (∀ (x : Int32) (ls : eL) (st : List Value) (h : eH), ru 152 51 ls (.int x :: st) h = ru 152 52 ls (.int (-x) :: st) h) ∧
  (∀ (a0 : Nat) (a1 : Int32) (a2 : Int32) (a3 : Int32) (ls : eL) (h : eH), ru 152 52 ls [.int a3, .int a2, .int a1, .ref a0] h = cl (den 110 [.ref a0, .int a1, .int a2, .int a3] h) (fun v h => ru 152 55 ls (v.toList ++ []) h)) ∧
  (∀ (x0 : Option Value) (v : Nat) (t : eL) (st : List Value) (h : eH), ru 152 55 (x0 :: some (.ref v) :: t) st h = ru 152 56 (x0 :: some (.ref v) :: t) (.ref v :: st) h) ∧
  (∀ (x0 x1 : Option Value) (v : Int32) (t : eL) (st : List Value) (h : eH), ru 152 56 (x0 :: x1 :: some (.int v) :: t) st h = ru 152 57 (x0 :: x1 :: some (.int v) :: t) (.int v :: st) h) ∧
  (∀ (v : Nat) (t : eL) (st : List Value) (h : eH), ru 152 57 (some (.ref v) :: t) st h = ru 152 58 (some (.ref v) :: t) (.ref v :: st) h) ∧
  (∀ (v : Nat) (t : eL) (st : List Value) (h : eH), ru 152 58 (some (.ref v) :: t) st h = ru 152 59 (some (.ref v) :: t) (.ref v :: st) h) ∧
  (∀ (a : Nat) (ls : eL) (st : List Value) (h : eH), ru 152 59 ls (.ref a :: st) h = gF (h.1 a) 6 7 (fun v => ru 152 62 ls (v :: st) h)) ∧
  (∀ (x0 x1 : Option Value) (v : Int32) (t : eL) (st : List Value) (h : eH), ru 152 62 (x0 :: x1 :: some (.int v) :: t) st h = ru 152 63 (x0 :: x1 :: some (.int v) :: t) (.int v :: st) h) ∧
  (∀ (i : Int32) (a : Nat) (ls : eL) (st : List Value) (h : eH), ru 152 63 ls (.int i :: .ref a :: st) h = aI (h.1 a) 0 i (fun v => ru 152 64 ls (.int v :: st) h)) ∧
  (∀ (x0 x1 x2 : Option Value) (v : Int32) (t : eL) (st : List Value) (h : eH), ru 152 64 (x0 :: x1 :: x2 :: some (.int v) :: t) st h = ru 152 65 (x0 :: x1 :: x2 :: some (.int v) :: t) (.int v :: st) h) ∧
  (∀ (a0 : Nat) (a1 : Int32) (a2 : Int32) (u0 : Int32) (u1 : Nat) (ls : eL) (h : eH), ru 152 65 ls [.int a2, .int a1, .ref a0, .int u0, .ref u1] h = cl (den 108 [.ref a0, .int a1, .int a2] h) (fun v h => ru 152 68 ls (v.toList ++ [.int u0, .ref u1]) h)) ∧
  (∀ (v : Nat) (t : eL) (st : List Value) (h : eH), ru 152 68 (some (.ref v) :: t) st h = ru 152 69 (some (.ref v) :: t) (.ref v :: st) h) ∧
  (∀ (x0 x1 : Option Value) (v : Int32) (t : eL) (st : List Value) (h : eH), ru 152 69 (x0 :: x1 :: some (.int v) :: t) st h = ru 152 70 (x0 :: x1 :: some (.int v) :: t) (.int v :: st) h) ∧
  (∀ (x0 x1 x2 : Option Value) (v : Int32) (t : eL) (st : List Value) (h : eH), ru 152 70 (x0 :: x1 :: x2 :: some (.int v) :: t) st h = ru 152 71 (x0 :: x1 :: x2 :: some (.int v) :: t) (.int v :: st) h) ∧
  (∀ (a0 : Nat) (a1 : Int32) (a2 : Int32) (u0 : Int32) (u1 : Int32) (u2 : Nat) (ls : eL) (h : eH), ru 152 71 ls [.int a2, .int a1, .ref a0, .int u0, .int u1, .ref u2] h = cl (den 109 [.ref a0, .int a1, .int a2] h) (fun v h => ru 152 74 ls (v.toList ++ [.int u0, .int u1, .ref u2]) h)) ∧
  (∀ (a0 : Nat) (a1 : Int32) (a2 : Int32) (a3 : Int32) (ls : eL) (h : eH), ru 152 74 ls [.int a3, .int a2, .int a1, .ref a0] h = cl (den 110 [.ref a0, .int a1, .int a2, .int a3] h) (fun v h => ru 152 77 ls (v.toList ++ []) h)) ∧
  (∀ (x0 x1 x2 : Option Value) (v : Int32) (t : eL) (st : List Value) (h : eH), ru 152 77 (x0 :: x1 :: x2 :: some (.int v) :: t) st h = ru 152 80 (x0 :: x1 :: eKl x2 :: some (.int (v + 1)) :: t) st h) ∧
  (∀ (ls : eL) (st : List Value) (h : eH), ru 152 80 ls st h = ru 152 27 ls st h) ∧
  (∀ (ls : eL) (st : List Value) (h : eH), ru 152 86 ls st h = ru 152 17 ls st h) ∧
  (∀ (ls : eL) (h : eH), ru 152 89 ls [] h = some (none, h)) := ⟨fun x0 v t st h => ru_go rfl rfl,
  fun v t st h => ru_go rfl rfl,
  fun a ls st h => ru_getf rfl,
  fun ls st h => ru_go rfl rfl,
  fun v t st h => ru_go rfl rfl,
  fun a ls st h => ru_getf rfl,
  fun x y ls st h => ru_go rfl rfl,
  fun ls st h => ru_go rfl rfl,
  fun a0 a1 a2 a3 ls h => ru_inv rfl (by decide) rfl (Nat.le_of_ble_eq_true rfl),
  fun ls st h => ru_go rfl rfl,
  fun x0 x1 x2 v t st h => ru_go rfl rfl,
  fun v t st h => ru_go rfl rfl,
  fun a ls st h => ru_getf rfl,
  fun x y ls st h => ru_if rfl rfl,
  fun ls st h => ru_go rfl rfl,
  fun x0 x1 x2 x3 v t st h => ru_go rfl rfl,
  fun ls st h => ru_go rfl rfl,
  fun x y ls st h => ru_if rfl rfl,
  fun x0 v t st h => ru_go rfl rfl,
  fun x0 x1 v t st h => ru_go rfl rfl,
  fun v t st h => ru_go rfl rfl,
  fun v t st h => ru_go rfl rfl,
  fun a ls st h => ru_getf rfl,
  fun x0 x1 v t st h => ru_go rfl rfl,
  fun i a ls st h => ru_iald rfl,
  fun x0 x1 x2 v t st h => ru_go rfl rfl,
  fun a0 a1 a2 u0 u1 ls h => ru_inv rfl (by decide) rfl (Nat.le_of_ble_eq_true rfl),
  fun v t st h => ru_go rfl rfl,
  fun x0 x1 v t st h => ru_go rfl rfl,
  fun x0 x1 x2 v t st h => ru_go rfl rfl,
  fun a0 a1 a2 u0 u1 u2 ls h => ru_inv rfl (by decide) rfl (Nat.le_of_ble_eq_true rfl),
  fun x ls st h => ru_go rfl rfl,
  fun a0 a1 a2 a3 ls h => ru_inv rfl (by decide) rfl (Nat.le_of_ble_eq_true rfl),
  fun x0 v t st h => ru_go rfl rfl,
  fun x0 x1 v t st h => ru_go rfl rfl,
  fun v t st h => ru_go rfl rfl,
  fun v t st h => ru_go rfl rfl,
  fun a ls st h => ru_getf rfl,
  fun x0 x1 v t st h => ru_go rfl rfl,
  fun i a ls st h => ru_iald rfl,
  fun x0 x1 x2 v t st h => ru_go rfl rfl,
  fun a0 a1 a2 u0 u1 ls h => ru_inv rfl (by decide) rfl (Nat.le_of_ble_eq_true rfl),
  fun v t st h => ru_go rfl rfl,
  fun x0 x1 v t st h => ru_go rfl rfl,
  fun x0 x1 x2 v t st h => ru_go rfl rfl,
  fun a0 a1 a2 u0 u1 u2 ls h => ru_inv rfl (by decide) rfl (Nat.le_of_ble_eq_true rfl),
  fun a0 a1 a2 a3 ls h => ru_inv rfl (by decide) rfl (Nat.le_of_ble_eq_true rfl),
  fun x0 x1 x2 v t st h => ru_go rfl rfl,
  fun ls st h => ru_go rfl rfl,
  fun ls st h => ru_go rfl rfl,
  fun ls h => ru_ret rfl rfl⟩
theorem E152 (a0 : Nat) (a1 : Nat) {h : eH} {fs : List Value} (ha : h.1 a0 = .inr (6, fs)) : den 152 [.ref a0, .ref a1] h = ru 152 0 [some (.ref a0), some (.ref a1), none, none] [] h := den_ob (Nat.le_of_ble_eq_true rfl) ha
/-! 153 X10_knowMoves -/
set_option maxRecDepth 100000 in
theorem S153 : (∀ (v : Nat) (t : eL) (st : List Value) (h : eH), ru 153 0 (some (.ref v) :: t) st h = ru 153 1 (some (.ref v) :: t) (.ref v :: st) h) ∧
  (∀ (a : Nat) (ls : eL) (st : List Value) (h : eH), ru 153 1 ls (.ref a :: st) h = gF (h.1 a) 10 13 (fun v => ru 153 4 ls (v :: st) h)) ∧
  (∀ (x : Int32) (ls : eL) (st : List Value) (h : eH), ru 153 4 ls (.int x :: st) h = if x = 0 then ru 153 7 ls st h else ru 153 30 ls st h) ∧
  (∀ (v : Nat) (t : eL) (st : List Value) (h : eH), ru 153 7 (some (.ref v) :: t) st h = ru 153 8 (some (.ref v) :: t) (.ref v :: st) h) ∧
  (∀ (a : Nat) (ls : eL) (st : List Value) (h : eH), ru 153 8 ls (.ref a :: st) h = gF (h.1 a) 10 9 (fun v => ru 153 11 ls (v :: st) h)) ∧
  (∀ (v : Nat) (t : eL) (st : List Value) (h : eH), ru 153 11 (some (.ref v) :: t) st h = ru 153 12 (some (.ref v) :: t) (.ref v :: st) h) ∧
  (∀ (a : Nat) (ls : eL) (st : List Value) (h : eH), ru 153 12 ls (.ref a :: st) h = gF (h.1 a) 10 4 (fun v => ru 153 15 ls (v :: st) h)) ∧
  (∀ (a0 : Nat) (a1 : Nat) (ls : eL) (h : eH), ru 153 15 ls [.ref a1, .ref a0] h = cl (den 152 [.ref a0, .ref a1] h) (fun v h => ru 153 18 ls (v.toList ++ []) h)) ∧
  (∀ (v : Nat) (t : eL) (st : List Value) (h : eH), ru 153 18 (some (.ref v) :: t) st h = ru 153 19 (some (.ref v) :: t) (.ref v :: st) h) ∧
  (∀ (a : Nat) (ls : eL) (st : List Value) (h : eH), ru 153 19 ls (.ref a :: st) h = gF (h.1 a) 10 4 (fun v => ru 153 22 ls (v :: st) h)) ∧
  (∀ (a0 : Nat) (ls : eL) (h : eH), ru 153 22 ls [.ref a0] h = cl (den 122 [.ref a0] h) (fun v h => ru 153 25 ls (v.toList ++ []) h)) ∧
  (∀ (v : Nat) (t : eL) (st : List Value) (h : eH), ru 153 25 (some (.ref v) :: t) st h = ru 153 26 (some (.ref v) :: t) (.ref v :: st) h) ∧
  (∀ (ls : eL) (st : List Value) (h : eH), ru 153 26 ls st h = ru 153 27 ls (.int (nI 1) :: st) h) ∧
  (∀ (v : Int32) (a : Nat) (ls : eL) (st : List Value) (h : eH), ru 153 27 ls (.int v :: .ref a :: st) h = pF (h.1 a) 10 13 (.int v) (fun e => ru 153 30 ls st (eUp h a e))) ∧
  (∀ (ls : eL) (h : eH), ru 153 30 ls [] h = some (none, h)) := ⟨fun v t st h => ru_go rfl rfl,
  fun a ls st h => ru_getf rfl,
  fun x ls st h => ru_if rfl rfl,
  fun v t st h => ru_go rfl rfl,
  fun a ls st h => ru_getf rfl,
  fun v t st h => ru_go rfl rfl,
  fun a ls st h => ru_getf rfl,
  fun a0 a1 ls h => ru_inv rfl (by decide) rfl (Nat.le_of_ble_eq_true rfl),
  fun v t st h => ru_go rfl rfl,
  fun a ls st h => ru_getf rfl,
  fun a0 ls h => ru_inv rfl (by decide) rfl (Nat.le_of_ble_eq_true rfl),
  fun v t st h => ru_go rfl rfl,
  fun ls st h => ru_go rfl rfl,
  fun v a ls st h => ru_putf rfl,
  fun ls h => ru_ret rfl rfl⟩
theorem E153 (a0 : Nat) {h : eH} {fs : List Value} (ha : h.1 a0 = .inr (10, fs)) : den 153 [.ref a0] h = ru 153 0 [some (.ref a0)] [] h := den_ob (Nat.le_of_ble_eq_true rfl) ha
/-! 154 X6_addHold -/
set_option maxRecDepth 100000 in
theorem S154 : (∀ (x0 : Option Value) (v : Nat) (t : eL) (st : List Value) (h : eH), ru 154 0 (x0 :: some (.ref v) :: t) st h = ru 154 1 (x0 :: some (.ref v) :: t) (.ref v :: st) h) ∧
  (∀ (v : Nat) (t : eL) (st : List Value) (h : eH), ru 154 1 (some (.ref v) :: t) st h = ru 154 2 (some (.ref v) :: t) (.ref v :: st) h) ∧
  (∀ (a : Nat) (ls : eL) (st : List Value) (h : eH), ru 154 2 ls (.ref a :: st) h = gF (h.1 a) 6 5 (fun v => ru 154 5 ls (v :: st) h)) ∧
  (∀ (x0 x1 : Option Value) (v : Int32) (t : eL) (st : List Value) (h : eH), ru 154 5 (x0 :: x1 :: some (.int v) :: t) st h = ru 154 6 (x0 :: x1 :: some (.int v) :: t) (.int v :: st) h) ∧
  (∀ (i : Int32) (a : Nat) (ls : eL) (st : List Value) (h : eH), ru 154 6 ls (.int i :: .ref a :: st) h = aI (h.1 a) 0 i (fun v => ru 154 7 ls (.int v :: st) h)) ∧
  (∀ (v : Nat) (t : eL) (st : List Value) (h : eH), ru 154 7 (some (.ref v) :: t) st h = ru 154 8 (some (.ref v) :: t) (.ref v :: st) h) ∧
  (∀ (a : Nat) (ls : eL) (st : List Value) (h : eH), ru 154 8 ls (.ref a :: st) h = gF (h.1 a) 6 5 (fun v => ru 154 11 ls (v :: st) h)) ∧
  (∀ (x0 x1 : Option Value) (v : Int32) (t : eL) (st : List Value) (h : eH), ru 154 11 (x0 :: x1 :: some (.int v) :: t) st h = ru 154 12 (x0 :: x1 :: some (.int v) :: t) (.int v :: st) h) ∧
  (∀ (i : Int32) (a : Nat) (ls : eL) (st : List Value) (h : eH), ru 154 12 ls (.int i :: .ref a :: st) h = aI (h.1 a) 0 i (fun v => ru 154 13 ls (.int v :: st) h)) ∧
  (∀ (x0 x1 x2 x3 : Option Value) (v : Int32) (t : eL) (st : List Value) (h : eH), ru 154 13 (x0 :: x1 :: x2 :: x3 :: some (.int v) :: t) st h = ru 154 15 (x0 :: x1 :: x2 :: x3 :: some (.int v) :: t) (.int v :: st) h) ∧
  (∀ (a0 : Nat) (a1 : Int32) (a2 : Int32) (a3 : Int32) (ls : eL) (h : eH), ru 154 15 ls [.int a3, .int a2, .int a1, .ref a0] h = cl (den 110 [.ref a0, .int a1, .int a2, .int a3] h) (fun v h => ru 154 18 ls (v.toList ++ []) h)) ∧
  (∀ (x0 : Option Value) (v : Nat) (t : eL) (st : List Value) (h : eH), ru 154 18 (x0 :: some (.ref v) :: t) st h = ru 154 19 (x0 :: some (.ref v) :: t) (.ref v :: st) h) ∧
  (∀ (v : Nat) (t : eL) (st : List Value) (h : eH), ru 154 19 (some (.ref v) :: t) st h = ru 154 20 (some (.ref v) :: t) (.ref v :: st) h) ∧
  (∀ (a : Nat) (ls : eL) (st : List Value) (h : eH), ru 154 20 ls (.ref a :: st) h = gF (h.1 a) 6 5 (fun v => ru 154 23 ls (v :: st) h)) ∧
  (∀ (x0 x1 : Option Value) (v : Int32) (t : eL) (st : List Value) (h : eH), ru 154 23 (x0 :: x1 :: some (.int v) :: t) st h = ru 154 24 (x0 :: x1 :: some (.int v) :: t) (.int v :: st) h) ∧
  (∀ (i : Int32) (a : Nat) (ls : eL) (st : List Value) (h : eH), ru 154 24 ls (.int i :: .ref a :: st) h = aI (h.1 a) 0 i (fun v => ru 154 25 ls (.int v :: st) h)) ∧
  (∀ (v : Nat) (t : eL) (st : List Value) (h : eH), ru 154 25 (some (.ref v) :: t) st h = ru 154 26 (some (.ref v) :: t) (.ref v :: st) h) ∧
  (∀ (a : Nat) (ls : eL) (st : List Value) (h : eH), ru 154 26 ls (.ref a :: st) h = gF (h.1 a) 6 5 (fun v => ru 154 29 ls (v :: st) h)) ∧
  (∀ (x0 x1 x2 : Option Value) (v : Int32) (t : eL) (st : List Value) (h : eH), ru 154 29 (x0 :: x1 :: x2 :: some (.int v) :: t) st h = ru 154 30 (x0 :: x1 :: x2 :: some (.int v) :: t) (.int v :: st) h) ∧
  (∀ (i : Int32) (a : Nat) (ls : eL) (st : List Value) (h : eH), ru 154 30 ls (.int i :: .ref a :: st) h = aI (h.1 a) 0 i (fun v => ru 154 31 ls (.int v :: st) h)) ∧
  (∀ (x0 x1 x2 x3 : Option Value) (v : Int32) (t : eL) (st : List Value) (h : eH), ru 154 31 (x0 :: x1 :: x2 :: x3 :: some (.int v) :: t) st h = ru 154 33 (x0 :: x1 :: x2 :: x3 :: some (.int v) :: t) (.int v :: st) h) ∧
  (∀ (x : Int32) (ls : eL) (st : List Value) (h : eH), ru 154 33 ls (.int x :: st) h = ru 154 34 ls (.int (-x) :: st) h) ∧
  (∀ (a0 : Nat) (a1 : Int32) (a2 : Int32) (a3 : Int32) (ls : eL) (h : eH), ru 154 34 ls [.int a3, .int a2, .int a1, .ref a0] h = cl (den 110 [.ref a0, .int a1, .int a2, .int a3] h) (fun v h => ru 154 37 ls (v.toList ++ []) h)) ∧
  (∀ (v : Nat) (t : eL) (st : List Value) (h : eH), ru 154 37 (some (.ref v) :: t) st h = ru 154 38 (some (.ref v) :: t) (.ref v :: st) h) ∧
  (∀ (x0 x1 x2 : Option Value) (v : Int32) (t : eL) (st : List Value) (h : eH), ru 154 38 (x0 :: x1 :: x2 :: some (.int v) :: t) st h = ru 154 39 (x0 :: x1 :: x2 :: some (.int v) :: t) (.int v :: st) h) ∧
  (∀ (a0 : Nat) (a1 : Int32) (ls : eL) (h : eH), ru 154 39 ls [.int a1, .ref a0] h = cl (den 107 [.ref a0, .int a1] h) (fun v h => ru 154 42 ls (v.toList ++ []) h)) ∧
  (∀ (x : Int32) (ls : eL) (st : List Value) (h : eH), ru 154 42 ls (.int x :: st) h = if x = 0 then ru 154 97 ls st h else ru 154 45 ls st h) ∧
  (∀ (x0 : Option Value) (v : Nat) (t : eL) (st : List Value) (h : eH), ru 154 45 (x0 :: some (.ref v) :: t) st h = ru 154 46 (x0 :: some (.ref v) :: t) (.ref v :: st) h) ∧
  (∀ (v : Nat) (t : eL) (st : List Value) (h : eH), ru 154 46 (some (.ref v) :: t) st h = ru 154 47 (some (.ref v) :: t) (.ref v :: st) h) ∧
  (∀ (a : Nat) (ls : eL) (st : List Value) (h : eH), ru 154 47 ls (.ref a :: st) h = gF (h.1 a) 6 5 (fun v => ru 154 50 ls (v :: st) h)) ∧
  (∀ (x0 x1 : Option Value) (v : Int32) (t : eL) (st : List Value) (h : eH), ru 154 50 (x0 :: x1 :: some (.int v) :: t) st h = ru 154 51 (x0 :: x1 :: some (.int v) :: t) (.int v :: st) h) ∧
  (∀ (i : Int32) (a : Nat) (ls : eL) (st : List Value) (h : eH), ru 154 51 ls (.int i :: .ref a :: st) h = aI (h.1 a) 0 i (fun v => ru 154 52 ls (.int v :: st) h)) ∧
  (∀ (v : Nat) (t : eL) (st : List Value) (h : eH), ru 154 52 (some (.ref v) :: t) st h = ru 154 53 (some (.ref v) :: t) (.ref v :: st) h) ∧
  (∀ (a : Nat) (ls : eL) (st : List Value) (h : eH), ru 154 53 ls (.ref a :: st) h = gF (h.1 a) 6 1 (fun v => ru 154 56 ls (v :: st) h)) ∧
  (∀ (x0 x1 x2 x3 : Option Value) (v : Int32) (t : eL) (st : List Value) (h : eH), ru 154 56 (x0 :: x1 :: x2 :: x3 :: some (.int v) :: t) st h = ru 154 58 (x0 :: x1 :: x2 :: x3 :: some (.int v) :: t) (.int v :: st) h) ∧
  (∀ (v : Nat) (t : eL) (st : List Value) (h : eH), ru 154 58 (some (.ref v) :: t) st h = ru 154 59 (some (.ref v) :: t) (.ref v :: st) h) ∧
  (∀ (a : Nat) (ls : eL) (st : List Value) (h : eH), ru 154 59 ls (.ref a :: st) h = gF (h.1 a) 6 3 (fun v => ru 154 62 ls (v :: st) h)) ∧
  (∀ (ls : eL) (st : List Value) (h : eH), ru 154 62 ls st h = ru 154 63 ls (.int (nI 0) :: st) h) ∧
  (∀ (i : Int32) (a : Nat) (ls : eL) (st : List Value) (h : eH), ru 154 63 ls (.int i :: .ref a :: st) h = aQ (h.1 a) i (fun v => ru 154 64 ls (.ref v :: st) h)) ∧
  (∀ (x0 x1 x2 : Option Value) (v : Int32) (t : eL) (st : List Value) (h : eH), ru 154 64 (x0 :: x1 :: x2 :: some (.int v) :: t) st h = ru 154 65 (x0 :: x1 :: x2 :: some (.int v) :: t) (.int v :: st) h) ∧
  (∀ (i : Int32) (a : Nat) (ls : eL) (st : List Value) (h : eH), ru 154 65 ls (.int i :: .ref a :: st) h = aI (h.1 a) 0 i (fun v => ru 154 66 ls (.int v :: st) h)) ∧
  (∀ (x y : Int32) (ls : eL) (st : List Value) (h : eH), ru 154 66 ls (.int y :: .int x :: st) h = ru 154 67 ls (.int (x * y) :: st) h) ∧
  (∀ (a0 : Nat) (a1 : Int32) (a2 : Int32) (a3 : Int32) (ls : eL) (h : eH), ru 154 67 ls [.int a3, .int a2, .int a1, .ref a0] h = cl (den 110 [.ref a0, .int a1, .int a2, .int a3] h) (fun v h => ru 154 70 ls (v.toList ++ []) h)) ∧
  (∀ (x0 : Option Value) (v : Nat) (t : eL) (st : List Value) (h : eH), ru 154 70 (x0 :: some (.ref v) :: t) st h = ru 154 71 (x0 :: some (.ref v) :: t) (.ref v :: st) h) ∧
  (∀ (v : Nat) (t : eL) (st : List Value) (h : eH), ru 154 71 (some (.ref v) :: t) st h = ru 154 72 (some (.ref v) :: t) (.ref v :: st) h) ∧
  (∀ (a : Nat) (ls : eL) (st : List Value) (h : eH), ru 154 72 ls (.ref a :: st) h = gF (h.1 a) 6 5 (fun v => ru 154 75 ls (v :: st) h)) ∧
  (∀ (x0 x1 : Option Value) (v : Int32) (t : eL) (st : List Value) (h : eH), ru 154 75 (x0 :: x1 :: some (.int v) :: t) st h = ru 154 76 (x0 :: x1 :: some (.int v) :: t) (.int v :: st) h) ∧
  (∀ (i : Int32) (a : Nat) (ls : eL) (st : List Value) (h : eH), ru 154 76 ls (.int i :: .ref a :: st) h = aI (h.1 a) 0 i (fun v => ru 154 77 ls (.int v :: st) h)) ∧
  (∀ (v : Nat) (t : eL) (st : List Value) (h : eH), ru 154 77 (some (.ref v) :: t) st h = ru 154 78 (some (.ref v) :: t) (.ref v :: st) h) ∧
  (∀ (a : Nat) (ls : eL) (st : List Value) (h : eH), ru 154 78 ls (.ref a :: st) h = gF (h.1 a) 6 1 (fun v => ru 154 81 ls (v :: st) h)) ∧
  (∀ (ls : eL) (st : List Value) (h : eH), ru 154 81 ls st h = ru 154 82 ls (.int (nI 1) :: st) h) ∧
  (∀ (x y : Int32) (ls : eL) (st : List Value) (h : eH), ru 154 82 ls (.int y :: .int x :: st) h = ru 154 83 ls (.int (x + y) :: st) h) ∧
  (∀ (x0 x1 x2 x3 : Option Value) (v : Int32) (t : eL) (st : List Value) (h : eH), ru 154 83 (x0 :: x1 :: x2 :: x3 :: some (.int v) :: t) st h = ru 154 85 (x0 :: x1 :: x2 :: x3 :: some (.int v) :: t) (.int v :: st) h) ∧
  (∀ (v : Nat) (t : eL) (st : List Value) (h : eH), ru 154 85 (some (.ref v) :: t) st h = ru 154 86 (some (.ref v) :: t) (.ref v :: st) h) ∧
  (∀ (a : Nat) (ls : eL) (st : List Value) (h : eH), ru 154 86 ls (.ref a :: st) h = gF (h.1 a) 6 3 (fun v => ru 154 89 ls (v :: st) h)) ∧
  (∀ (ls : eL) (st : List Value) (h : eH), ru 154 89 ls st h = ru 154 90 ls (.int (nI 1) :: st) h) ∧
  (∀ (i : Int32) (a : Nat) (ls : eL) (st : List Value) (h : eH), ru 154 90 ls (.int i :: .ref a :: st) h = aQ (h.1 a) i (fun v => ru 154 91 ls (.ref v :: st) h)) ∧
  (∀ (x0 x1 x2 : Option Value) (v : Int32) (t : eL) (st : List Value) (h : eH), ru 154 91 (x0 :: x1 :: x2 :: some (.int v) :: t) st h = ru 154 92 (x0 :: x1 :: x2 :: some (.int v) :: t) (.int v :: st) h) ∧
  (∀ (i : Int32) (a : Nat) (ls : eL) (st : List Value) (h : eH), ru 154 92 ls (.int i :: .ref a :: st) h = aI (h.1 a) 0 i (fun v => ru 154 93 ls (.int v :: st) h)) ∧
  (∀ (x y : Int32) (ls : eL) (st : List Value) (h : eH), ru 154 93 ls (.int y :: .int x :: st) h = ru 154 94 ls (.int (x * y) :: st) h) ∧
  (∀ (a0 : Nat) (a1 : Int32) (a2 : Int32) (a3 : Int32) (ls : eL) (h : eH), ru 154 94 ls [.int a3, .int a2, .int a1, .ref a0] h = cl (den 110 [.ref a0, .int a1, .int a2, .int a3] h) (fun v h => ru 154 97 ls (v.toList ++ []) h)) ∧
  (∀ (ls : eL) (h : eH), ru 154 97 ls [] h = some (none, h)) := ⟨fun x0 v t st h => ru_go rfl rfl,
  fun v t st h => ru_go rfl rfl,
  fun a ls st h => ru_getf rfl,
  fun x0 x1 v t st h => ru_go rfl rfl,
  fun i a ls st h => ru_iald rfl,
  fun v t st h => ru_go rfl rfl,
  fun a ls st h => ru_getf rfl,
  fun x0 x1 v t st h => ru_go rfl rfl,
  fun i a ls st h => ru_iald rfl,
  fun x0 x1 x2 x3 v t st h => ru_go rfl rfl,
  fun a0 a1 a2 a3 ls h => ru_inv rfl (by decide) rfl (Nat.le_of_ble_eq_true rfl),
  fun x0 v t st h => ru_go rfl rfl,
  fun v t st h => ru_go rfl rfl,
  fun a ls st h => ru_getf rfl,
  fun x0 x1 v t st h => ru_go rfl rfl,
  fun i a ls st h => ru_iald rfl,
  fun v t st h => ru_go rfl rfl,
  fun a ls st h => ru_getf rfl,
  fun x0 x1 x2 v t st h => ru_go rfl rfl,
  fun i a ls st h => ru_iald rfl,
  fun x0 x1 x2 x3 v t st h => ru_go rfl rfl,
  fun x ls st h => ru_go rfl rfl,
  fun a0 a1 a2 a3 ls h => ru_inv rfl (by decide) rfl (Nat.le_of_ble_eq_true rfl),
  fun v t st h => ru_go rfl rfl,
  fun x0 x1 x2 v t st h => ru_go rfl rfl,
  fun a0 a1 ls h => ru_inv rfl (by decide) rfl (Nat.le_of_ble_eq_true rfl),
  fun x ls st h => ru_if rfl rfl,
  fun x0 v t st h => ru_go rfl rfl,
  fun v t st h => ru_go rfl rfl,
  fun a ls st h => ru_getf rfl,
  fun x0 x1 v t st h => ru_go rfl rfl,
  fun i a ls st h => ru_iald rfl,
  fun v t st h => ru_go rfl rfl,
  fun a ls st h => ru_getf rfl,
  fun x0 x1 x2 x3 v t st h => ru_go rfl rfl,
  fun v t st h => ru_go rfl rfl,
  fun a ls st h => ru_getf rfl,
  fun ls st h => ru_go rfl rfl,
  fun i a ls st h => ru_aald rfl,
  fun x0 x1 x2 v t st h => ru_go rfl rfl,
  fun i a ls st h => ru_iald rfl,
  fun x y ls st h => ru_go rfl rfl,
  fun a0 a1 a2 a3 ls h => ru_inv rfl (by decide) rfl (Nat.le_of_ble_eq_true rfl),
  fun x0 v t st h => ru_go rfl rfl,
  fun v t st h => ru_go rfl rfl,
  fun a ls st h => ru_getf rfl,
  fun x0 x1 v t st h => ru_go rfl rfl,
  fun i a ls st h => ru_iald rfl,
  fun v t st h => ru_go rfl rfl,
  fun a ls st h => ru_getf rfl,
  fun ls st h => ru_go rfl rfl,
  fun x y ls st h => ru_go rfl rfl,
  fun x0 x1 x2 x3 v t st h => ru_go rfl rfl,
  fun v t st h => ru_go rfl rfl,
  fun a ls st h => ru_getf rfl,
  fun ls st h => ru_go rfl rfl,
  fun i a ls st h => ru_aald rfl,
  fun x0 x1 x2 v t st h => ru_go rfl rfl,
  fun i a ls st h => ru_iald rfl,
  fun x y ls st h => ru_go rfl rfl,
  fun a0 a1 a2 a3 ls h => ru_inv rfl (by decide) rfl (Nat.le_of_ble_eq_true rfl),
  fun ls h => ru_ret rfl rfl⟩
theorem E154 (a0 : Nat) (a1 : Nat) (a2 : Int32) (a3 : Int32) (a4 : Int32) {h : eH} {fs : List Value} (ha : h.1 a0 = .inr (6, fs)) : den 154 [.ref a0, .ref a1, .int a2, .int a3, .int a4] h = ru 154 0 [some (.ref a0), some (.ref a1), some (.int a2), some (.int a3), some (.int a4)] [] h := den_ob (Nat.le_of_ble_eq_true rfl) ha
/-! 155 X6_fillPlaces -/
set_option maxRecDepth 100000 in
theorem H155_15 : (∀ (x0 x1 : Option Value) (v : Int32) (t : eL) (st : List Value) (h : eH), ru 155 15 (x0 :: x1 :: some (.int v) :: t) st h = ru 155 16 (x0 :: x1 :: some (.int v) :: t) (.int v :: st) h) := fun x0 x1 v t st h => ru_go rfl rfl
set_option maxRecDepth 100000 in
theorem H155_75 : (∀ (ls : eL) (st : List Value) (h : eH), ru 155 75 ls st h = ru 155 76 ls (.int (nI 0) :: st) h) := fun ls st h => ru_go rfl rfl
set_option maxRecDepth 100000 in
theorem H155_77 : (∀ (x0 x1 : Option Value) (v : Int32) (t : eL) (st : List Value) (h : eH), ru 155 77 (x0 :: x1 :: some (.int v) :: t) st h = ru 155 78 (x0 :: x1 :: some (.int v) :: t) (.int v :: st) h) := fun x0 x1 v t st h => ru_go rfl rfl
set_option maxRecDepth 100000 in
theorem S155 : (∀ (x0 : Option Value) (v : Nat) (t : eL) (st : List Value) (h : eH), ru 155 0 (x0 :: some (.ref v) :: t) st h = ru 155 1 (x0 :: some (.ref v) :: t) (.ref v :: st) h) ∧
  (∀ (v : Nat) (t : eL) (st : List Value) (h : eH), ru 155 1 (some (.ref v) :: t) st h = ru 155 2 (some (.ref v) :: t) (.ref v :: st) h) ∧
  (∀ (a : Nat) (ls : eL) (st : List Value) (h : eH), ru 155 2 ls (.ref a :: st) h = gF (h.1 a) 6 1 (fun v => ru 155 5 ls (v :: st) h)) ∧
  (∀ (v : Nat) (t : eL) (st : List Value) (h : eH), ru 155 5 (some (.ref v) :: t) st h = ru 155 6 (some (.ref v) :: t) (.ref v :: st) h) ∧
  (∀ (a : Nat) (ls : eL) (st : List Value) (h : eH), ru 155 6 ls (.ref a :: st) h = gF (h.1 a) 6 1 (fun v => ru 155 9 ls (v :: st) h)) ∧
  (∀ (ls : eL) (st : List Value) (h : eH), ru 155 9 ls st h = ru 155 10 ls (.int (nI 2) :: st) h) ∧
  (∀ (a0 : Nat) (a1 : Int32) (a2 : Int32) (a3 : Int32) (ls : eL) (h : eH), ru 155 10 ls [.int a3, .int a2, .int a1, .ref a0] h = cl (den 106 [.ref a0, .int a1, .int a2, .int a3] h) (fun v h => ru 155 13 ls (v.toList ++ []) h)) ∧
  (∀ (ls : eL) (st : List Value) (h : eH), ru 155 13 ls st h = ru 155 14 ls (.int (nI 0) :: st) h) ∧
  (∀ (x0 x1 x2 : Option Value) (v : Int32) (t : eL) (st : List Value) (h : eH), ru 155 14 (x0 :: x1 :: x2 :: t) (.int v :: st) h = ru 155 15 (x0 :: eKl x1 :: some (.int v) :: t) st h) ∧
  (∀ (v : Nat) (t : eL) (st : List Value) (h : eH), ru 155 16 (some (.ref v) :: t) st h = ru 155 17 (some (.ref v) :: t) (.ref v :: st) h) ∧
  (∀ (a : Nat) (ls : eL) (st : List Value) (h : eH), ru 155 17 ls (.ref a :: st) h = gF (h.1 a) 6 2 (fun v => ru 155 20 ls (v :: st) h)) ∧
  (∀ (x y : Int32) (ls : eL) (st : List Value) (h : eH), ru 155 20 ls (.int y :: .int x :: st) h = if y ≤ x then ru 155 75 ls st h else ru 155 23 ls st h) ∧
  (∀ (v : Nat) (t : eL) (st : List Value) (h : eH), ru 155 23 (some (.ref v) :: t) st h = ru 155 24 (some (.ref v) :: t) (.ref v :: st) h) ∧
  (∀ (x0 : Option Value) (v : Nat) (t : eL) (st : List Value) (h : eH), ru 155 24 (x0 :: some (.ref v) :: t) st h = ru 155 25 (x0 :: some (.ref v) :: t) (.ref v :: st) h) ∧
  (∀ (v : Nat) (t : eL) (st : List Value) (h : eH), ru 155 25 (some (.ref v) :: t) st h = ru 155 26 (some (.ref v) :: t) (.ref v :: st) h) ∧
  (∀ (a : Nat) (ls : eL) (st : List Value) (h : eH), ru 155 26 ls (.ref a :: st) h = gF (h.1 a) 6 6 (fun v => ru 155 29 ls (v :: st) h)) ∧
  (∀ (x0 x1 : Option Value) (v : Int32) (t : eL) (st : List Value) (h : eH), ru 155 29 (x0 :: x1 :: some (.int v) :: t) st h = ru 155 30 (x0 :: x1 :: some (.int v) :: t) (.int v :: st) h) ∧
  (∀ (i : Int32) (a : Nat) (ls : eL) (st : List Value) (h : eH), ru 155 30 ls (.int i :: .ref a :: st) h = aI (h.1 a) 0 i (fun v => ru 155 31 ls (.int v :: st) h)) ∧
  (∀ (v : Nat) (t : eL) (st : List Value) (h : eH), ru 155 31 (some (.ref v) :: t) st h = ru 155 32 (some (.ref v) :: t) (.ref v :: st) h) ∧
  (∀ (a : Nat) (ls : eL) (st : List Value) (h : eH), ru 155 32 ls (.ref a :: st) h = gF (h.1 a) 6 7 (fun v => ru 155 35 ls (v :: st) h)) ∧
  (∀ (x0 x1 : Option Value) (v : Int32) (t : eL) (st : List Value) (h : eH), ru 155 35 (x0 :: x1 :: some (.int v) :: t) st h = ru 155 36 (x0 :: x1 :: some (.int v) :: t) (.int v :: st) h) ∧
  (∀ (i : Int32) (a : Nat) (ls : eL) (st : List Value) (h : eH), ru 155 36 ls (.int i :: .ref a :: st) h = aI (h.1 a) 0 i (fun v => ru 155 37 ls (.int v :: st) h)) ∧
  (∀ (v : Nat) (t : eL) (st : List Value) (h : eH), ru 155 37 (some (.ref v) :: t) st h = ru 155 38 (some (.ref v) :: t) (.ref v :: st) h) ∧
  (∀ (a : Nat) (ls : eL) (st : List Value) (h : eH), ru 155 38 ls (.ref a :: st) h = gF (h.1 a) 6 9 (fun v => ru 155 41 ls (v :: st) h)) ∧
  (∀ (x0 x1 : Option Value) (v : Int32) (t : eL) (st : List Value) (h : eH), ru 155 41 (x0 :: x1 :: some (.int v) :: t) st h = ru 155 42 (x0 :: x1 :: some (.int v) :: t) (.int v :: st) h) ∧
  (∀ (i : Int32) (a : Nat) (ls : eL) (st : List Value) (h : eH), ru 155 42 ls (.int i :: .ref a :: st) h = aI (h.1 a) 0 i (fun v => ru 155 43 ls (.int v :: st) h)) ∧
  (∀ (a0 : Nat) (a1 : Nat) (a2 : Int32) (a3 : Int32) (a4 : Int32) (ls : eL) (h : eH), ru 155 43 ls [.int a4, .int a3, .int a2, .ref a1, .ref a0] h = cl (den 154 [.ref a0, .ref a1, .int a2, .int a3, .int a4] h) (fun v h => ru 155 46 ls (v.toList ++ []) h)) ∧
  (∀ (v : Nat) (t : eL) (st : List Value) (h : eH), ru 155 46 (some (.ref v) :: t) st h = ru 155 47 (some (.ref v) :: t) (.ref v :: st) h) ∧
  (∀ (x0 : Option Value) (v : Nat) (t : eL) (st : List Value) (h : eH), ru 155 47 (x0 :: some (.ref v) :: t) st h = ru 155 48 (x0 :: some (.ref v) :: t) (.ref v :: st) h) ∧
  (∀ (v : Nat) (t : eL) (st : List Value) (h : eH), ru 155 48 (some (.ref v) :: t) st h = ru 155 49 (some (.ref v) :: t) (.ref v :: st) h) ∧
  (∀ (a : Nat) (ls : eL) (st : List Value) (h : eH), ru 155 49 ls (.ref a :: st) h = gF (h.1 a) 6 7 (fun v => ru 155 52 ls (v :: st) h)) ∧
  (∀ (x0 x1 : Option Value) (v : Int32) (t : eL) (st : List Value) (h : eH), ru 155 52 (x0 :: x1 :: some (.int v) :: t) st h = ru 155 53 (x0 :: x1 :: some (.int v) :: t) (.int v :: st) h) ∧
  (∀ (i : Int32) (a : Nat) (ls : eL) (st : List Value) (h : eH), ru 155 53 ls (.int i :: .ref a :: st) h = aI (h.1 a) 0 i (fun v => ru 155 54 ls (.int v :: st) h)) ∧
  (∀ (v : Nat) (t : eL) (st : List Value) (h : eH), ru 155 54 (some (.ref v) :: t) st h = ru 155 55 (some (.ref v) :: t) (.ref v :: st) h) ∧
  (∀ (a : Nat) (ls : eL) (st : List Value) (h : eH), ru 155 55 ls (.ref a :: st) h = gF (h.1 a) 6 6 (fun v => ru 155 58 ls (v :: st) h)) ∧
  (∀ (x0 x1 : Option Value) (v : Int32) (t : eL) (st : List Value) (h : eH), ru 155 58 (x0 :: x1 :: some (.int v) :: t) st h = ru 155 59 (x0 :: x1 :: some (.int v) :: t) (.int v :: st) h) ∧
  (∀ (i : Int32) (a : Nat) (ls : eL) (st : List Value) (h : eH), ru 155 59 ls (.int i :: .ref a :: st) h = aI (h.1 a) 0 i (fun v => ru 155 60 ls (.int v :: st) h)) ∧
  (∀ (v : Nat) (t : eL) (st : List Value) (h : eH), ru 155 60 (some (.ref v) :: t) st h = ru 155 61 (some (.ref v) :: t) (.ref v :: st) h) ∧
  (∀ (a : Nat) (ls : eL) (st : List Value) (h : eH), ru 155 61 ls (.ref a :: st) h = gF (h.1 a) 6 9 (fun v => ru 155 64 ls (v :: st) h)) ∧
  (∀ (x0 x1 : Option Value) (v : Int32) (t : eL) (st : List Value) (h : eH), ru 155 64 (x0 :: x1 :: some (.int v) :: t) st h = ru 155 65 (x0 :: x1 :: some (.int v) :: t) (.int v :: st) h) ∧
  (∀ (i : Int32) (a : Nat) (ls : eL) (st : List Value) (h : eH), ru 155 65 ls (.int i :: .ref a :: st) h = aI (h.1 a) 0 i (fun v => ru 155 66 ls (.int v :: st) h)) ∧
  (∀ (a0 : Nat) (a1 : Nat) (a2 : Int32) (a3 : Int32) (a4 : Int32) (ls : eL) (h : eH), ru 155 66 ls [.int a4, .int a3, .int a2, .ref a1, .ref a0] h = cl (den 154 [.ref a0, .ref a1, .int a2, .int a3, .int a4] h) (fun v h => ru 155 69 ls (v.toList ++ []) h)) ∧
  (∀ (x0 x1 : Option Value) (v : Int32) (t : eL) (st : List Value) (h : eH), ru 155 69 (x0 :: x1 :: some (.int v) :: t) st h = ru 155 72 (x0 :: eKl x1 :: some (.int (v + 1)) :: t) st h) ∧
  (∀ (ls : eL) (st : List Value) (h : eH), ru 155 72 ls st h = ru 155 15 ls st h) ∧
  (∀ (x0 x1 x2 : Option Value) (v : Int32) (t : eL) (st : List Value) (h : eH), ru 155 76 (x0 :: x1 :: x2 :: t) (.int v :: st) h = ru 155 77 (x0 :: eKl x1 :: some (.int v) :: t) st h) ∧
  (∀ (v : Nat) (t : eL) (st : List Value) (h : eH), ru 155 78 (some (.ref v) :: t) st h = ru 155 79 (some (.ref v) :: t) (.ref v :: st) h) ∧
  (∀ (a : Nat) (ls : eL) (st : List Value) (h : eH), ru 155 79 ls (.ref a :: st) h = gF (h.1 a) 6 0 (fun v => ru 155 82 ls (v :: st) h)) ∧
  (∀ (x y : Int32) (ls : eL) (st : List Value) (h : eH), ru 155 82 ls (.int y :: .int x :: st) h = if y ≤ x then ru 155 137 ls st h else ru 155 85 ls st h) ∧
  (∀ (x0 : Option Value) (v : Nat) (t : eL) (st : List Value) (h : eH), ru 155 85 (x0 :: some (.ref v) :: t) st h = ru 155 86 (x0 :: some (.ref v) :: t) (.ref v :: st) h) ∧
  (∀ (v : Nat) (t : eL) (st : List Value) (h : eH), ru 155 86 (some (.ref v) :: t) st h = ru 155 87 (some (.ref v) :: t) (.ref v :: st) h) ∧
  (∀ (a : Nat) (ls : eL) (st : List Value) (h : eH), ru 155 87 ls (.ref a :: st) h = gF (h.1 a) 6 5 (fun v => ru 155 90 ls (v :: st) h)) ∧
  (∀ (x0 x1 : Option Value) (v : Int32) (t : eL) (st : List Value) (h : eH), ru 155 90 (x0 :: x1 :: some (.int v) :: t) st h = ru 155 91 (x0 :: x1 :: some (.int v) :: t) (.int v :: st) h) ∧
  (∀ (i : Int32) (a : Nat) (ls : eL) (st : List Value) (h : eH), ru 155 91 ls (.int i :: .ref a :: st) h = aI (h.1 a) 0 i (fun v => ru 155 92 ls (.int v :: st) h)) ∧
  (∀ (v : Nat) (t : eL) (st : List Value) (h : eH), ru 155 92 (some (.ref v) :: t) st h = ru 155 93 (some (.ref v) :: t) (.ref v :: st) h) ∧
  (∀ (a : Nat) (ls : eL) (st : List Value) (h : eH), ru 155 93 ls (.ref a :: st) h = gF (h.1 a) 6 1 (fun v => ru 155 96 ls (v :: st) h)) ∧
  (∀ (v : Nat) (t : eL) (st : List Value) (h : eH), ru 155 96 (some (.ref v) :: t) st h = ru 155 97 (some (.ref v) :: t) (.ref v :: st) h) ∧
  (∀ (a : Nat) (ls : eL) (st : List Value) (h : eH), ru 155 97 ls (.ref a :: st) h = gF (h.1 a) 6 4 (fun v => ru 155 100 ls (v :: st) h)) ∧
  (∀ (ls : eL) (st : List Value) (h : eH), ru 155 100 ls st h = ru 155 101 ls (.int (nI 0) :: st) h) ∧
  (∀ (i : Int32) (a : Nat) (ls : eL) (st : List Value) (h : eH), ru 155 101 ls (.int i :: .ref a :: st) h = aQ (h.1 a) i (fun v => ru 155 102 ls (.ref v :: st) h)) ∧
  (∀ (x0 x1 : Option Value) (v : Int32) (t : eL) (st : List Value) (h : eH), ru 155 102 (x0 :: x1 :: some (.int v) :: t) st h = ru 155 103 (x0 :: x1 :: some (.int v) :: t) (.int v :: st) h) ∧
  (∀ (i : Int32) (a : Nat) (ls : eL) (st : List Value) (h : eH), ru 155 103 ls (.int i :: .ref a :: st) h = aI (h.1 a) 0 i (fun v => ru 155 104 ls (.int v :: st) h)) ∧
  (∀ (a0 : Nat) (a1 : Int32) (a2 : Int32) (a3 : Int32) (ls : eL) (h : eH), ru 155 104 ls [.int a3, .int a2, .int a1, .ref a0] h = cl (den 110 [.ref a0, .int a1, .int a2, .int a3] h) (fun v h => ru 155 107 ls (v.toList ++ []) h)) ∧
  (∀ (x0 : Option Value) (v : Nat) (t : eL) (st : List Value) (h : eH), ru 155 107 (x0 :: some (.ref v) :: t) st h = ru 155 108 (x0 :: some (.ref v) :: t) (.ref v :: st) h) ∧
  (∀ (v : Nat) (t : eL) (st : List Value) (h : eH), ru 155 108 (some (.ref v) :: t) st h = ru 155 109 (some (.ref v) :: t) (.ref v :: st) h) ∧
  (∀ (a : Nat) (ls : eL) (st : List Value) (h : eH), ru 155 109 ls (.ref a :: st) h = gF (h.1 a) 6 5 (fun v => ru 155 112 ls (v :: st) h)) ∧
  (∀ (x0 x1 : Option Value) (v : Int32) (t : eL) (st : List Value) (h : eH), ru 155 112 (x0 :: x1 :: some (.int v) :: t) st h = ru 155 113 (x0 :: x1 :: some (.int v) :: t) (.int v :: st) h) ∧
  (∀ (i : Int32) (a : Nat) (ls : eL) (st : List Value) (h : eH), ru 155 113 ls (.int i :: .ref a :: st) h = aI (h.1 a) 0 i (fun v => ru 155 114 ls (.int v :: st) h)) ∧
  (∀ (v : Nat) (t : eL) (st : List Value) (h : eH), ru 155 114 (some (.ref v) :: t) st h = ru 155 115 (some (.ref v) :: t) (.ref v :: st) h) ∧
  (∀ (a : Nat) (ls : eL) (st : List Value) (h : eH), ru 155 115 ls (.ref a :: st) h = gF (h.1 a) 6 1 (fun v => ru 155 118 ls (v :: st) h)) ∧
  (∀ (ls : eL) (st : List Value) (h : eH), ru 155 118 ls st h = ru 155 119 ls (.int (nI 1) :: st) h) ∧
  (∀ (x y : Int32) (ls : eL) (st : List Value) (h : eH), ru 155 119 ls (.int y :: .int x :: st) h = ru 155 120 ls (.int (x + y) :: st) h) ∧
  (∀ (v : Nat) (t : eL) (st : List Value) (h : eH), ru 155 120 (some (.ref v) :: t) st h = ru 155 121 (some (.ref v) :: t) (.ref v :: st) h) ∧
  (∀ (a : Nat) (ls : eL) (st : List Value) (h : eH), ru 155 121 ls (.ref a :: st) h = gF (h.1 a) 6 4 (fun v => ru 155 124 ls (v :: st) h)) ∧
  (∀ (ls : eL) (st : List Value) (h : eH), ru 155 124 ls st h = ru 155 125 ls (.int (nI 1) :: st) h) ∧
  (∀ (i : Int32) (a : Nat) (ls : eL) (st : List Value) (h : eH), ru 155 125 ls (.int i :: .ref a :: st) h = aQ (h.1 a) i (fun v => ru 155 126 ls (.ref v :: st) h)) ∧
  (∀ (x0 x1 : Option Value) (v : Int32) (t : eL) (st : List Value) (h : eH), ru 155 126 (x0 :: x1 :: some (.int v) :: t) st h = ru 155 127 (x0 :: x1 :: some (.int v) :: t) (.int v :: st) h) ∧
  (∀ (i : Int32) (a : Nat) (ls : eL) (st : List Value) (h : eH), ru 155 127 ls (.int i :: .ref a :: st) h = aI (h.1 a) 0 i (fun v => ru 155 128 ls (.int v :: st) h)) ∧
  (∀ (a0 : Nat) (a1 : Int32) (a2 : Int32) (a3 : Int32) (ls : eL) (h : eH), ru 155 128 ls [.int a3, .int a2, .int a1, .ref a0] h = cl (den 110 [.ref a0, .int a1, .int a2, .int a3] h) (fun v h => ru 155 131 ls (v.toList ++ []) h)) ∧
  (∀ (x0 x1 : Option Value) (v : Int32) (t : eL) (st : List Value) (h : eH), ru 155 131 (x0 :: x1 :: some (.int v) :: t) st h = ru 155 134 (x0 :: eKl x1 :: some (.int (v + 1)) :: t) st h) ∧
  (∀ (ls : eL) (st : List Value) (h : eH), ru 155 134 ls st h = ru 155 77 ls st h) ∧
  (∀ (ls : eL) (h : eH), ru 155 137 ls [] h = some (none, h)) := ⟨fun x0 v t st h => ru_go rfl rfl,
  fun v t st h => ru_go rfl rfl,
  fun a ls st h => ru_getf rfl,
  fun v t st h => ru_go rfl rfl,
  fun a ls st h => ru_getf rfl,
  fun ls st h => ru_go rfl rfl,
  fun a0 a1 a2 a3 ls h => ru_inv rfl (by decide) rfl (Nat.le_of_ble_eq_true rfl),
  fun ls st h => ru_go rfl rfl,
  fun x0 x1 x2 v t st h => ru_go rfl rfl,
  fun v t st h => ru_go rfl rfl,
  fun a ls st h => ru_getf rfl,
  fun x y ls st h => ru_if rfl rfl,
  fun v t st h => ru_go rfl rfl,
  fun x0 v t st h => ru_go rfl rfl,
  fun v t st h => ru_go rfl rfl,
  fun a ls st h => ru_getf rfl,
  fun x0 x1 v t st h => ru_go rfl rfl,
  fun i a ls st h => ru_iald rfl,
  fun v t st h => ru_go rfl rfl,
  fun a ls st h => ru_getf rfl,
  fun x0 x1 v t st h => ru_go rfl rfl,
  fun i a ls st h => ru_iald rfl,
  fun v t st h => ru_go rfl rfl,
  fun a ls st h => ru_getf rfl,
  fun x0 x1 v t st h => ru_go rfl rfl,
  fun i a ls st h => ru_iald rfl,
  fun a0 a1 a2 a3 a4 ls h => ru_inv rfl (by decide) rfl (Nat.le_of_ble_eq_true rfl),
  fun v t st h => ru_go rfl rfl,
  fun x0 v t st h => ru_go rfl rfl,
  fun v t st h => ru_go rfl rfl,
  fun a ls st h => ru_getf rfl,
  fun x0 x1 v t st h => ru_go rfl rfl,
  fun i a ls st h => ru_iald rfl,
  fun v t st h => ru_go rfl rfl,
  fun a ls st h => ru_getf rfl,
  fun x0 x1 v t st h => ru_go rfl rfl,
  fun i a ls st h => ru_iald rfl,
  fun v t st h => ru_go rfl rfl,
  fun a ls st h => ru_getf rfl,
  fun x0 x1 v t st h => ru_go rfl rfl,
  fun i a ls st h => ru_iald rfl,
  fun a0 a1 a2 a3 a4 ls h => ru_inv rfl (by decide) rfl (Nat.le_of_ble_eq_true rfl),
  fun x0 x1 v t st h => ru_go rfl rfl,
  fun ls st h => ru_go rfl rfl,
  fun x0 x1 x2 v t st h => ru_go rfl rfl,
  fun v t st h => ru_go rfl rfl,
  fun a ls st h => ru_getf rfl,
  fun x y ls st h => ru_if rfl rfl,
  fun x0 v t st h => ru_go rfl rfl,
  fun v t st h => ru_go rfl rfl,
  fun a ls st h => ru_getf rfl,
  fun x0 x1 v t st h => ru_go rfl rfl,
  fun i a ls st h => ru_iald rfl,
  fun v t st h => ru_go rfl rfl,
  fun a ls st h => ru_getf rfl,
  fun v t st h => ru_go rfl rfl,
  fun a ls st h => ru_getf rfl,
  fun ls st h => ru_go rfl rfl,
  fun i a ls st h => ru_aald rfl,
  fun x0 x1 v t st h => ru_go rfl rfl,
  fun i a ls st h => ru_iald rfl,
  fun a0 a1 a2 a3 ls h => ru_inv rfl (by decide) rfl (Nat.le_of_ble_eq_true rfl),
  fun x0 v t st h => ru_go rfl rfl,
  fun v t st h => ru_go rfl rfl,
  fun a ls st h => ru_getf rfl,
  fun x0 x1 v t st h => ru_go rfl rfl,
  fun i a ls st h => ru_iald rfl,
  fun v t st h => ru_go rfl rfl,
  fun a ls st h => ru_getf rfl,
  fun ls st h => ru_go rfl rfl,
  fun x y ls st h => ru_go rfl rfl,
  fun v t st h => ru_go rfl rfl,
  fun a ls st h => ru_getf rfl,
  fun ls st h => ru_go rfl rfl,
  fun i a ls st h => ru_aald rfl,
  fun x0 x1 v t st h => ru_go rfl rfl,
  fun i a ls st h => ru_iald rfl,
  fun a0 a1 a2 a3 ls h => ru_inv rfl (by decide) rfl (Nat.le_of_ble_eq_true rfl),
  fun x0 x1 v t st h => ru_go rfl rfl,
  fun ls st h => ru_go rfl rfl,
  fun ls h => ru_ret rfl rfl⟩
theorem E155 (a0 : Nat) (a1 : Nat) {h : eH} {fs : List Value} (ha : h.1 a0 = .inr (6, fs)) : den 155 [.ref a0, .ref a1] h = ru 155 0 [some (.ref a0), some (.ref a1), none] [] h := den_ob (Nat.le_of_ble_eq_true rfl) ha
/-! 156 X10_knowPlaces -/
set_option maxRecDepth 100000 in
theorem S156 : (∀ (v : Nat) (t : eL) (st : List Value) (h : eH), ru 156 0 (some (.ref v) :: t) st h = ru 156 1 (some (.ref v) :: t) (.ref v :: st) h) ∧
  (∀ (a : Nat) (ls : eL) (st : List Value) (h : eH), ru 156 1 ls (.ref a :: st) h = gF (h.1 a) 10 14 (fun v => ru 156 4 ls (v :: st) h)) ∧
  (∀ (x : Int32) (ls : eL) (st : List Value) (h : eH), ru 156 4 ls (.int x :: st) h = if x = 0 then ru 156 7 ls st h else ru 156 30 ls st h) ∧
  (∀ (v : Nat) (t : eL) (st : List Value) (h : eH), ru 156 7 (some (.ref v) :: t) st h = ru 156 8 (some (.ref v) :: t) (.ref v :: st) h) ∧
  (∀ (a : Nat) (ls : eL) (st : List Value) (h : eH), ru 156 8 ls (.ref a :: st) h = gF (h.1 a) 10 9 (fun v => ru 156 11 ls (v :: st) h)) ∧
  (∀ (v : Nat) (t : eL) (st : List Value) (h : eH), ru 156 11 (some (.ref v) :: t) st h = ru 156 12 (some (.ref v) :: t) (.ref v :: st) h) ∧
  (∀ (a : Nat) (ls : eL) (st : List Value) (h : eH), ru 156 12 ls (.ref a :: st) h = gF (h.1 a) 10 5 (fun v => ru 156 15 ls (v :: st) h)) ∧
  (∀ (a0 : Nat) (a1 : Nat) (ls : eL) (h : eH), ru 156 15 ls [.ref a1, .ref a0] h = cl (den 155 [.ref a0, .ref a1] h) (fun v h => ru 156 18 ls (v.toList ++ []) h)) ∧
  (∀ (v : Nat) (t : eL) (st : List Value) (h : eH), ru 156 18 (some (.ref v) :: t) st h = ru 156 19 (some (.ref v) :: t) (.ref v :: st) h) ∧
  (∀ (a : Nat) (ls : eL) (st : List Value) (h : eH), ru 156 19 ls (.ref a :: st) h = gF (h.1 a) 10 5 (fun v => ru 156 22 ls (v :: st) h)) ∧
  (∀ (a0 : Nat) (ls : eL) (h : eH), ru 156 22 ls [.ref a0] h = cl (den 122 [.ref a0] h) (fun v h => ru 156 25 ls (v.toList ++ []) h)) ∧
  (∀ (v : Nat) (t : eL) (st : List Value) (h : eH), ru 156 25 (some (.ref v) :: t) st h = ru 156 26 (some (.ref v) :: t) (.ref v :: st) h) ∧
  (∀ (ls : eL) (st : List Value) (h : eH), ru 156 26 ls st h = ru 156 27 ls (.int (nI 1) :: st) h) ∧
  (∀ (v : Int32) (a : Nat) (ls : eL) (st : List Value) (h : eH), ru 156 27 ls (.int v :: .ref a :: st) h = pF (h.1 a) 10 14 (.int v) (fun e => ru 156 30 ls st (eUp h a e))) ∧
  (∀ (ls : eL) (h : eH), ru 156 30 ls [] h = some (none, h)) := ⟨fun v t st h => ru_go rfl rfl,
  fun a ls st h => ru_getf rfl,
  fun x ls st h => ru_if rfl rfl,
  fun v t st h => ru_go rfl rfl,
  fun a ls st h => ru_getf rfl,
  fun v t st h => ru_go rfl rfl,
  fun a ls st h => ru_getf rfl,
  fun a0 a1 ls h => ru_inv rfl (by decide) rfl (Nat.le_of_ble_eq_true rfl),
  fun v t st h => ru_go rfl rfl,
  fun a ls st h => ru_getf rfl,
  fun a0 ls h => ru_inv rfl (by decide) rfl (Nat.le_of_ble_eq_true rfl),
  fun v t st h => ru_go rfl rfl,
  fun ls st h => ru_go rfl rfl,
  fun v a ls st h => ru_putf rfl,
  fun ls h => ru_ret rfl rfl⟩
theorem E156 (a0 : Nat) {h : eH} {fs : List Value} (ha : h.1 a0 = .inr (10, fs)) : den 156 [.ref a0] h = ru 156 0 [some (.ref a0)] [] h := den_ob (Nat.le_of_ble_eq_true rfl) ha
/-! 157 X6_hasJoint -/
set_option maxRecDepth 100000 in
theorem S157 : (∀ (x0 : Option Value) (v : Int32) (t : eL) (st : List Value) (h : eH), ru 157 0 (x0 :: some (.int v) :: t) st h = ru 157 1 (x0 :: some (.int v) :: t) (.int v :: st) h) ∧
  (∀ (x : Int32) (ls : eL) (st : List Value) (h : eH), ru 157 1 ls (.int x :: st) h = if x < 0 then ru 157 16 ls st h else ru 157 4 ls st h) ∧
  (∀ (x0 : Option Value) (v : Int32) (t : eL) (st : List Value) (h : eH), ru 157 4 (x0 :: some (.int v) :: t) st h = ru 157 5 (x0 :: some (.int v) :: t) (.int v :: st) h) ∧
  (∀ (v : Nat) (t : eL) (st : List Value) (h : eH), ru 157 5 (some (.ref v) :: t) st h = ru 157 6 (some (.ref v) :: t) (.ref v :: st) h) ∧
  (∀ (a : Nat) (ls : eL) (st : List Value) (h : eH), ru 157 6 ls (.ref a :: st) h = gF (h.1 a) 6 0 (fun v => ru 157 9 ls (v :: st) h)) ∧
  (∀ (x y : Int32) (ls : eL) (st : List Value) (h : eH), ru 157 9 ls (.int y :: .int x :: st) h = if y ≤ x then ru 157 16 ls st h else ru 157 12 ls st h) ∧
  (∀ (ls : eL) (st : List Value) (h : eH), ru 157 12 ls st h = ru 157 13 ls (.int (nI 1) :: st) h) ∧
  (∀ (ls : eL) (st : List Value) (h : eH), ru 157 13 ls st h = ru 157 17 ls st h) ∧
  (∀ (ls : eL) (st : List Value) (h : eH), ru 157 16 ls st h = ru 157 17 ls (.int (nI 0) :: st) h) ∧
  (∀ (x : Int32) (ls : eL) (h : eH), ru 157 17 ls [.int x] h = bo (x == 0 || x == 1) (some (some (.int x), h))) := ⟨fun x0 v t st h => ru_go rfl rfl,
  fun x ls st h => ru_if rfl rfl,
  fun x0 v t st h => ru_go rfl rfl,
  fun v t st h => ru_go rfl rfl,
  fun a ls st h => ru_getf rfl,
  fun x y ls st h => ru_if rfl rfl,
  fun ls st h => ru_go rfl rfl,
  fun ls st h => ru_go rfl rfl,
  fun ls st h => ru_go rfl rfl,
  fun x ls h => ru_bret rfl rfl⟩
theorem E157 (a0 : Nat) (a1 : Int32) {h : eH} {fs : List Value} (ha : h.1 a0 = .inr (6, fs)) : den 157 [.ref a0, .int a1] h = ru 157 0 [some (.ref a0), some (.int a1)] [] h := den_ob (Nat.le_of_ble_eq_true rfl) ha
/-! 158 X4_become -/
set_option maxRecDepth 100000 in
theorem S158 : (∀ (v : Nat) (t : eL) (st : List Value) (h : eH), ru 158 0 (some (.ref v) :: t) st h = ru 158 1 (some (.ref v) :: t) (.ref v :: st) h) ∧
  (∀ (a : Nat) (ls : eL) (st : List Value) (h : eH), ru 158 1 ls (.ref a :: st) h = gF (h.1 a) 4 0 (fun v => ru 158 4 ls (v :: st) h)) ∧
  (∀ (x0 : Option Value) (v : Int32) (t : eL) (st : List Value) (h : eH), ru 158 4 (x0 :: some (.int v) :: t) st h = ru 158 5 (x0 :: some (.int v) :: t) (.int v :: st) h) ∧
  (∀ (a0 : Nat) (a1 : Int32) (ls : eL) (h : eH), ru 158 5 ls [.int a1, .ref a0] h = cl (den 112 [.ref a0, .int a1] h) (fun v h => ru 158 8 ls (v.toList ++ []) h)) ∧
  (∀ (v : Nat) (t : eL) (st : List Value) (h : eH), ru 158 8 (some (.ref v) :: t) st h = ru 158 9 (some (.ref v) :: t) (.ref v :: st) h) ∧
  (∀ (a : Nat) (ls : eL) (st : List Value) (h : eH), ru 158 9 ls (.ref a :: st) h = gF (h.1 a) 4 1 (fun v => ru 158 12 ls (v :: st) h)) ∧
  (∀ (ls : eL) (st : List Value) (h : eH), ru 158 12 ls st h = ru 158 13 ls (.int (nI 1) :: st) h) ∧
  (∀ (a0 : Nat) (a1 : Int32) (ls : eL) (h : eH), ru 158 13 ls [.int a1, .ref a0] h = cl (den 112 [.ref a0, .int a1] h) (fun v h => ru 158 16 ls (v.toList ++ []) h)) ∧
  (∀ (ls : eL) (h : eH), ru 158 16 ls [] h = some (none, h)) := ⟨fun v t st h => ru_go rfl rfl,
  fun a ls st h => ru_getf rfl,
  fun x0 v t st h => ru_go rfl rfl,
  fun a0 a1 ls h => ru_inv rfl (by decide) rfl (Nat.le_of_ble_eq_true rfl),
  fun v t st h => ru_go rfl rfl,
  fun a ls st h => ru_getf rfl,
  fun ls st h => ru_go rfl rfl,
  fun a0 a1 ls h => ru_inv rfl (by decide) rfl (Nat.le_of_ble_eq_true rfl),
  fun ls h => ru_ret rfl rfl⟩
theorem E158 (a0 : Nat) (a1 : Int32) {h : eH} {fs : List Value} (ha : h.1 a0 = .inr (4, fs)) : den 158 [.ref a0, .int a1] h = ru 158 0 [some (.ref a0), some (.int a1)] [] h := den_ob (Nat.le_of_ble_eq_true rfl) ha
/-! 159 X10_left -/
set_option maxRecDepth 100000 in
theorem S159 : (∀ (v : Nat) (t : eL) (st : List Value) (h : eH), ru 159 0 (some (.ref v) :: t) st h = ru 159 1 (some (.ref v) :: t) (.ref v :: st) h) ∧
  (∀ (a : Nat) (ls : eL) (st : List Value) (h : eH), ru 159 1 ls (.ref a :: st) h = gF (h.1 a) 10 9 (fun v => ru 159 4 ls (v :: st) h)) ∧
  (∀ (x0 : Option Value) (v : Int32) (t : eL) (st : List Value) (h : eH), ru 159 4 (x0 :: some (.int v) :: t) st h = ru 159 5 (x0 :: some (.int v) :: t) (.int v :: st) h) ∧
  (∀ (a0 : Nat) (a1 : Int32) (ls : eL) (h : eH), ru 159 5 ls [.int a1, .ref a0] h = cl (den 157 [.ref a0, .int a1] h) (fun v h => ru 159 8 ls (v.toList ++ []) h)) ∧
  (∀ (x : Int32) (ls : eL) (st : List Value) (h : eH), ru 159 8 ls (.int x :: st) h = if x = 0 then ru 159 18 ls st h else ru 159 11 ls st h) ∧
  (∀ (x0 x1 : Option Value) (v : Int32) (t : eL) (st : List Value) (h : eH), ru 159 11 (x0 :: x1 :: some (.int v) :: t) st h = ru 159 12 (x0 :: x1 :: some (.int v) :: t) (.int v :: st) h) ∧
  (∀ (a0 : Int32) (ls : eL) (h : eH), ru 159 12 ls [.int a0] h = cl (den 149 [.int a0] h) (fun v h => ru 159 15 ls (v.toList ++ []) h)) ∧
  (∀ (x : Int32) (ls : eL) (st : List Value) (h : eH), ru 159 15 ls (.int x :: st) h = if x = 0 then ru 159 18 ls st h else ru 159 20 ls st h) ∧
  (∀ (ls : eL) (st : List Value) (h : eH), ru 159 18 ls st h = ru 159 19 ls (.int (nI 0) :: st) h) ∧
  (∀ (x : Int32) (ls : eL) (h : eH), ru 159 19 ls [.int x] h = bo (x == 0 || x == 1) (some (some (.int x), h))) ∧
  (∀ (v : Nat) (t : eL) (st : List Value) (h : eH), ru 159 20 (some (.ref v) :: t) st h = ru 159 21 (some (.ref v) :: t) (.ref v :: st) h) ∧
  (∀ (a : Nat) (ls : eL) (st : List Value) (h : eH), ru 159 21 ls (.ref a :: st) h = gF (h.1 a) 10 1 (fun v => ru 159 24 ls (v :: st) h)) ∧
  (∀ (v : Nat) (t : eL) (st : List Value) (h : eH), ru 159 24 (some (.ref v) :: t) st h = ru 159 25 (some (.ref v) :: t) (.ref v :: st) h) ∧
  (∀ (a : Nat) (ls : eL) (st : List Value) (h : eH), ru 159 25 ls (.ref a :: st) h = gF (h.1 a) 10 9 (fun v => ru 159 28 ls (v :: st) h)) ∧
  (∀ (x0 : Option Value) (v : Int32) (t : eL) (st : List Value) (h : eH), ru 159 28 (x0 :: some (.int v) :: t) st h = ru 159 29 (x0 :: some (.int v) :: t) (.int v :: st) h) ∧
  (∀ (x0 x1 : Option Value) (v : Int32) (t : eL) (st : List Value) (h : eH), ru 159 29 (x0 :: x1 :: some (.int v) :: t) st h = ru 159 30 (x0 :: x1 :: some (.int v) :: t) (.int v :: st) h) ∧
  (∀ (a0 : Nat) (a1 : Int32) (a2 : Int32) (u0 : Nat) (ls : eL) (h : eH), ru 159 30 ls [.int a2, .int a1, .ref a0, .ref u0] h = cl (den 137 [.ref a0, .int a1, .int a2] h) (fun v h => ru 159 33 ls (v.toList ++ [.ref u0]) h)) ∧
  (∀ (v : Nat) (t : eL) (st : List Value) (h : eH), ru 159 33 (some (.ref v) :: t) st h = ru 159 34 (some (.ref v) :: t) (.ref v :: st) h) ∧
  (∀ (a : Nat) (ls : eL) (st : List Value) (h : eH), ru 159 34 ls (.ref a :: st) h = gF (h.1 a) 10 9 (fun v => ru 159 37 ls (v :: st) h)) ∧
  (∀ (a : Nat) (ls : eL) (st : List Value) (h : eH), ru 159 37 ls (.ref a :: st) h = gF (h.1 a) 6 4 (fun v => ru 159 40 ls (v :: st) h)) ∧
  (∀ (x0 x1 : Option Value) (v : Int32) (t : eL) (st : List Value) (h : eH), ru 159 40 (x0 :: x1 :: some (.int v) :: t) st h = ru 159 41 (x0 :: x1 :: some (.int v) :: t) (.int v :: st) h) ∧
  (∀ (i : Int32) (a : Nat) (ls : eL) (st : List Value) (h : eH), ru 159 41 ls (.int i :: .ref a :: st) h = aQ (h.1 a) i (fun v => ru 159 42 ls (.ref v :: st) h)) ∧
  (∀ (x0 : Option Value) (v : Int32) (t : eL) (st : List Value) (h : eH), ru 159 42 (x0 :: some (.int v) :: t) st h = ru 159 43 (x0 :: some (.int v) :: t) (.int v :: st) h) ∧
  (∀ (i : Int32) (a : Nat) (ls : eL) (st : List Value) (h : eH), ru 159 43 ls (.int i :: .ref a :: st) h = aI (h.1 a) 0 i (fun v => ru 159 44 ls (.int v :: st) h)) ∧
  (∀ (x y : Int32) (ls : eL) (st : List Value) (h : eH), ru 159 44 ls (.int y :: .int x :: st) h = ru 159 45 ls (.int (x + y) :: st) h) ∧
  (∀ (a0 : Nat) (a1 : Int32) (ls : eL) (h : eH), ru 159 45 ls [.int a1, .ref a0] h = cl (den 158 [.ref a0, .int a1] h) (fun v h => ru 159 48 ls (v.toList ++ []) h)) ∧
  (∀ (ls : eL) (st : List Value) (h : eH), ru 159 48 ls st h = ru 159 49 ls (.int (nI 1) :: st) h) ∧
  (∀ (x : Int32) (ls : eL) (h : eH), ru 159 49 ls [.int x] h = bo (x == 0 || x == 1) (some (some (.int x), h))) := ⟨fun v t st h => ru_go rfl rfl,
  fun a ls st h => ru_getf rfl,
  fun x0 v t st h => ru_go rfl rfl,
  fun a0 a1 ls h => ru_inv rfl (by decide) rfl (Nat.le_of_ble_eq_true rfl),
  fun x ls st h => ru_if rfl rfl,
  fun x0 x1 v t st h => ru_go rfl rfl,
  fun a0 ls h => ru_inv rfl (by decide) rfl (Nat.le_of_ble_eq_true rfl),
  fun x ls st h => ru_if rfl rfl,
  fun ls st h => ru_go rfl rfl,
  fun x ls h => ru_bret rfl rfl,
  fun v t st h => ru_go rfl rfl,
  fun a ls st h => ru_getf rfl,
  fun v t st h => ru_go rfl rfl,
  fun a ls st h => ru_getf rfl,
  fun x0 v t st h => ru_go rfl rfl,
  fun x0 x1 v t st h => ru_go rfl rfl,
  fun a0 a1 a2 u0 ls h => ru_inv rfl (by decide) rfl (Nat.le_of_ble_eq_true rfl),
  fun v t st h => ru_go rfl rfl,
  fun a ls st h => ru_getf rfl,
  fun a ls st h => ru_getf rfl,
  fun x0 x1 v t st h => ru_go rfl rfl,
  fun i a ls st h => ru_aald rfl,
  fun x0 v t st h => ru_go rfl rfl,
  fun i a ls st h => ru_iald rfl,
  fun x y ls st h => ru_go rfl rfl,
  fun a0 a1 ls h => ru_inv rfl (by decide) rfl (Nat.le_of_ble_eq_true rfl),
  fun ls st h => ru_go rfl rfl,
  fun x ls h => ru_bret rfl rfl⟩
theorem E159 (a0 : Nat) (a1 : Int32) (a2 : Int32) {h : eH} {fs : List Value} (ha : h.1 a0 = .inr (10, fs)) : den 159 [.ref a0, .int a1, .int a2] h = ru 159 0 [some (.ref a0), some (.int a1), some (.int a2)] [] h := den_ob (Nat.le_of_ble_eq_true rfl) ha
/-! 160 X10_load -/
set_option maxRecDepth 100000 in
theorem S160 : (∀ (v : Nat) (t : eL) (st : List Value) (h : eH), ru 160 0 (some (.ref v) :: t) st h = ru 160 1 (some (.ref v) :: t) (.ref v :: st) h) ∧
  (∀ (a : Nat) (ls : eL) (st : List Value) (h : eH), ru 160 1 ls (.ref a :: st) h = gF (h.1 a) 10 9 (fun v => ru 160 4 ls (v :: st) h)) ∧
  (∀ (x0 : Option Value) (v : Int32) (t : eL) (st : List Value) (h : eH), ru 160 4 (x0 :: some (.int v) :: t) st h = ru 160 5 (x0 :: some (.int v) :: t) (.int v :: st) h) ∧
  (∀ (a0 : Nat) (a1 : Int32) (ls : eL) (h : eH), ru 160 5 ls [.int a1, .ref a0] h = cl (den 157 [.ref a0, .int a1] h) (fun v h => ru 160 8 ls (v.toList ++ []) h)) ∧
  (∀ (x : Int32) (ls : eL) (st : List Value) (h : eH), ru 160 8 ls (.int x :: st) h = if x = 0 then ru 160 11 ls st h else ru 160 14 ls st h) ∧
  (∀ (ls : eL) (st : List Value) (h : eH), ru 160 11 ls st h = ru 160 13 ls (.int ((-2)) :: st) h) ∧
  (∀ (x : Int32) (ls : eL) (h : eH), ru 160 13 ls [.int x] h = some (some (.int x), h)) ∧
  (∀ (x0 x1 : Option Value) (v : Int32) (t : eL) (st : List Value) (h : eH), ru 160 14 (x0 :: x1 :: some (.int v) :: t) st h = ru 160 15 (x0 :: x1 :: some (.int v) :: t) (.int v :: st) h) ∧
  (∀ (a0 : Int32) (ls : eL) (h : eH), ru 160 15 ls [.int a0] h = cl (den 151 [.int a0] h) (fun v h => ru 160 18 ls (v.toList ++ []) h)) ∧
  (∀ (x : Int32) (ls : eL) (st : List Value) (h : eH), ru 160 18 ls (.int x :: st) h = if x = 0 then ru 160 28 ls st h else ru 160 21 ls st h) ∧
  (∀ (x0 x1 x2 : Option Value) (v : Int32) (t : eL) (st : List Value) (h : eH), ru 160 21 (x0 :: x1 :: x2 :: some (.int v) :: t) st h = ru 160 22 (x0 :: x1 :: x2 :: some (.int v) :: t) (.int v :: st) h) ∧
  (∀ (a0 : Int32) (ls : eL) (h : eH), ru 160 22 ls [.int a0] h = cl (den 151 [.int a0] h) (fun v h => ru 160 25 ls (v.toList ++ []) h)) ∧
  (∀ (x : Int32) (ls : eL) (st : List Value) (h : eH), ru 160 25 ls (.int x :: st) h = if x = 0 then ru 160 28 ls st h else ru 160 31 ls st h) ∧
  (∀ (ls : eL) (st : List Value) (h : eH), ru 160 28 ls st h = ru 160 30 ls (.int ((-4)) :: st) h) ∧
  (∀ (x : Int32) (ls : eL) (h : eH), ru 160 30 ls [.int x] h = some (some (.int x), h)) ∧
  (∀ (v : Nat) (t : eL) (st : List Value) (h : eH), ru 160 31 (some (.ref v) :: t) st h = ru 160 32 (some (.ref v) :: t) (.ref v :: st) h) ∧
  (∀ (a : Nat) (ls : eL) (st : List Value) (h : eH), ru 160 32 ls (.ref a :: st) h = gF (h.1 a) 10 9 (fun v => ru 160 35 ls (v :: st) h)) ∧
  (∀ (a : Nat) (ls : eL) (st : List Value) (h : eH), ru 160 35 ls (.ref a :: st) h = gF (h.1 a) 6 4 (fun v => ru 160 38 ls (v :: st) h)) ∧
  (∀ (ls : eL) (st : List Value) (h : eH), ru 160 38 ls st h = ru 160 39 ls (.int (nI 0) :: st) h) ∧
  (∀ (i : Int32) (a : Nat) (ls : eL) (st : List Value) (h : eH), ru 160 39 ls (.int i :: .ref a :: st) h = aQ (h.1 a) i (fun v => ru 160 40 ls (.ref v :: st) h)) ∧
  (∀ (x0 : Option Value) (v : Int32) (t : eL) (st : List Value) (h : eH), ru 160 40 (x0 :: some (.int v) :: t) st h = ru 160 41 (x0 :: some (.int v) :: t) (.int v :: st) h) ∧
  (∀ (x0 x1 : Option Value) (v : Int32) (t : eL) (st : List Value) (h : eH), ru 160 41 (x0 :: x1 :: some (.int v) :: t) st h = ru 160 42 (x0 :: x1 :: some (.int v) :: t) (.int v :: st) h) ∧
  (∀ (x : Int32) (i : Int32) (a : Nat) (ls : eL) (st : List Value) (h : eH), ru 160 42 ls (.int x :: .int i :: .ref a :: st) h = wI (h.1 a) i x (fun e => ru 160 43 ls st (eUp h a e))) ∧
  (∀ (v : Nat) (t : eL) (st : List Value) (h : eH), ru 160 43 (some (.ref v) :: t) st h = ru 160 44 (some (.ref v) :: t) (.ref v :: st) h) ∧
  (∀ (a : Nat) (ls : eL) (st : List Value) (h : eH), ru 160 44 ls (.ref a :: st) h = gF (h.1 a) 10 9 (fun v => ru 160 47 ls (v :: st) h)) ∧
  (∀ (a : Nat) (ls : eL) (st : List Value) (h : eH), ru 160 47 ls (.ref a :: st) h = gF (h.1 a) 6 4 (fun v => ru 160 50 ls (v :: st) h)) ∧
  (∀ (ls : eL) (st : List Value) (h : eH), ru 160 50 ls st h = ru 160 51 ls (.int (nI 1) :: st) h) ∧
  (∀ (i : Int32) (a : Nat) (ls : eL) (st : List Value) (h : eH), ru 160 51 ls (.int i :: .ref a :: st) h = aQ (h.1 a) i (fun v => ru 160 52 ls (.ref v :: st) h)) ∧
  (∀ (x0 : Option Value) (v : Int32) (t : eL) (st : List Value) (h : eH), ru 160 52 (x0 :: some (.int v) :: t) st h = ru 160 53 (x0 :: some (.int v) :: t) (.int v :: st) h) ∧
  (∀ (x0 x1 x2 : Option Value) (v : Int32) (t : eL) (st : List Value) (h : eH), ru 160 53 (x0 :: x1 :: x2 :: some (.int v) :: t) st h = ru 160 54 (x0 :: x1 :: x2 :: some (.int v) :: t) (.int v :: st) h) ∧
  (∀ (x : Int32) (i : Int32) (a : Nat) (ls : eL) (st : List Value) (h : eH), ru 160 54 ls (.int x :: .int i :: .ref a :: st) h = wI (h.1 a) i x (fun e => ru 160 55 ls st (eUp h a e))) ∧
  (∀ (v : Nat) (t : eL) (st : List Value) (h : eH), ru 160 55 (some (.ref v) :: t) st h = ru 160 56 (some (.ref v) :: t) (.ref v :: st) h) ∧
  (∀ (ls : eL) (st : List Value) (h : eH), ru 160 56 ls st h = ru 160 57 ls (.int (nI 0) :: st) h) ∧
  (∀ (v : Int32) (a : Nat) (ls : eL) (st : List Value) (h : eH), ru 160 57 ls (.int v :: .ref a :: st) h = pF (h.1 a) 10 12 (.int v) (fun e => ru 160 60 ls st (eUp h a e))) ∧
  (∀ (v : Nat) (t : eL) (st : List Value) (h : eH), ru 160 60 (some (.ref v) :: t) st h = ru 160 61 (some (.ref v) :: t) (.ref v :: st) h) ∧
  (∀ (ls : eL) (st : List Value) (h : eH), ru 160 61 ls st h = ru 160 62 ls (.int (nI 0) :: st) h) ∧
  (∀ (v : Int32) (a : Nat) (ls : eL) (st : List Value) (h : eH), ru 160 62 ls (.int v :: .ref a :: st) h = pF (h.1 a) 10 14 (.int v) (fun e => ru 160 65 ls st (eUp h a e))) ∧
  (∀ (ls : eL) (st : List Value) (h : eH), ru 160 65 ls st h = ru 160 66 ls (.int (nI 0) :: st) h) ∧
  (∀ (x : Int32) (ls : eL) (h : eH), ru 160 66 ls [.int x] h = some (some (.int x), h)) := ⟨fun v t st h => ru_go rfl rfl,
  fun a ls st h => ru_getf rfl,
  fun x0 v t st h => ru_go rfl rfl,
  fun a0 a1 ls h => ru_inv rfl (by decide) rfl (Nat.le_of_ble_eq_true rfl),
  fun x ls st h => ru_if rfl rfl,
  fun ls st h => ru_go rfl rfl,
  fun x ls h => ru_ret rfl rfl,
  fun x0 x1 v t st h => ru_go rfl rfl,
  fun a0 ls h => ru_inv rfl (by decide) rfl (Nat.le_of_ble_eq_true rfl),
  fun x ls st h => ru_if rfl rfl,
  fun x0 x1 x2 v t st h => ru_go rfl rfl,
  fun a0 ls h => ru_inv rfl (by decide) rfl (Nat.le_of_ble_eq_true rfl),
  fun x ls st h => ru_if rfl rfl,
  fun ls st h => ru_go rfl rfl,
  fun x ls h => ru_ret rfl rfl,
  fun v t st h => ru_go rfl rfl,
  fun a ls st h => ru_getf rfl,
  fun a ls st h => ru_getf rfl,
  fun ls st h => ru_go rfl rfl,
  fun i a ls st h => ru_aald rfl,
  fun x0 v t st h => ru_go rfl rfl,
  fun x0 x1 v t st h => ru_go rfl rfl,
  fun x i a ls st h => ru_iast rfl,
  fun v t st h => ru_go rfl rfl,
  fun a ls st h => ru_getf rfl,
  fun a ls st h => ru_getf rfl,
  fun ls st h => ru_go rfl rfl,
  fun i a ls st h => ru_aald rfl,
  fun x0 v t st h => ru_go rfl rfl,
  fun x0 x1 x2 v t st h => ru_go rfl rfl,
  fun x i a ls st h => ru_iast rfl,
  fun v t st h => ru_go rfl rfl,
  fun ls st h => ru_go rfl rfl,
  fun v a ls st h => ru_putf rfl,
  fun v t st h => ru_go rfl rfl,
  fun ls st h => ru_go rfl rfl,
  fun v a ls st h => ru_putf rfl,
  fun ls st h => ru_go rfl rfl,
  fun x ls h => ru_ret rfl rfl⟩
theorem E160 (a0 : Nat) (a1 : Int32) (a2 : Int32) (a3 : Int32) {h : eH} {fs : List Value} (ha : h.1 a0 = .inr (10, fs)) : den 160 [.ref a0, .int a1, .int a2, .int a3] h = ru 160 0 [some (.ref a0), some (.int a1), some (.int a2), some (.int a3)] [] h := den_ob (Nat.le_of_ble_eq_true rfl) ha
/-! 161 X10_look -/
set_option maxRecDepth 100000 in
theorem S161 : (∀ (x0 : Option Value) (v : Int32) (t : eL) (st : List Value) (h : eH), ru 161 0 (x0 :: some (.int v) :: t) st h = ru 161 1 (x0 :: some (.int v) :: t) (.int v :: st) h) ∧
  (∀ (x : Int32) (ls : eL) (st : List Value) (h : eH), ru 161 1 ls (.int x :: st) h = swF (eSw 1 x 64 0 2 #[27, 38, 53]) (fun z => ru 161 z ls st h)) ∧
  (∀ (v : Nat) (t : eL) (st : List Value) (h : eH), ru 161 28 (some (.ref v) :: t) st h = ru 161 29 (some (.ref v) :: t) (.ref v :: st) h) ∧
  (∀ (a : Nat) (ls : eL) (st : List Value) (h : eH), ru 161 29 ls (.ref a :: st) h = gF (h.1 a) 10 1 (fun v => ru 161 32 ls (v :: st) h)) ∧
  (∀ (a : Nat) (ls : eL) (st : List Value) (h : eH), ru 161 32 ls (.ref a :: st) h = gF (h.1 a) 4 0 (fun v => ru 161 35 ls (v :: st) h)) ∧
  (∀ (a0 : Nat) (ls : eL) (h : eH), ru 161 35 ls [.ref a0] h = cl (den 100 [.ref a0] h) (fun v h => ru 161 38 ls (v.toList ++ []) h)) ∧
  (∀ (x : Int32) (ls : eL) (h : eH), ru 161 38 ls [.int x] h = some (some (.int x), h)) ∧
  (∀ (ls : eL) (st : List Value) (h : eH), ru 161 39 ls st h = ru 161 40 ls (.int (nI 1) :: st) h) ∧
  (∀ (v : Nat) (t : eL) (st : List Value) (h : eH), ru 161 40 (some (.ref v) :: t) st h = ru 161 41 (some (.ref v) :: t) (.ref v :: st) h) ∧
  (∀ (a : Nat) (ls : eL) (st : List Value) (h : eH), ru 161 41 ls (.ref a :: st) h = gF (h.1 a) 10 1 (fun v => ru 161 44 ls (v :: st) h)) ∧
  (∀ (a : Nat) (ls : eL) (st : List Value) (h : eH), ru 161 44 ls (.ref a :: st) h = gF (h.1 a) 4 0 (fun v => ru 161 47 ls (v :: st) h)) ∧
  (∀ (a : Nat) (ls : eL) (st : List Value) (h : eH), ru 161 47 ls (.ref a :: st) h = gF (h.1 a) 9 1 (fun v => ru 161 50 ls (v :: st) h)) ∧
  (∀ (a0 : Int32) (a1 : Int32) (ls : eL) (h : eH), ru 161 50 ls [.int a1, .int a0] h = cl (den 8 [.int a0, .int a1] h) (fun v h => ru 161 53 ls (v.toList ++ []) h)) ∧
  (∀ (x : Int32) (ls : eL) (h : eH), ru 161 53 ls [.int x] h = some (some (.int x), h)) ∧
  (∀ (v : Nat) (t : eL) (st : List Value) (h : eH), ru 161 54 (some (.ref v) :: t) st h = ru 161 55 (some (.ref v) :: t) (.ref v :: st) h) ∧
  (∀ (a : Nat) (ls : eL) (st : List Value) (h : eH), ru 161 55 ls (.ref a :: st) h = gF (h.1 a) 10 1 (fun v => ru 161 58 ls (v :: st) h)) ∧
  (∀ (a : Nat) (ls : eL) (st : List Value) (h : eH), ru 161 58 ls (.ref a :: st) h = gF (h.1 a) 4 1 (fun v => ru 161 61 ls (v :: st) h)) ∧
  (∀ (a : Nat) (ls : eL) (st : List Value) (h : eH), ru 161 61 ls (.ref a :: st) h = gF (h.1 a) 9 1 (fun v => ru 161 64 ls (v :: st) h)) ∧
  (∀ (x : Int32) (ls : eL) (h : eH), ru 161 64 ls [.int x] h = some (some (.int x), h)) ∧
  (∀ (ls : eL) (st : List Value) (h : eH), ru 161 65 ls st h = ru 161 66 ls (.int ((-1)) :: st) h) ∧
  (∀ (x : Int32) (ls : eL) (h : eH), ru 161 66 ls [.int x] h = some (some (.int x), h)) := ⟨fun x0 v t st h => ru_go rfl rfl,
  fun x ls st h => ru_sw rfl,
  fun v t st h => ru_go rfl rfl,
  fun a ls st h => ru_getf rfl,
  fun a ls st h => ru_getf rfl,
  fun a0 ls h => ru_inv rfl (by decide) rfl (Nat.le_of_ble_eq_true rfl),
  fun x ls h => ru_ret rfl rfl,
  fun ls st h => ru_go rfl rfl,
  fun v t st h => ru_go rfl rfl,
  fun a ls st h => ru_getf rfl,
  fun a ls st h => ru_getf rfl,
  fun a ls st h => ru_getf rfl,
  fun a0 a1 ls h => ru_inv rfl (by decide) rfl (Nat.le_of_ble_eq_true rfl),
  fun x ls h => ru_ret rfl rfl,
  fun v t st h => ru_go rfl rfl,
  fun a ls st h => ru_getf rfl,
  fun a ls st h => ru_getf rfl,
  fun a ls st h => ru_getf rfl,
  fun x ls h => ru_ret rfl rfl,
  fun ls st h => ru_go rfl rfl,
  fun x ls h => ru_ret rfl rfl⟩
theorem E161 (a0 : Nat) (a1 : Int32) {h : eH} {fs : List Value} (ha : h.1 a0 = .inr (10, fs)) : den 161 [.ref a0, .int a1] h = ru 161 0 [some (.ref a0), some (.int a1)] [] h := den_ob (Nat.le_of_ble_eq_true rfl) ha
/-! 162 X7_beginReading -/
set_option maxRecDepth 100000 in
theorem S162 : (∀ (v : Nat) (t : eL) (st : List Value) (h : eH), ru 162 0 (some (.ref v) :: t) st h = ru 162 1 (some (.ref v) :: t) (.ref v :: st) h) ∧
  (∀ (x0 : Option Value) (v : Int32) (t : eL) (st : List Value) (h : eH), ru 162 1 (x0 :: some (.int v) :: t) st h = ru 162 2 (x0 :: some (.int v) :: t) (.int v :: st) h) ∧
  (∀ (v : Int32) (a : Nat) (ls : eL) (st : List Value) (h : eH), ru 162 2 ls (.int v :: .ref a :: st) h = pF (h.1 a) 7 3 (.int v) (fun e => ru 162 5 ls st (eUp h a e))) ∧
  (∀ (v : Nat) (t : eL) (st : List Value) (h : eH), ru 162 5 (some (.ref v) :: t) st h = ru 162 6 (some (.ref v) :: t) (.ref v :: st) h) ∧
  (∀ (ls : eL) (st : List Value) (h : eH), ru 162 6 ls st h = ru 162 7 ls (.int (nI 0) :: st) h) ∧
  (∀ (v : Int32) (a : Nat) (ls : eL) (st : List Value) (h : eH), ru 162 7 ls (.int v :: .ref a :: st) h = pF (h.1 a) 7 4 (.int v) (fun e => ru 162 10 ls st (eUp h a e))) ∧
  (∀ (v : Nat) (t : eL) (st : List Value) (h : eH), ru 162 10 (some (.ref v) :: t) st h = ru 162 11 (some (.ref v) :: t) (.ref v :: st) h) ∧
  (∀ (ls : eL) (st : List Value) (h : eH), ru 162 11 ls st h = ru 162 12 ls (.int (nI 0) :: st) h) ∧
  (∀ (v : Int32) (a : Nat) (ls : eL) (st : List Value) (h : eH), ru 162 12 ls (.int v :: .ref a :: st) h = pF (h.1 a) 7 5 (.int v) (fun e => ru 162 15 ls st (eUp h a e))) ∧
  (∀ (ls : eL) (h : eH), ru 162 15 ls [] h = some (none, h)) := ⟨fun v t st h => ru_go rfl rfl,
  fun x0 v t st h => ru_go rfl rfl,
  fun v a ls st h => ru_putf rfl,
  fun v t st h => ru_go rfl rfl,
  fun ls st h => ru_go rfl rfl,
  fun v a ls st h => ru_putf rfl,
  fun v t st h => ru_go rfl rfl,
  fun ls st h => ru_go rfl rfl,
  fun v a ls st h => ru_putf rfl,
  fun ls h => ru_ret rfl rfl⟩
theorem E162 (a0 : Nat) (a1 : Int32) {h : eH} {fs : List Value} (ha : h.1 a0 = .inr (7, fs)) : den 162 [.ref a0, .int a1] h = ru 162 0 [some (.ref a0), some (.int a1)] [] h := den_ob (Nat.le_of_ble_eq_true rfl) ha
/-! 163 X7_next -/
set_option maxRecDepth 100000 in
theorem S163 : (∀ (v : Nat) (t : eL) (st : List Value) (h : eH), ru 163 0 (some (.ref v) :: t) st h = ru 163 1 (some (.ref v) :: t) (.ref v :: st) h) ∧
  (∀ (a : Nat) (ls : eL) (st : List Value) (h : eH), ru 163 1 ls (.ref a :: st) h = gF (h.1 a) 7 5 (fun v => ru 163 4 ls (v :: st) h)) ∧
  (∀ (x : Int32) (ls : eL) (st : List Value) (h : eH), ru 163 4 ls (.int x :: st) h = if x = 0 then ru 163 9 ls st h else ru 163 7 ls st h) ∧
  (∀ (x0 : Option Value) (v : Int32) (t : eL) (st : List Value) (h : eH), ru 163 7 (x0 :: some (.int v) :: t) st h = ru 163 8 (x0 :: some (.int v) :: t) (.int v :: st) h) ∧
  (∀ (x : Int32) (ls : eL) (h : eH), ru 163 8 ls [.int x] h = some (some (.int x), h)) ∧
  (∀ (v : Nat) (t : eL) (st : List Value) (h : eH), ru 163 9 (some (.ref v) :: t) st h = ru 163 10 (some (.ref v) :: t) (.ref v :: st) h) ∧
  (∀ (a : Nat) (ls : eL) (st : List Value) (h : eH), ru 163 10 ls (.ref a :: st) h = gF (h.1 a) 7 4 (fun v => ru 163 13 ls (v :: st) h)) ∧
  (∀ (v : Nat) (t : eL) (st : List Value) (h : eH), ru 163 13 (some (.ref v) :: t) st h = ru 163 14 (some (.ref v) :: t) (.ref v :: st) h) ∧
  (∀ (a : Nat) (ls : eL) (st : List Value) (h : eH), ru 163 14 ls (.ref a :: st) h = gF (h.1 a) 7 2 (fun v => ru 163 17 ls (v :: st) h)) ∧
  (∀ (v : Nat) (t : eL) (st : List Value) (h : eH), ru 163 17 (some (.ref v) :: t) st h = ru 163 18 (some (.ref v) :: t) (.ref v :: st) h) ∧
  (∀ (a : Nat) (ls : eL) (st : List Value) (h : eH), ru 163 18 ls (.ref a :: st) h = gF (h.1 a) 7 3 (fun v => ru 163 21 ls (v :: st) h)) ∧
  (∀ (i : Int32) (a : Nat) (ls : eL) (st : List Value) (h : eH), ru 163 21 ls (.int i :: .ref a :: st) h = aI (h.1 a) 0 i (fun v => ru 163 22 ls (.int v :: st) h)) ∧
  (∀ (x y : Int32) (ls : eL) (st : List Value) (h : eH), ru 163 22 ls (.int y :: .int x :: st) h = if x < y then ru 163 33 ls st h else ru 163 25 ls st h) ∧
  (∀ (v : Nat) (t : eL) (st : List Value) (h : eH), ru 163 25 (some (.ref v) :: t) st h = ru 163 26 (some (.ref v) :: t) (.ref v :: st) h) ∧
  (∀ (ls : eL) (st : List Value) (h : eH), ru 163 26 ls st h = ru 163 28 ls (.int ((-6)) :: st) h) ∧
  (∀ (v : Int32) (a : Nat) (ls : eL) (st : List Value) (h : eH), ru 163 28 ls (.int v :: .ref a :: st) h = pF (h.1 a) 7 5 (.int v) (fun e => ru 163 31 ls st (eUp h a e))) ∧
  (∀ (x0 : Option Value) (v : Int32) (t : eL) (st : List Value) (h : eH), ru 163 31 (x0 :: some (.int v) :: t) st h = ru 163 32 (x0 :: some (.int v) :: t) (.int v :: st) h) ∧
  (∀ (x : Int32) (ls : eL) (h : eH), ru 163 32 ls [.int x] h = some (some (.int x), h)) ∧
  (∀ (v : Nat) (t : eL) (st : List Value) (h : eH), ru 163 33 (some (.ref v) :: t) st h = ru 163 34 (some (.ref v) :: t) (.ref v :: st) h) ∧
  (∀ (a : Nat) (ls : eL) (st : List Value) (h : eH), ru 163 34 ls (.ref a :: st) h = gF (h.1 a) 7 0 (fun v => ru 163 37 ls (v :: st) h)) ∧
  (∀ (v : Nat) (t : eL) (st : List Value) (h : eH), ru 163 37 (some (.ref v) :: t) st h = ru 163 38 (some (.ref v) :: t) (.ref v :: st) h) ∧
  (∀ (a : Nat) (ls : eL) (st : List Value) (h : eH), ru 163 38 ls (.ref a :: st) h = gF (h.1 a) 7 3 (fun v => ru 163 41 ls (v :: st) h)) ∧
  (∀ (i : Int32) (a : Nat) (ls : eL) (st : List Value) (h : eH), ru 163 41 ls (.int i :: .ref a :: st) h = aQ (h.1 a) i (fun v => ru 163 42 ls (.ref v :: st) h)) ∧
  (∀ (v : Nat) (t : eL) (st : List Value) (h : eH), ru 163 42 (some (.ref v) :: t) st h = ru 163 43 (some (.ref v) :: t) (.ref v :: st) h) ∧
  (∀ (a : Nat) (ls : eL) (st : List Value) (h : eH), ru 163 43 ls (.ref a :: st) h = gF (h.1 a) 7 4 (fun v => ru 163 46 ls (v :: st) h)) ∧
  (∀ (i : Int32) (a : Nat) (ls : eL) (st : List Value) (h : eH), ru 163 46 ls (.int i :: .ref a :: st) h = aL (h.1 a) i (fun v => ru 163 47 ls (.long v :: st) h)) ∧
  (∀ (x0 x1 x2 x3 x4 : Option Value) (v : Int64) (t : eL) (st : List Value) (h : eH), ru 163 47 (x0 :: x1 :: x2 :: x3 :: x4 :: t) (.long v :: st) h = ru 163 48 (x0 :: x1 :: eKl x2 :: some (.long v) :: none :: t) st h) ∧
  (∀ (v : Nat) (t : eL) (st : List Value) (h : eH), ru 163 48 (some (.ref v) :: t) st h = ru 163 49 (some (.ref v) :: t) (.ref v :: st) h) ∧
  (∀ (x : Nat) (ls : eL) (st : List Value) (h : eH), ru 163 49 ls (.ref x :: st) h = ru 163 50 ls (.ref x :: .ref x :: st) h) ∧
  (∀ (a : Nat) (ls : eL) (st : List Value) (h : eH), ru 163 50 ls (.ref a :: st) h = gF (h.1 a) 7 4 (fun v => ru 163 53 ls (v :: st) h)) ∧
  (∀ (ls : eL) (st : List Value) (h : eH), ru 163 53 ls st h = ru 163 54 ls (.int (nI 1) :: st) h) ∧
  (∀ (x y : Int32) (ls : eL) (st : List Value) (h : eH), ru 163 54 ls (.int y :: .int x :: st) h = ru 163 55 ls (.int (x + y) :: st) h) ∧
  (∀ (v : Int32) (a : Nat) (ls : eL) (st : List Value) (h : eH), ru 163 55 ls (.int v :: .ref a :: st) h = pF (h.1 a) 7 4 (.int v) (fun e => ru 163 58 ls st (eUp h a e))) ∧
  (∀ (x0 x1 x2 : Option Value) (v : Int64) (t : eL) (st : List Value) (h : eH), ru 163 58 (x0 :: x1 :: x2 :: some (.long v) :: t) st h = ru 163 59 (x0 :: x1 :: x2 :: some (.long v) :: t) (.long v :: st) h) ∧
  (∀ (x0 : Option Value) (v : Int32) (t : eL) (st : List Value) (h : eH), ru 163 59 (x0 :: some (.int v) :: t) st h = ru 163 60 (x0 :: some (.int v) :: t) (.int v :: st) h) ∧
  (∀ (x : Int32) (ls : eL) (st : List Value) (h : eH), ru 163 60 ls (.int x :: st) h = ru 163 61 ls (.long (x.toInt64) :: st) h) ∧
  (∀ (x y : Int64) (ls : eL) (st : List Value) (h : eH), ru 163 61 ls (.long y :: .long x :: st) h = ru 163 62 ls (.int (lg_cmp x y) :: st) h) ∧
  (∀ (x : Int32) (ls : eL) (st : List Value) (h : eH), ru 163 62 ls (.int x :: st) h = if x < 0 then ru 163 72 ls st h else ru 163 65 ls st h) ∧
  (∀ (x0 x1 x2 : Option Value) (v : Int64) (t : eL) (st : List Value) (h : eH), ru 163 65 (x0 :: x1 :: x2 :: some (.long v) :: t) st h = ru 163 66 (x0 :: x1 :: x2 :: some (.long v) :: t) (.long v :: st) h) ∧
  (∀ (x0 x1 : Option Value) (v : Int32) (t : eL) (st : List Value) (h : eH), ru 163 66 (x0 :: x1 :: some (.int v) :: t) st h = ru 163 67 (x0 :: x1 :: some (.int v) :: t) (.int v :: st) h) ∧
  (∀ (x : Int32) (ls : eL) (st : List Value) (h : eH), ru 163 67 ls (.int x :: st) h = ru 163 68 ls (.long (x.toInt64) :: st) h) ∧
  (∀ (x y : Int64) (ls : eL) (st : List Value) (h : eH), ru 163 68 ls (.long y :: .long x :: st) h = ru 163 69 ls (.int (lg_cmp x y) :: st) h) ∧
  (∀ (x : Int32) (ls : eL) (st : List Value) (h : eH), ru 163 69 ls (.int x :: st) h = if x ≤ 0 then ru 163 80 ls st h else ru 163 72 ls st h) ∧
  (∀ (v : Nat) (t : eL) (st : List Value) (h : eH), ru 163 72 (some (.ref v) :: t) st h = ru 163 73 (some (.ref v) :: t) (.ref v :: st) h) ∧
  (∀ (ls : eL) (st : List Value) (h : eH), ru 163 73 ls st h = ru 163 75 ls (.int ((-4)) :: st) h) ∧
  (∀ (v : Int32) (a : Nat) (ls : eL) (st : List Value) (h : eH), ru 163 75 ls (.int v :: .ref a :: st) h = pF (h.1 a) 7 5 (.int v) (fun e => ru 163 78 ls st (eUp h a e))) ∧
  (∀ (x0 : Option Value) (v : Int32) (t : eL) (st : List Value) (h : eH), ru 163 78 (x0 :: some (.int v) :: t) st h = ru 163 79 (x0 :: some (.int v) :: t) (.int v :: st) h) ∧
  (∀ (x : Int32) (ls : eL) (h : eH), ru 163 79 ls [.int x] h = some (some (.int x), h)) ∧
  (∀ (x0 x1 x2 : Option Value) (v : Int64) (t : eL) (st : List Value) (h : eH), ru 163 80 (x0 :: x1 :: x2 :: some (.long v) :: t) st h = ru 163 81 (x0 :: x1 :: x2 :: some (.long v) :: t) (.long v :: st) h) ∧
  (∀ (x : Int64) (ls : eL) (st : List Value) (h : eH), ru 163 81 ls (.long x :: st) h = ru 163 82 ls (.int (x.toInt32) :: st) h) ∧
  (∀ (x : Int32) (ls : eL) (h : eH), ru 163 82 ls [.int x] h = some (some (.int x), h)) := ⟨fun v t st h => ru_go rfl rfl,
  fun a ls st h => ru_getf rfl,
  fun x ls st h => ru_if rfl rfl,
  fun x0 v t st h => ru_go rfl rfl,
  fun x ls h => ru_ret rfl rfl,
  fun v t st h => ru_go rfl rfl,
  fun a ls st h => ru_getf rfl,
  fun v t st h => ru_go rfl rfl,
  fun a ls st h => ru_getf rfl,
  fun v t st h => ru_go rfl rfl,
  fun a ls st h => ru_getf rfl,
  fun i a ls st h => ru_iald rfl,
  fun x y ls st h => ru_if rfl rfl,
  fun v t st h => ru_go rfl rfl,
  fun ls st h => ru_go rfl rfl,
  fun v a ls st h => ru_putf rfl,
  fun x0 v t st h => ru_go rfl rfl,
  fun x ls h => ru_ret rfl rfl,
  fun v t st h => ru_go rfl rfl,
  fun a ls st h => ru_getf rfl,
  fun v t st h => ru_go rfl rfl,
  fun a ls st h => ru_getf rfl,
  fun i a ls st h => ru_aald rfl,
  fun v t st h => ru_go rfl rfl,
  fun a ls st h => ru_getf rfl,
  fun i a ls st h => ru_lald rfl,
  fun x0 x1 x2 x3 x4 v t st h => ru_go rfl rfl,
  fun v t st h => ru_go rfl rfl,
  fun x ls st h => ru_go rfl rfl,
  fun a ls st h => ru_getf rfl,
  fun ls st h => ru_go rfl rfl,
  fun x y ls st h => ru_go rfl rfl,
  fun v a ls st h => ru_putf rfl,
  fun x0 x1 x2 v t st h => ru_go rfl rfl,
  fun x0 v t st h => ru_go rfl rfl,
  fun x ls st h => ru_go rfl rfl,
  fun x y ls st h => ru_go rfl rfl,
  fun x ls st h => ru_if rfl rfl,
  fun x0 x1 x2 v t st h => ru_go rfl rfl,
  fun x0 x1 v t st h => ru_go rfl rfl,
  fun x ls st h => ru_go rfl rfl,
  fun x y ls st h => ru_go rfl rfl,
  fun x ls st h => ru_if rfl rfl,
  fun v t st h => ru_go rfl rfl,
  fun ls st h => ru_go rfl rfl,
  fun v a ls st h => ru_putf rfl,
  fun x0 v t st h => ru_go rfl rfl,
  fun x ls h => ru_ret rfl rfl,
  fun x0 x1 x2 v t st h => ru_go rfl rfl,
  fun x ls st h => ru_go rfl rfl,
  fun x ls h => ru_ret rfl rfl⟩
theorem E163 (a0 : Nat) (a1 : Int32) (a2 : Int32) {h : eH} {fs : List Value} (ha : h.1 a0 = .inr (7, fs)) : den 163 [.ref a0, .int a1, .int a2] h = ru 163 0 [some (.ref a0), some (.int a1), some (.int a2), none, none] [] h := den_ob (Nat.le_of_ble_eq_true rfl) ha
