/-! 30 X11_clears -/
set_option maxRecDepth 100000 in
theorem H30_14 : (∀ (x0 x1 x2 : Option Value) (v : Int32) (t : eL) (st : List Value) (h : eH), ru 30 14 (x0 :: x1 :: x2 :: some (.int v) :: t) st h = ru 30 15 (x0 :: x1 :: x2 :: some (.int v) :: t) (.int v :: st) h) := fun x0 x1 x2 v t st h => ru_go rfl rfl
set_option maxRecDepth 100000 in
theorem S30 : (∀ (v : Nat) (t : eL) (st : List Value) (h : eH), ru 30 0 (some (.ref v) :: t) st h = ru 30 1 (some (.ref v) :: t) (.ref v :: st) h) ∧
  (∀ (ls : eL) (st : List Value) (h : eH), ru 30 1 ls st h = ru 30 3 ls (.int (nI 10) :: st) h) ∧
  (∀ (v : Nat) (t : eL) (st : List Value) (h : eH), ru 30 3 (some (.ref v) :: t) st h = ru 30 4 (some (.ref v) :: t) (.ref v :: st) h) ∧
  (∀ (x0 : Option Value) (v : Int32) (t : eL) (st : List Value) (h : eH), ru 30 4 (x0 :: some (.int v) :: t) st h = ru 30 5 (x0 :: some (.int v) :: t) (.int v :: st) h) ∧
  (∀ (x0 x1 : Option Value) (v : Int32) (t : eL) (st : List Value) (h : eH), ru 30 5 (x0 :: x1 :: some (.int v) :: t) st h = ru 30 6 (x0 :: x1 :: some (.int v) :: t) (.int v :: st) h) ∧
  (∀ (a0 : Nat) (a1 : Int32) (a2 : Int32) (u0 : Int32) (u1 : Nat) (ls : eL) (h : eH), ru 30 6 ls [.int a2, .int a1, .ref a0, .int u0, .ref u1] h = cl (den 21 [.ref a0, .int a1, .int a2] h) (fun v h => ru 30 9 ls (v.toList ++ [.int u0, .ref u1]) h)) ∧
  (∀ (a0 : Nat) (a1 : Int32) (a2 : Int32) (ls : eL) (h : eH), ru 30 9 ls [.int a2, .int a1, .ref a0] h = cl (den 20 [.ref a0, .int a1, .int a2] h) (fun v h => ru 30 12 ls (v.toList ++ []) h)) ∧
  (∀ (ls : eL) (st : List Value) (h : eH), ru 30 12 ls st h = ru 30 13 ls (.int (nI 0) :: st) h) ∧
  (∀ (x0 x1 x2 x3 : Option Value) (v : Int32) (t : eL) (st : List Value) (h : eH), ru 30 13 (x0 :: x1 :: x2 :: x3 :: t) (.int v :: st) h = ru 30 14 (x0 :: x1 :: eKl x2 :: some (.int v) :: t) st h) ∧
  (∀ (v : Nat) (t : eL) (st : List Value) (h : eH), ru 30 15 (some (.ref v) :: t) st h = ru 30 16 (some (.ref v) :: t) (.ref v :: st) h) ∧
  (∀ (a : Nat) (ls : eL) (st : List Value) (h : eH), ru 30 16 ls (.ref a :: st) h = gF (h.1 a) 11 20 (fun v => ru 30 19 ls (v :: st) h)) ∧
  (∀ (x y : Int32) (ls : eL) (st : List Value) (h : eH), ru 30 19 ls (.int y :: .int x :: st) h = if y ≤ x then ru 30 97 ls st h else ru 30 22 ls st h) ∧
  (∀ (v : Nat) (t : eL) (st : List Value) (h : eH), ru 30 22 (some (.ref v) :: t) st h = ru 30 23 (some (.ref v) :: t) (.ref v :: st) h) ∧
  (∀ (ls : eL) (st : List Value) (h : eH), ru 30 23 ls st h = ru 30 25 ls (.int (nI 6) :: st) h) ∧
  (∀ (v : Nat) (t : eL) (st : List Value) (h : eH), ru 30 25 (some (.ref v) :: t) st h = ru 30 26 (some (.ref v) :: t) (.ref v :: st) h) ∧
  (∀ (x0 : Option Value) (v : Int32) (t : eL) (st : List Value) (h : eH), ru 30 26 (x0 :: some (.int v) :: t) st h = ru 30 27 (x0 :: some (.int v) :: t) (.int v :: st) h) ∧
  (∀ (x0 x1 x2 : Option Value) (v : Int32) (t : eL) (st : List Value) (h : eH), ru 30 27 (x0 :: x1 :: x2 :: some (.int v) :: t) st h = ru 30 28 (x0 :: x1 :: x2 :: some (.int v) :: t) (.int v :: st) h) ∧
  (∀ (a0 : Nat) (a1 : Int32) (a2 : Int32) (u0 : Int32) (u1 : Nat) (ls : eL) (h : eH), ru 30 28 ls [.int a2, .int a1, .ref a0, .int u0, .ref u1] h = cl (den 21 [.ref a0, .int a1, .int a2] h) (fun v h => ru 30 31 ls (v.toList ++ [.int u0, .ref u1]) h)) ∧
  (∀ (v : Nat) (t : eL) (st : List Value) (h : eH), ru 30 31 (some (.ref v) :: t) st h = ru 30 32 (some (.ref v) :: t) (.ref v :: st) h) ∧
  (∀ (v : Nat) (t : eL) (st : List Value) (h : eH), ru 30 32 (some (.ref v) :: t) st h = ru 30 33 (some (.ref v) :: t) (.ref v :: st) h) ∧
  (∀ (a : Nat) (ls : eL) (st : List Value) (h : eH), ru 30 33 ls (.ref a :: st) h = gF (h.1 a) 11 21 (fun v => ru 30 36 ls (v :: st) h)) ∧
  (∀ (x0 x1 : Option Value) (v : Int32) (t : eL) (st : List Value) (h : eH), ru 30 36 (x0 :: x1 :: some (.int v) :: t) st h = ru 30 37 (x0 :: x1 :: some (.int v) :: t) (.int v :: st) h) ∧
  (∀ (a0 : Nat) (a1 : Int32) (a2 : Int32) (u0 : Int32) (u1 : Int32) (u2 : Nat) (ls : eL) (h : eH), ru 30 37 ls [.int a2, .int a1, .ref a0, .int u0, .int u1, .ref u2] h = cl (den 21 [.ref a0, .int a1, .int a2] h) (fun v h => ru 30 40 ls (v.toList ++ [.int u0, .int u1, .ref u2]) h)) ∧
  (∀ (a0 : Nat) (a1 : Int32) (a2 : Int32) (a3 : Int32) (ls : eL) (h : eH), ru 30 40 ls [.int a3, .int a2, .int a1, .ref a0] h = cl (den 27 [.ref a0, .int a1, .int a2, .int a3] h) (fun v h => ru 30 43 ls (v.toList ++ []) h)) ∧
  (∀ (v : Nat) (t : eL) (st : List Value) (h : eH), ru 30 43 (some (.ref v) :: t) st h = ru 30 44 (some (.ref v) :: t) (.ref v :: st) h) ∧
  (∀ (ls : eL) (st : List Value) (h : eH), ru 30 44 ls st h = ru 30 46 ls (.int (nI 7) :: st) h) ∧
  (∀ (ls : eL) (st : List Value) (h : eH), ru 30 46 ls st h = ru 30 48 ls (.int (nI 10) :: st) h) ∧
  (∀ (v : Nat) (t : eL) (st : List Value) (h : eH), ru 30 48 (some (.ref v) :: t) st h = ru 30 49 (some (.ref v) :: t) (.ref v :: st) h) ∧
  (∀ (v : Nat) (t : eL) (st : List Value) (h : eH), ru 30 49 (some (.ref v) :: t) st h = ru 30 50 (some (.ref v) :: t) (.ref v :: st) h) ∧
  (∀ (a : Nat) (ls : eL) (st : List Value) (h : eH), ru 30 50 ls (.ref a :: st) h = gF (h.1 a) 11 21 (fun v => ru 30 53 ls (v :: st) h)) ∧
  (∀ (x0 x1 x2 : Option Value) (v : Int32) (t : eL) (st : List Value) (h : eH), ru 30 53 (x0 :: x1 :: x2 :: some (.int v) :: t) st h = ru 30 54 (x0 :: x1 :: x2 :: some (.int v) :: t) (.int v :: st) h) ∧
  (∀ (a0 : Nat) (a1 : Int32) (a2 : Int32) (u0 : Int32) (u1 : Int32) (u2 : Nat) (ls : eL) (h : eH), ru 30 54 ls [.int a2, .int a1, .ref a0, .int u0, .int u1, .ref u2] h = cl (den 21 [.ref a0, .int a1, .int a2] h) (fun v h => ru 30 57 ls (v.toList ++ [.int u0, .int u1, .ref u2]) h)) ∧
  (∀ (a0 : Nat) (a1 : Int32) (a2 : Int32) (a3 : Int32) (ls : eL) (h : eH), ru 30 57 ls [.int a3, .int a2, .int a1, .ref a0] h = cl (den 27 [.ref a0, .int a1, .int a2, .int a3] h) (fun v h => ru 30 60 ls (v.toList ++ []) h)) ∧
  (∀ (v : Nat) (t : eL) (st : List Value) (h : eH), ru 30 60 (some (.ref v) :: t) st h = ru 30 61 (some (.ref v) :: t) (.ref v :: st) h) ∧
  (∀ (ls : eL) (st : List Value) (h : eH), ru 30 61 ls st h = ru 30 63 ls (.int (nI 6) :: st) h) ∧
  (∀ (ls : eL) (st : List Value) (h : eH), ru 30 63 ls st h = ru 30 65 ls (.int (nI 7) :: st) h) ∧
  (∀ (ls : eL) (st : List Value) (h : eH), ru 30 65 ls st h = ru 30 68 ls (.long (-lN 1) :: st) h) ∧
  (∀ (a0 : Nat) (a1 : Int32) (a2 : Int32) (a3 : Int64) (ls : eL) (h : eH), ru 30 68 ls [.long a3, .int a2, .int a1, .ref a0] h = cl (den 15 [.ref a0, .int a1, .int a2, .long a3] h) (fun v h => ru 30 71 ls (v.toList ++ []) h)) ∧
  (∀ (v : Nat) (t : eL) (st : List Value) (h : eH), ru 30 71 (some (.ref v) :: t) st h = ru 30 72 (some (.ref v) :: t) (.ref v :: st) h) ∧
  (∀ (ls : eL) (st : List Value) (h : eH), ru 30 72 ls st h = ru 30 74 ls (.int (nI 6) :: st) h) ∧
  (∀ (ls : eL) (st : List Value) (h : eH), ru 30 74 ls st h = ru 30 76 ls (.int (nI 8) :: st) h) ∧
  (∀ (a0 : Nat) (a1 : Int32) (a2 : Int32) (ls : eL) (h : eH), ru 30 76 ls [.int a2, .int a1, .ref a0] h = cl (den 29 [.ref a0, .int a1, .int a2] h) (fun v h => ru 30 79 ls (v.toList ++ []) h)) ∧
  (∀ (v : Nat) (t : eL) (st : List Value) (h : eH), ru 30 79 (some (.ref v) :: t) st h = ru 30 80 (some (.ref v) :: t) (.ref v :: st) h) ∧
  (∀ (v : Nat) (t : eL) (st : List Value) (h : eH), ru 30 80 (some (.ref v) :: t) st h = ru 30 81 (some (.ref v) :: t) (.ref v :: st) h) ∧
  (∀ (x0 : Option Value) (v : Int32) (t : eL) (st : List Value) (h : eH), ru 30 81 (x0 :: some (.int v) :: t) st h = ru 30 82 (x0 :: some (.int v) :: t) (.int v :: st) h) ∧
  (∀ (x0 x1 x2 : Option Value) (v : Int32) (t : eL) (st : List Value) (h : eH), ru 30 82 (x0 :: x1 :: x2 :: some (.int v) :: t) st h = ru 30 83 (x0 :: x1 :: x2 :: some (.int v) :: t) (.int v :: st) h) ∧
  (∀ (a0 : Nat) (a1 : Int32) (a2 : Int32) (u0 : Nat) (ls : eL) (h : eH), ru 30 83 ls [.int a2, .int a1, .ref a0, .ref u0] h = cl (den 21 [.ref a0, .int a1, .int a2] h) (fun v h => ru 30 86 ls (v.toList ++ [.ref u0]) h)) ∧
  (∀ (ls : eL) (st : List Value) (h : eH), ru 30 86 ls st h = ru 30 88 ls (.int (nI 6) :: st) h) ∧
  (∀ (a0 : Nat) (a1 : Int32) (a2 : Int32) (ls : eL) (h : eH), ru 30 88 ls [.int a2, .int a1, .ref a0] h = cl (den 20 [.ref a0, .int a1, .int a2] h) (fun v h => ru 30 91 ls (v.toList ++ []) h)) ∧
  (∀ (x0 x1 x2 : Option Value) (v : Int32) (t : eL) (st : List Value) (h : eH), ru 30 91 (x0 :: x1 :: x2 :: some (.int v) :: t) st h = ru 30 94 (x0 :: x1 :: eKl x2 :: some (.int (v + 1)) :: t) st h) ∧
  (∀ (ls : eL) (st : List Value) (h : eH), ru 30 94 ls st h = ru 30 14 ls st h) ∧
  (∀ (ls : eL) (h : eH), ru 30 97 ls [] h = some (none, h)) := ⟨fun v t st h => ru_go rfl rfl,
  fun ls st h => ru_go rfl rfl,
  fun v t st h => ru_go rfl rfl,
  fun x0 v t st h => ru_go rfl rfl,
  fun x0 x1 v t st h => ru_go rfl rfl,
  fun a0 a1 a2 u0 u1 ls h => ru_inv rfl (by decide) rfl (Nat.le_of_ble_eq_true rfl),
  fun a0 a1 a2 ls h => ru_inv rfl (by decide) rfl (Nat.le_of_ble_eq_true rfl),
  fun ls st h => ru_go rfl rfl,
  fun x0 x1 x2 x3 v t st h => ru_go rfl rfl,
  fun v t st h => ru_go rfl rfl,
  fun a ls st h => ru_getf rfl,
  fun x y ls st h => ru_if rfl rfl,
  fun v t st h => ru_go rfl rfl,
  fun ls st h => ru_go rfl rfl,
  fun v t st h => ru_go rfl rfl,
  fun x0 v t st h => ru_go rfl rfl,
  fun x0 x1 x2 v t st h => ru_go rfl rfl,
  fun a0 a1 a2 u0 u1 ls h => ru_inv rfl (by decide) rfl (Nat.le_of_ble_eq_true rfl),
  fun v t st h => ru_go rfl rfl,
  fun v t st h => ru_go rfl rfl,
  fun a ls st h => ru_getf rfl,
  fun x0 x1 v t st h => ru_go rfl rfl,
  fun a0 a1 a2 u0 u1 u2 ls h => ru_inv rfl (by decide) rfl (Nat.le_of_ble_eq_true rfl),
  fun a0 a1 a2 a3 ls h => ru_inv rfl (by decide) rfl (Nat.le_of_ble_eq_true rfl),
  fun v t st h => ru_go rfl rfl,
  fun ls st h => ru_go rfl rfl,
  fun ls st h => ru_go rfl rfl,
  fun v t st h => ru_go rfl rfl,
  fun v t st h => ru_go rfl rfl,
  fun a ls st h => ru_getf rfl,
  fun x0 x1 x2 v t st h => ru_go rfl rfl,
  fun a0 a1 a2 u0 u1 u2 ls h => ru_inv rfl (by decide) rfl (Nat.le_of_ble_eq_true rfl),
  fun a0 a1 a2 a3 ls h => ru_inv rfl (by decide) rfl (Nat.le_of_ble_eq_true rfl),
  fun v t st h => ru_go rfl rfl,
  fun ls st h => ru_go rfl rfl,
  fun ls st h => ru_go rfl rfl,
  fun ls st h => ru_go rfl rfl,
  fun a0 a1 a2 a3 ls h => ru_inv rfl (by decide) rfl (Nat.le_of_ble_eq_true rfl),
  fun v t st h => ru_go rfl rfl,
  fun ls st h => ru_go rfl rfl,
  fun ls st h => ru_go rfl rfl,
  fun a0 a1 a2 ls h => ru_inv rfl (by decide) rfl (Nat.le_of_ble_eq_true rfl),
  fun v t st h => ru_go rfl rfl,
  fun v t st h => ru_go rfl rfl,
  fun x0 v t st h => ru_go rfl rfl,
  fun x0 x1 x2 v t st h => ru_go rfl rfl,
  fun a0 a1 a2 u0 ls h => ru_inv rfl (by decide) rfl (Nat.le_of_ble_eq_true rfl),
  fun ls st h => ru_go rfl rfl,
  fun a0 a1 a2 ls h => ru_inv rfl (by decide) rfl (Nat.le_of_ble_eq_true rfl),
  fun x0 x1 x2 v t st h => ru_go rfl rfl,
  fun ls st h => ru_go rfl rfl,
  fun ls h => ru_ret rfl rfl⟩
theorem E30 (a0 : Nat) (a1 : Int32) (a2 : Int32) {h : eH} {fs : List Value} (ha : h.1 a0 = .inr (11, fs)) : den 30 [.ref a0, .int a1, .int a2] h = ru 30 0 [some (.ref a0), some (.int a1), some (.int a2), none] [] h := den_ob (Nat.le_of_ble_eq_true rfl) ha
/-! 31 X11_clear -/
set_option maxRecDepth 100000 in
theorem H31_14 : (∀ (x0 x1 : Option Value) (v : Int32) (t : eL) (st : List Value) (h : eH), ru 31 14 (x0 :: x1 :: some (.int v) :: t) st h = ru 31 15 (x0 :: x1 :: some (.int v) :: t) (.int v :: st) h) := fun x0 x1 v t st h => ru_go rfl rfl
set_option maxRecDepth 100000 in
theorem H31_31 : (∀ (x0 x1 x2 : Option Value) (v : Int32) (t : eL) (st : List Value) (h : eH), ru 31 31 (x0 :: x1 :: x2 :: some (.int v) :: t) st h = ru 31 32 (x0 :: x1 :: x2 :: some (.int v) :: t) (.int v :: st) h) := fun x0 x1 x2 v t st h => ru_go rfl rfl
set_option maxRecDepth 100000 in
theorem H31_58 : (∀ (x0 x1 x2 : Option Value) (v : Int32) (t : eL) (st : List Value) (h : eH), ru 31 58 (x0 :: x1 :: x2 :: some (.int v) :: t) st h = ru 31 59 (x0 :: x1 :: x2 :: some (.int v) :: t) (.int v :: st) h) := fun x0 x1 x2 v t st h => ru_go rfl rfl
set_option maxRecDepth 100000 in
theorem H31_72 : (∀ (x0 x1 x2 x3 : Option Value) (v : Int32) (t : eL) (st : List Value) (h : eH), ru 31 72 (x0 :: x1 :: x2 :: x3 :: some (.int v) :: t) st h = ru 31 74 (x0 :: x1 :: x2 :: x3 :: some (.int v) :: t) (.int v :: st) h) := fun x0 x1 x2 x3 v t st h => ru_go rfl rfl
set_option maxRecDepth 100000 in
theorem H31_145 : (∀ (ls : eL) (st : List Value) (h : eH), ru 31 145 ls st h = ru 31 146 ls (.int (nI 0) :: st) h) := fun ls st h => ru_go rfl rfl
set_option maxRecDepth 100000 in
theorem H31_148 : (∀ (x0 x1 x2 x3 : Option Value) (v : Int32) (t : eL) (st : List Value) (h : eH), ru 31 148 (x0 :: x1 :: x2 :: x3 :: some (.int v) :: t) st h = ru 31 150 (x0 :: x1 :: x2 :: x3 :: some (.int v) :: t) (.int v :: st) h) := fun x0 x1 x2 x3 v t st h => ru_go rfl rfl
set_option maxRecDepth 100000 in
theorem H31_179 : (∀ (v : Nat) (t : eL) (st : List Value) (h : eH), ru 31 179 (some (.ref v) :: t) st h = ru 31 180 (some (.ref v) :: t) (.ref v :: st) h) := fun v t st h => ru_go rfl rfl
set_option maxRecDepth 100000 in
theorem S31 : (∀ (v : Nat) (t : eL) (st : List Value) (h : eH), ru 31 0 (some (.ref v) :: t) st h = ru 31 1 (some (.ref v) :: t) (.ref v :: st) h) ∧
  (∀ (ls : eL) (st : List Value) (h : eH), ru 31 1 ls st h = ru 31 2 ls (.int (nI 0) :: st) h) ∧
  (∀ (v : Int32) (a : Nat) (ls : eL) (st : List Value) (h : eH), ru 31 2 ls (.int v :: .ref a :: st) h = pF (h.1 a) 11 21 (.int v) (fun e => ru 31 5 ls st (eUp h a e))) ∧
  (∀ (v : Nat) (t : eL) (st : List Value) (h : eH), ru 31 5 (some (.ref v) :: t) st h = ru 31 6 (some (.ref v) :: t) (.ref v :: st) h) ∧
  (∀ (ls : eL) (st : List Value) (h : eH), ru 31 6 ls st h = ru 31 8 ls (.int (nI 8) :: st) h) ∧
  (∀ (ls : eL) (st : List Value) (h : eH), ru 31 8 ls st h = ru 31 9 ls (.long (lN 1) :: st) h) ∧
  (∀ (a0 : Nat) (a1 : Int32) (a2 : Int64) (ls : eL) (h : eH), ru 31 9 ls [.long a2, .int a1, .ref a0] h = cl (den 12 [.ref a0, .int a1, .long a2] h) (fun v h => ru 31 12 ls (v.toList ++ []) h)) ∧
  (∀ (ls : eL) (st : List Value) (h : eH), ru 31 12 ls st h = ru 31 13 ls (.int (nI 0) :: st) h) ∧
  (∀ (x0 x1 x2 : Option Value) (v : Int32) (t : eL) (st : List Value) (h : eH), ru 31 13 (x0 :: x1 :: x2 :: t) (.int v :: st) h = ru 31 14 (x0 :: eKl x1 :: some (.int v) :: t) st h) ∧
  (∀ (x0 : Option Value) (v : Int32) (t : eL) (st : List Value) (h : eH), ru 31 15 (x0 :: some (.int v) :: t) st h = ru 31 16 (x0 :: some (.int v) :: t) (.int v :: st) h) ∧
  (∀ (x y : Int32) (ls : eL) (st : List Value) (h : eH), ru 31 16 ls (.int y :: .int x :: st) h = if y ≤ x then ru 31 220 ls st h else ru 31 19 ls st h) ∧
  (∀ (v : Nat) (t : eL) (st : List Value) (h : eH), ru 31 19 (some (.ref v) :: t) st h = ru 31 20 (some (.ref v) :: t) (.ref v :: st) h) ∧
  (∀ (a : Nat) (ls : eL) (st : List Value) (h : eH), ru 31 20 ls (.ref a :: st) h = gF (h.1 a) 11 22 (fun v => ru 31 23 ls (v :: st) h)) ∧
  (∀ (x0 x1 : Option Value) (v : Int32) (t : eL) (st : List Value) (h : eH), ru 31 23 (x0 :: x1 :: some (.int v) :: t) st h = ru 31 24 (x0 :: x1 :: some (.int v) :: t) (.int v :: st) h) ∧
  (∀ (ls : eL) (st : List Value) (h : eH), ru 31 24 ls st h = ru 31 25 ls (.int ((-1)) :: st) h) ∧
  (∀ (x : Int32) (i : Int32) (a : Nat) (ls : eL) (st : List Value) (h : eH), ru 31 25 ls (.int x :: .int i :: .ref a :: st) h = wI (h.1 a) i x (fun e => ru 31 26 ls st (eUp h a e))) ∧
  (∀ (v : Nat) (t : eL) (st : List Value) (h : eH), ru 31 26 (some (.ref v) :: t) st h = ru 31 27 (some (.ref v) :: t) (.ref v :: st) h) ∧
  (∀ (a : Nat) (ls : eL) (st : List Value) (h : eH), ru 31 27 ls (.ref a :: st) h = gF (h.1 a) 11 21 (fun v => ru 31 30 ls (v :: st) h)) ∧
  (∀ (x0 x1 x2 x3 : Option Value) (v : Int32) (t : eL) (st : List Value) (h : eH), ru 31 30 (x0 :: x1 :: x2 :: x3 :: t) (.int v :: st) h = ru 31 31 (x0 :: x1 :: eKl x2 :: some (.int v) :: t) st h) ∧
  (∀ (v : Nat) (t : eL) (st : List Value) (h : eH), ru 31 32 (some (.ref v) :: t) st h = ru 31 33 (some (.ref v) :: t) (.ref v :: st) h) ∧
  (∀ (a : Nat) (ls : eL) (st : List Value) (h : eH), ru 31 33 ls (.ref a :: st) h = gF (h.1 a) 11 19 (fun v => ru 31 36 ls (v :: st) h)) ∧
  (∀ (x y : Int32) (ls : eL) (st : List Value) (h : eH), ru 31 36 ls (.int y :: .int x :: st) h = if y ≤ x then ru 31 58 ls st h else ru 31 39 ls st h) ∧
  (∀ (v : Nat) (t : eL) (st : List Value) (h : eH), ru 31 39 (some (.ref v) :: t) st h = ru 31 40 (some (.ref v) :: t) (.ref v :: st) h) ∧
  (∀ (v : Nat) (t : eL) (st : List Value) (h : eH), ru 31 40 (some (.ref v) :: t) st h = ru 31 41 (some (.ref v) :: t) (.ref v :: st) h) ∧
  (∀ (x0 x1 x2 : Option Value) (v : Int32) (t : eL) (st : List Value) (h : eH), ru 31 41 (x0 :: x1 :: x2 :: some (.int v) :: t) st h = ru 31 42 (x0 :: x1 :: x2 :: some (.int v) :: t) (.int v :: st) h) ∧
  (∀ (x0 x1 : Option Value) (v : Int32) (t : eL) (st : List Value) (h : eH), ru 31 42 (x0 :: x1 :: some (.int v) :: t) st h = ru 31 43 (x0 :: x1 :: some (.int v) :: t) (.int v :: st) h) ∧
  (∀ (a0 : Nat) (a1 : Int32) (a2 : Int32) (u0 : Nat) (ls : eL) (h : eH), ru 31 43 ls [.int a2, .int a1, .ref a0, .ref u0] h = cl (den 21 [.ref a0, .int a1, .int a2] h) (fun v h => ru 31 46 ls (v.toList ++ [.ref u0]) h)) ∧
  (∀ (a0 : Nat) (a1 : Int32) (ls : eL) (h : eH), ru 31 46 ls [.int a1, .ref a0] h = cl (den 25 [.ref a0, .int a1] h) (fun v h => ru 31 49 ls (v.toList ++ []) h)) ∧
  (∀ (x : Int32) (ls : eL) (st : List Value) (h : eH), ru 31 49 ls (.int x :: st) h = if x = 0 then ru 31 58 ls st h else ru 31 52 ls st h) ∧
  (∀ (x0 x1 x2 : Option Value) (v : Int32) (t : eL) (st : List Value) (h : eH), ru 31 52 (x0 :: x1 :: x2 :: some (.int v) :: t) st h = ru 31 55 (x0 :: x1 :: eKl x2 :: some (.int (v + 1)) :: t) st h) ∧
  (∀ (ls : eL) (st : List Value) (h : eH), ru 31 55 ls st h = ru 31 31 ls st h) ∧
  (∀ (v : Nat) (t : eL) (st : List Value) (h : eH), ru 31 59 (some (.ref v) :: t) st h = ru 31 60 (some (.ref v) :: t) (.ref v :: st) h) ∧
  (∀ (a : Nat) (ls : eL) (st : List Value) (h : eH), ru 31 60 ls (.ref a :: st) h = gF (h.1 a) 11 19 (fun v => ru 31 63 ls (v :: st) h)) ∧
  (∀ (x y : Int32) (ls : eL) (st : List Value) (h : eH), ru 31 63 ls (.int y :: .int x :: st) h = if x = y then ru 31 66 ls st h else ru 31 69 ls st h) ∧
  (∀ (ls : eL) (st : List Value) (h : eH), ru 31 66 ls st h = ru 31 214 ls st h) ∧
  (∀ (ls : eL) (st : List Value) (h : eH), ru 31 69 ls st h = ru 31 70 ls (.int (nI 0) :: st) h) ∧
  (∀ (x0 x1 x2 x3 x4 : Option Value) (v : Int32) (t : eL) (st : List Value) (h : eH), ru 31 70 (x0 :: x1 :: x2 :: x3 :: x4 :: t) (.int v :: st) h = ru 31 72 (x0 :: x1 :: x2 :: eKl x3 :: some (.int v) :: t) st h) ∧
  (∀ (v : Nat) (t : eL) (st : List Value) (h : eH), ru 31 74 (some (.ref v) :: t) st h = ru 31 75 (some (.ref v) :: t) (.ref v :: st) h) ∧
  (∀ (a : Nat) (ls : eL) (st : List Value) (h : eH), ru 31 75 ls (.ref a :: st) h = gF (h.1 a) 11 20 (fun v => ru 31 78 ls (v :: st) h)) ∧
  (∀ (x y : Int32) (ls : eL) (st : List Value) (h : eH), ru 31 78 ls (.int y :: .int x :: st) h = if y ≤ x then ru 31 145 ls st h else ru 31 81 ls st h) ∧
  (∀ (x0 x1 x2 : Option Value) (v : Int32) (t : eL) (st : List Value) (h : eH), ru 31 81 (x0 :: x1 :: x2 :: some (.int v) :: t) st h = ru 31 82 (x0 :: x1 :: x2 :: some (.int v) :: t) (.int v :: st) h) ∧
  (∀ (v : Nat) (t : eL) (st : List Value) (h : eH), ru 31 82 (some (.ref v) :: t) st h = ru 31 83 (some (.ref v) :: t) (.ref v :: st) h) ∧
  (∀ (a : Nat) (ls : eL) (st : List Value) (h : eH), ru 31 83 ls (.ref a :: st) h = gF (h.1 a) 11 21 (fun v => ru 31 86 ls (v :: st) h)) ∧
  (∀ (x y : Int32) (ls : eL) (st : List Value) (h : eH), ru 31 86 ls (.int y :: .int x :: st) h = if x = y then ru 31 145 ls st h else ru 31 89 ls st h) ∧
  (∀ (v : Nat) (t : eL) (st : List Value) (h : eH), ru 31 89 (some (.ref v) :: t) st h = ru 31 90 (some (.ref v) :: t) (.ref v :: st) h) ∧
  (∀ (ls : eL) (st : List Value) (h : eH), ru 31 90 ls st h = ru 31 92 ls (.int (nI 9) :: st) h) ∧
  (∀ (v : Nat) (t : eL) (st : List Value) (h : eH), ru 31 92 (some (.ref v) :: t) st h = ru 31 93 (some (.ref v) :: t) (.ref v :: st) h) ∧
  (∀ (x0 x1 x2 : Option Value) (v : Int32) (t : eL) (st : List Value) (h : eH), ru 31 93 (x0 :: x1 :: x2 :: some (.int v) :: t) st h = ru 31 94 (x0 :: x1 :: x2 :: some (.int v) :: t) (.int v :: st) h) ∧
  (∀ (x0 x1 x2 x3 : Option Value) (v : Int32) (t : eL) (st : List Value) (h : eH), ru 31 94 (x0 :: x1 :: x2 :: x3 :: some (.int v) :: t) st h = ru 31 96 (x0 :: x1 :: x2 :: x3 :: some (.int v) :: t) (.int v :: st) h) ∧
  (∀ (a0 : Nat) (a1 : Int32) (a2 : Int32) (u0 : Int32) (u1 : Nat) (ls : eL) (h : eH), ru 31 96 ls [.int a2, .int a1, .ref a0, .int u0, .ref u1] h = cl (den 21 [.ref a0, .int a1, .int a2] h) (fun v h => ru 31 99 ls (v.toList ++ [.int u0, .ref u1]) h)) ∧
  (∀ (a0 : Nat) (a1 : Int32) (a2 : Int32) (ls : eL) (h : eH), ru 31 99 ls [.int a2, .int a1, .ref a0] h = cl (den 20 [.ref a0, .int a1, .int a2] h) (fun v h => ru 31 102 ls (v.toList ++ []) h)) ∧
  (∀ (v : Nat) (t : eL) (st : List Value) (h : eH), ru 31 102 (some (.ref v) :: t) st h = ru 31 103 (some (.ref v) :: t) (.ref v :: st) h) ∧
  (∀ (v : Nat) (t : eL) (st : List Value) (h : eH), ru 31 103 (some (.ref v) :: t) st h = ru 31 104 (some (.ref v) :: t) (.ref v :: st) h) ∧
  (∀ (x0 x1 x2 : Option Value) (v : Int32) (t : eL) (st : List Value) (h : eH), ru 31 104 (x0 :: x1 :: x2 :: some (.int v) :: t) st h = ru 31 105 (x0 :: x1 :: x2 :: some (.int v) :: t) (.int v :: st) h) ∧
  (∀ (x0 x1 x2 x3 : Option Value) (v : Int32) (t : eL) (st : List Value) (h : eH), ru 31 105 (x0 :: x1 :: x2 :: x3 :: some (.int v) :: t) st h = ru 31 107 (x0 :: x1 :: x2 :: x3 :: some (.int v) :: t) (.int v :: st) h) ∧
  (∀ (a0 : Nat) (a1 : Int32) (a2 : Int32) (u0 : Nat) (ls : eL) (h : eH), ru 31 107 ls [.int a2, .int a1, .ref a0, .ref u0] h = cl (den 21 [.ref a0, .int a1, .int a2] h) (fun v h => ru 31 110 ls (v.toList ++ [.ref u0]) h)) ∧
  (∀ (v : Nat) (t : eL) (st : List Value) (h : eH), ru 31 110 (some (.ref v) :: t) st h = ru 31 111 (some (.ref v) :: t) (.ref v :: st) h) ∧
  (∀ (v : Nat) (t : eL) (st : List Value) (h : eH), ru 31 111 (some (.ref v) :: t) st h = ru 31 112 (some (.ref v) :: t) (.ref v :: st) h) ∧
  (∀ (a : Nat) (ls : eL) (st : List Value) (h : eH), ru 31 112 ls (.ref a :: st) h = gF (h.1 a) 11 21 (fun v => ru 31 115 ls (v :: st) h)) ∧
  (∀ (x0 x1 x2 x3 : Option Value) (v : Int32) (t : eL) (st : List Value) (h : eH), ru 31 115 (x0 :: x1 :: x2 :: x3 :: some (.int v) :: t) st h = ru 31 117 (x0 :: x1 :: x2 :: x3 :: some (.int v) :: t) (.int v :: st) h) ∧
  (∀ (a0 : Nat) (a1 : Int32) (a2 : Int32) (u0 : Int32) (u1 : Nat) (ls : eL) (h : eH), ru 31 117 ls [.int a2, .int a1, .ref a0, .int u0, .ref u1] h = cl (den 21 [.ref a0, .int a1, .int a2] h) (fun v h => ru 31 120 ls (v.toList ++ [.int u0, .ref u1]) h)) ∧
  (∀ (a0 : Nat) (a1 : Int32) (a2 : Int32) (ls : eL) (h : eH), ru 31 120 ls [.int a2, .int a1, .ref a0] h = cl (den 20 [.ref a0, .int a1, .int a2] h) (fun v h => ru 31 123 ls (v.toList ++ []) h)) ∧
  (∀ (v : Nat) (t : eL) (st : List Value) (h : eH), ru 31 123 (some (.ref v) :: t) st h = ru 31 124 (some (.ref v) :: t) (.ref v :: st) h) ∧
  (∀ (v : Nat) (t : eL) (st : List Value) (h : eH), ru 31 124 (some (.ref v) :: t) st h = ru 31 125 (some (.ref v) :: t) (.ref v :: st) h) ∧
  (∀ (v : Nat) (t : eL) (st : List Value) (h : eH), ru 31 125 (some (.ref v) :: t) st h = ru 31 126 (some (.ref v) :: t) (.ref v :: st) h) ∧
  (∀ (a : Nat) (ls : eL) (st : List Value) (h : eH), ru 31 126 ls (.ref a :: st) h = gF (h.1 a) 11 21 (fun v => ru 31 129 ls (v :: st) h)) ∧
  (∀ (x0 x1 x2 x3 : Option Value) (v : Int32) (t : eL) (st : List Value) (h : eH), ru 31 129 (x0 :: x1 :: x2 :: x3 :: some (.int v) :: t) st h = ru 31 131 (x0 :: x1 :: x2 :: x3 :: some (.int v) :: t) (.int v :: st) h) ∧
  (∀ (a0 : Nat) (a1 : Int32) (a2 : Int32) (u0 : Nat) (ls : eL) (h : eH), ru 31 131 ls [.int a2, .int a1, .ref a0, .ref u0] h = cl (den 21 [.ref a0, .int a1, .int a2] h) (fun v h => ru 31 134 ls (v.toList ++ [.ref u0]) h)) ∧
  (∀ (ls : eL) (st : List Value) (h : eH), ru 31 134 ls st h = ru 31 136 ls (.int (nI 9) :: st) h) ∧
  (∀ (a0 : Nat) (a1 : Int32) (a2 : Int32) (ls : eL) (h : eH), ru 31 136 ls [.int a2, .int a1, .ref a0] h = cl (den 20 [.ref a0, .int a1, .int a2] h) (fun v h => ru 31 139 ls (v.toList ++ []) h)) ∧
  (∀ (x0 x1 x2 x3 : Option Value) (v : Int32) (t : eL) (st : List Value) (h : eH), ru 31 139 (x0 :: x1 :: x2 :: x3 :: some (.int v) :: t) st h = ru 31 142 (x0 :: x1 :: x2 :: eKl x3 :: some (.int (v + 1)) :: t) st h) ∧
  (∀ (ls : eL) (st : List Value) (h : eH), ru 31 142 ls st h = ru 31 72 ls st h) ∧
  (∀ (x0 x1 x2 x3 x4 : Option Value) (v : Int32) (t : eL) (st : List Value) (h : eH), ru 31 146 (x0 :: x1 :: x2 :: x3 :: x4 :: t) (.int v :: st) h = ru 31 148 (x0 :: x1 :: x2 :: eKl x3 :: some (.int v) :: t) st h) ∧
  (∀ (v : Nat) (t : eL) (st : List Value) (h : eH), ru 31 150 (some (.ref v) :: t) st h = ru 31 151 (some (.ref v) :: t) (.ref v :: st) h) ∧
  (∀ (a : Nat) (ls : eL) (st : List Value) (h : eH), ru 31 151 ls (.ref a :: st) h = gF (h.1 a) 11 19 (fun v => ru 31 154 ls (v :: st) h)) ∧
  (∀ (x y : Int32) (ls : eL) (st : List Value) (h : eH), ru 31 154 ls (.int y :: .int x :: st) h = if y ≤ x then ru 31 179 ls st h else ru 31 157 ls st h) ∧
  (∀ (x0 x1 x2 x3 : Option Value) (v : Int32) (t : eL) (st : List Value) (h : eH), ru 31 157 (x0 :: x1 :: x2 :: x3 :: some (.int v) :: t) st h = ru 31 159 (x0 :: x1 :: x2 :: x3 :: some (.int v) :: t) (.int v :: st) h) ∧
  (∀ (v : Nat) (t : eL) (st : List Value) (h : eH), ru 31 159 (some (.ref v) :: t) st h = ru 31 160 (some (.ref v) :: t) (.ref v :: st) h) ∧
  (∀ (a : Nat) (ls : eL) (st : List Value) (h : eH), ru 31 160 ls (.ref a :: st) h = gF (h.1 a) 11 21 (fun v => ru 31 163 ls (v :: st) h)) ∧
  (∀ (x y : Int32) (ls : eL) (st : List Value) (h : eH), ru 31 163 ls (.int y :: .int x :: st) h = if x = y then ru 31 173 ls st h else ru 31 166 ls st h) ∧
  (∀ (v : Nat) (t : eL) (st : List Value) (h : eH), ru 31 166 (some (.ref v) :: t) st h = ru 31 167 (some (.ref v) :: t) (.ref v :: st) h) ∧
  (∀ (x0 x1 x2 x3 : Option Value) (v : Int32) (t : eL) (st : List Value) (h : eH), ru 31 167 (x0 :: x1 :: x2 :: x3 :: some (.int v) :: t) st h = ru 31 169 (x0 :: x1 :: x2 :: x3 :: some (.int v) :: t) (.int v :: st) h) ∧
  (∀ (x0 x1 : Option Value) (v : Int32) (t : eL) (st : List Value) (h : eH), ru 31 169 (x0 :: x1 :: some (.int v) :: t) st h = ru 31 170 (x0 :: x1 :: some (.int v) :: t) (.int v :: st) h) ∧
  (∀ (a0 : Nat) (a1 : Int32) (a2 : Int32) (ls : eL) (h : eH), ru 31 170 ls [.int a2, .int a1, .ref a0] h = cl (den 30 [.ref a0, .int a1, .int a2] h) (fun v h => ru 31 173 ls (v.toList ++ []) h)) ∧
  (∀ (x0 x1 x2 x3 : Option Value) (v : Int32) (t : eL) (st : List Value) (h : eH), ru 31 173 (x0 :: x1 :: x2 :: x3 :: some (.int v) :: t) st h = ru 31 176 (x0 :: x1 :: x2 :: eKl x3 :: some (.int (v + 1)) :: t) st h) ∧
  (∀ (ls : eL) (st : List Value) (h : eH), ru 31 176 ls st h = ru 31 148 ls st h) ∧
  (∀ (ls : eL) (st : List Value) (h : eH), ru 31 180 ls st h = ru 31 182 ls (.int (nI 8) :: st) h) ∧
  (∀ (v : Nat) (t : eL) (st : List Value) (h : eH), ru 31 182 (some (.ref v) :: t) st h = ru 31 183 (some (.ref v) :: t) (.ref v :: st) h) ∧
  (∀ (v : Nat) (t : eL) (st : List Value) (h : eH), ru 31 183 (some (.ref v) :: t) st h = ru 31 184 (some (.ref v) :: t) (.ref v :: st) h) ∧
  (∀ (a : Nat) (ls : eL) (st : List Value) (h : eH), ru 31 184 ls (.ref a :: st) h = gF (h.1 a) 11 21 (fun v => ru 31 187 ls (v :: st) h)) ∧
  (∀ (x0 x1 : Option Value) (v : Int32) (t : eL) (st : List Value) (h : eH), ru 31 187 (x0 :: x1 :: some (.int v) :: t) st h = ru 31 188 (x0 :: x1 :: some (.int v) :: t) (.int v :: st) h) ∧
  (∀ (a0 : Nat) (a1 : Int32) (a2 : Int32) (u0 : Int32) (u1 : Nat) (ls : eL) (h : eH), ru 31 188 ls [.int a2, .int a1, .ref a0, .int u0, .ref u1] h = cl (den 21 [.ref a0, .int a1, .int a2] h) (fun v h => ru 31 191 ls (v.toList ++ [.int u0, .ref u1]) h)) ∧
  (∀ (a0 : Nat) (a1 : Int32) (a2 : Int32) (ls : eL) (h : eH), ru 31 191 ls [.int a2, .int a1, .ref a0] h = cl (den 20 [.ref a0, .int a1, .int a2] h) (fun v h => ru 31 194 ls (v.toList ++ []) h)) ∧
  (∀ (v : Nat) (t : eL) (st : List Value) (h : eH), ru 31 194 (some (.ref v) :: t) st h = ru 31 195 (some (.ref v) :: t) (.ref v :: st) h) ∧
  (∀ (a : Nat) (ls : eL) (st : List Value) (h : eH), ru 31 195 ls (.ref a :: st) h = gF (h.1 a) 11 22 (fun v => ru 31 198 ls (v :: st) h)) ∧
  (∀ (x0 x1 : Option Value) (v : Int32) (t : eL) (st : List Value) (h : eH), ru 31 198 (x0 :: x1 :: some (.int v) :: t) st h = ru 31 199 (x0 :: x1 :: some (.int v) :: t) (.int v :: st) h) ∧
  (∀ (v : Nat) (t : eL) (st : List Value) (h : eH), ru 31 199 (some (.ref v) :: t) st h = ru 31 200 (some (.ref v) :: t) (.ref v :: st) h) ∧
  (∀ (a : Nat) (ls : eL) (st : List Value) (h : eH), ru 31 200 ls (.ref a :: st) h = gF (h.1 a) 11 21 (fun v => ru 31 203 ls (v :: st) h)) ∧
  (∀ (x : Int32) (i : Int32) (a : Nat) (ls : eL) (st : List Value) (h : eH), ru 31 203 ls (.int x :: .int i :: .ref a :: st) h = wI (h.1 a) i x (fun e => ru 31 204 ls st (eUp h a e))) ∧
  (∀ (v : Nat) (t : eL) (st : List Value) (h : eH), ru 31 204 (some (.ref v) :: t) st h = ru 31 205 (some (.ref v) :: t) (.ref v :: st) h) ∧
  (∀ (x : Nat) (ls : eL) (st : List Value) (h : eH), ru 31 205 ls (.ref x :: st) h = ru 31 206 ls (.ref x :: .ref x :: st) h) ∧
  (∀ (a : Nat) (ls : eL) (st : List Value) (h : eH), ru 31 206 ls (.ref a :: st) h = gF (h.1 a) 11 21 (fun v => ru 31 209 ls (v :: st) h)) ∧
  (∀ (ls : eL) (st : List Value) (h : eH), ru 31 209 ls st h = ru 31 210 ls (.int (nI 1) :: st) h) ∧
  (∀ (x y : Int32) (ls : eL) (st : List Value) (h : eH), ru 31 210 ls (.int y :: .int x :: st) h = ru 31 211 ls (.int (x + y) :: st) h) ∧
  (∀ (v : Int32) (a : Nat) (ls : eL) (st : List Value) (h : eH), ru 31 211 ls (.int v :: .ref a :: st) h = pF (h.1 a) 11 21 (.int v) (fun e => ru 31 214 ls st (eUp h a e))) ∧
  (∀ (x0 x1 : Option Value) (v : Int32) (t : eL) (st : List Value) (h : eH), ru 31 214 (x0 :: x1 :: some (.int v) :: t) st h = ru 31 217 (x0 :: eKl x1 :: some (.int (v + 1)) :: t) st h) ∧
  (∀ (ls : eL) (st : List Value) (h : eH), ru 31 217 ls st h = ru 31 14 ls st h) ∧
  (∀ (ls : eL) (h : eH), ru 31 220 ls [] h = some (none, h)) := ⟨fun v t st h => ru_go rfl rfl,
  fun ls st h => ru_go rfl rfl,
  fun v a ls st h => ru_putf rfl,
  fun v t st h => ru_go rfl rfl,
  fun ls st h => ru_go rfl rfl,
  fun ls st h => ru_go rfl rfl,
  fun a0 a1 a2 ls h => ru_inv rfl (by decide) rfl (Nat.le_of_ble_eq_true rfl),
  fun ls st h => ru_go rfl rfl,
  fun x0 x1 x2 v t st h => ru_go rfl rfl,
  fun x0 v t st h => ru_go rfl rfl,
  fun x y ls st h => ru_if rfl rfl,
  fun v t st h => ru_go rfl rfl,
  fun a ls st h => ru_getf rfl,
  fun x0 x1 v t st h => ru_go rfl rfl,
  fun ls st h => ru_go rfl rfl,
  fun x i a ls st h => ru_iast rfl,
  fun v t st h => ru_go rfl rfl,
  fun a ls st h => ru_getf rfl,
  fun x0 x1 x2 x3 v t st h => ru_go rfl rfl,
  fun v t st h => ru_go rfl rfl,
  fun a ls st h => ru_getf rfl,
  fun x y ls st h => ru_if rfl rfl,
  fun v t st h => ru_go rfl rfl,
  fun v t st h => ru_go rfl rfl,
  fun x0 x1 x2 v t st h => ru_go rfl rfl,
  fun x0 x1 v t st h => ru_go rfl rfl,
  fun a0 a1 a2 u0 ls h => ru_inv rfl (by decide) rfl (Nat.le_of_ble_eq_true rfl),
  fun a0 a1 ls h => ru_inv rfl (by decide) rfl (Nat.le_of_ble_eq_true rfl),
  fun x ls st h => ru_if rfl rfl,
  fun x0 x1 x2 v t st h => ru_go rfl rfl,
  fun ls st h => ru_go rfl rfl,
  fun v t st h => ru_go rfl rfl,
  fun a ls st h => ru_getf rfl,
  fun x y ls st h => ru_if rfl rfl,
  fun ls st h => ru_go rfl rfl,
  fun ls st h => ru_go rfl rfl,
  fun x0 x1 x2 x3 x4 v t st h => ru_go rfl rfl,
  fun v t st h => ru_go rfl rfl,
  fun a ls st h => ru_getf rfl,
  fun x y ls st h => ru_if rfl rfl,
  fun x0 x1 x2 v t st h => ru_go rfl rfl,
  fun v t st h => ru_go rfl rfl,
  fun a ls st h => ru_getf rfl,
  fun x y ls st h => ru_if rfl rfl,
  fun v t st h => ru_go rfl rfl,
  fun ls st h => ru_go rfl rfl,
  fun v t st h => ru_go rfl rfl,
  fun x0 x1 x2 v t st h => ru_go rfl rfl,
  fun x0 x1 x2 x3 v t st h => ru_go rfl rfl,
  fun a0 a1 a2 u0 u1 ls h => ru_inv rfl (by decide) rfl (Nat.le_of_ble_eq_true rfl),
  fun a0 a1 a2 ls h => ru_inv rfl (by decide) rfl (Nat.le_of_ble_eq_true rfl),
  fun v t st h => ru_go rfl rfl,
  fun v t st h => ru_go rfl rfl,
  fun x0 x1 x2 v t st h => ru_go rfl rfl,
  fun x0 x1 x2 x3 v t st h => ru_go rfl rfl,
  fun a0 a1 a2 u0 ls h => ru_inv rfl (by decide) rfl (Nat.le_of_ble_eq_true rfl),
  fun v t st h => ru_go rfl rfl,
  fun v t st h => ru_go rfl rfl,
  fun a ls st h => ru_getf rfl,
  fun x0 x1 x2 x3 v t st h => ru_go rfl rfl,
  fun a0 a1 a2 u0 u1 ls h => ru_inv rfl (by decide) rfl (Nat.le_of_ble_eq_true rfl),
  fun a0 a1 a2 ls h => ru_inv rfl (by decide) rfl (Nat.le_of_ble_eq_true rfl),
  fun v t st h => ru_go rfl rfl,
  fun v t st h => ru_go rfl rfl,
  fun v t st h => ru_go rfl rfl,
  fun a ls st h => ru_getf rfl,
  fun x0 x1 x2 x3 v t st h => ru_go rfl rfl,
  fun a0 a1 a2 u0 ls h => ru_inv rfl (by decide) rfl (Nat.le_of_ble_eq_true rfl),
  fun ls st h => ru_go rfl rfl,
  fun a0 a1 a2 ls h => ru_inv rfl (by decide) rfl (Nat.le_of_ble_eq_true rfl),
  fun x0 x1 x2 x3 v t st h => ru_go rfl rfl,
  fun ls st h => ru_go rfl rfl,
  fun x0 x1 x2 x3 x4 v t st h => ru_go rfl rfl,
  fun v t st h => ru_go rfl rfl,
  fun a ls st h => ru_getf rfl,
  fun x y ls st h => ru_if rfl rfl,
  fun x0 x1 x2 x3 v t st h => ru_go rfl rfl,
  fun v t st h => ru_go rfl rfl,
  fun a ls st h => ru_getf rfl,
  fun x y ls st h => ru_if rfl rfl,
  fun v t st h => ru_go rfl rfl,
  fun x0 x1 x2 x3 v t st h => ru_go rfl rfl,
  fun x0 x1 v t st h => ru_go rfl rfl,
  fun a0 a1 a2 ls h => ru_inv rfl (by decide) rfl (Nat.le_of_ble_eq_true rfl),
  fun x0 x1 x2 x3 v t st h => ru_go rfl rfl,
  fun ls st h => ru_go rfl rfl,
  fun ls st h => ru_go rfl rfl,
  fun v t st h => ru_go rfl rfl,
  fun v t st h => ru_go rfl rfl,
  fun a ls st h => ru_getf rfl,
  fun x0 x1 v t st h => ru_go rfl rfl,
  fun a0 a1 a2 u0 u1 ls h => ru_inv rfl (by decide) rfl (Nat.le_of_ble_eq_true rfl),
  fun a0 a1 a2 ls h => ru_inv rfl (by decide) rfl (Nat.le_of_ble_eq_true rfl),
  fun v t st h => ru_go rfl rfl,
  fun a ls st h => ru_getf rfl,
  fun x0 x1 v t st h => ru_go rfl rfl,
  fun v t st h => ru_go rfl rfl,
  fun a ls st h => ru_getf rfl,
  fun x i a ls st h => ru_iast rfl,
  fun v t st h => ru_go rfl rfl,
  fun x ls st h => ru_go rfl rfl,
  fun a ls st h => ru_getf rfl,
  fun ls st h => ru_go rfl rfl,
  fun x y ls st h => ru_go rfl rfl,
  fun v a ls st h => ru_putf rfl,
  fun x0 x1 v t st h => ru_go rfl rfl,
  fun ls st h => ru_go rfl rfl,
  fun ls h => ru_ret rfl rfl⟩
theorem E31 (a0 : Nat) (a1 : Int32) {h : eH} {fs : List Value} (ha : h.1 a0 = .inr (11, fs)) : den 31 [.ref a0, .int a1] h = ru 31 0 [some (.ref a0), some (.int a1), none, none, none] [] h := den_ob (Nat.le_of_ble_eq_true rfl) ha
/-! 32 X11_evens -/
set_option maxRecDepth 100000 in
theorem H32_22 : (∀ (x0 : Option Value) (v : Int32) (t : eL) (st : List Value) (h : eH), ru 32 22 (x0 :: some (.int v) :: t) st h = ru 32 23 (x0 :: some (.int v) :: t) (.int v :: st) h) := fun x0 v t st h => ru_go rfl rfl
set_option maxRecDepth 100000 in
theorem H32_32 : (∀ (x0 x1 : Option Value) (v : Int32) (t : eL) (st : List Value) (h : eH), ru 32 32 (x0 :: x1 :: some (.int v) :: t) st h = ru 32 33 (x0 :: x1 :: some (.int v) :: t) (.int v :: st) h) := fun x0 x1 v t st h => ru_go rfl rfl
set_option maxRecDepth 100000 in
theorem H32_59 : (∀ (x0 x1 x2 x3 : Option Value) (v : Int32) (t : eL) (st : List Value) (h : eH), ru 32 59 (x0 :: x1 :: x2 :: x3 :: some (.int v) :: t) st h = ru 32 61 (x0 :: x1 :: x2 :: x3 :: some (.int v) :: t) (.int v :: st) h) := fun x0 x1 x2 x3 v t st h => ru_go rfl rfl
set_option maxRecDepth 100000 in
theorem H32_94 : (∀ (v : Nat) (t : eL) (st : List Value) (h : eH), ru 32 94 (some (.ref v) :: t) st h = ru 32 95 (some (.ref v) :: t) (.ref v :: st) h) := fun v t st h => ru_go rfl rfl
set_option maxRecDepth 100000 in
theorem H32_136 : (∀ (x0 : Option Value) (v : Int32) (t : eL) (st : List Value) (h : eH), ru 32 136 (x0 :: some (.int v) :: t) st h = ru 32 139 (eKl x0 :: some (.int (v + 1)) :: t) st h) := fun x0 v t st h => ru_go rfl rfl
set_option maxRecDepth 100000 in
theorem H32_142 : (∀ (v : Nat) (t : eL) (st : List Value) (h : eH), ru 32 142 (some (.ref v) :: t) st h = ru 32 143 (some (.ref v) :: t) (.ref v :: st) h) := fun v t st h => ru_go rfl rfl
set_option maxRecDepth 100000 in
theorem S32 : (∀ (v : Nat) (t : eL) (st : List Value) (h : eH), ru 32 0 (some (.ref v) :: t) st h = ru 32 1 (some (.ref v) :: t) (.ref v :: st) h) ∧
  (∀ (ls : eL) (st : List Value) (h : eH), ru 32 1 ls st h = ru 32 2 ls (.int (nI 2) :: st) h) ∧
  (∀ (v : Nat) (t : eL) (st : List Value) (h : eH), ru 32 2 (some (.ref v) :: t) st h = ru 32 3 (some (.ref v) :: t) (.ref v :: st) h) ∧
  (∀ (a0 : Nat) (u0 : Int32) (u1 : Nat) (ls : eL) (h : eH), ru 32 3 ls [.ref a0, .int u0, .ref u1] h = cl (den 23 [.ref a0] h) (fun v h => ru 32 6 ls (v.toList ++ [.int u0, .ref u1]) h)) ∧
  (∀ (x y : Int32) (ls : eL) (st : List Value) (h : eH), ru 32 6 ls (.int y :: .int x :: st) h = ru 32 7 ls (.int (x * y) :: st) h) ∧
  (∀ (v : Int32) (a : Nat) (ls : eL) (st : List Value) (h : eH), ru 32 7 ls (.int v :: .ref a :: st) h = pF (h.1 a) 11 19 (.int v) (fun e => ru 32 10 ls st (eUp h a e))) ∧
  (∀ (v : Nat) (t : eL) (st : List Value) (h : eH), ru 32 10 (some (.ref v) :: t) st h = ru 32 11 (some (.ref v) :: t) (.ref v :: st) h) ∧
  (∀ (v : Nat) (t : eL) (st : List Value) (h : eH), ru 32 11 (some (.ref v) :: t) st h = ru 32 12 (some (.ref v) :: t) (.ref v :: st) h) ∧
  (∀ (a : Nat) (ls : eL) (st : List Value) (h : eH), ru 32 12 ls (.ref a :: st) h = gF (h.1 a) 11 10 (fun v => ru 32 15 ls (v :: st) h)) ∧
  (∀ (ls : eL) (st : List Value) (h : eH), ru 32 15 ls st h = ru 32 16 ls (.int (nI 1) :: st) h) ∧
  (∀ (x y : Int32) (ls : eL) (st : List Value) (h : eH), ru 32 16 ls (.int y :: .int x :: st) h = ru 32 17 ls (.int (x + y) :: st) h) ∧
  (∀ (v : Int32) (a : Nat) (ls : eL) (st : List Value) (h : eH), ru 32 17 ls (.int v :: .ref a :: st) h = pF (h.1 a) 11 20 (.int v) (fun e => ru 32 20 ls st (eUp h a e))) ∧
  (∀ (ls : eL) (st : List Value) (h : eH), ru 32 20 ls st h = ru 32 21 ls (.int (nI 0) :: st) h) ∧
  (∀ (x0 x1 : Option Value) (v : Int32) (t : eL) (st : List Value) (h : eH), ru 32 21 (x0 :: x1 :: t) (.int v :: st) h = ru 32 22 (eKl x0 :: some (.int v) :: t) st h) ∧
  (∀ (v : Nat) (t : eL) (st : List Value) (h : eH), ru 32 23 (some (.ref v) :: t) st h = ru 32 24 (some (.ref v) :: t) (.ref v :: st) h) ∧
  (∀ (a : Nat) (ls : eL) (st : List Value) (h : eH), ru 32 24 ls (.ref a :: st) h = gF (h.1 a) 11 4 (fun v => ru 32 27 ls (v :: st) h)) ∧
  (∀ (x y : Int32) (ls : eL) (st : List Value) (h : eH), ru 32 27 ls (.int y :: .int x :: st) h = if y ≤ x then ru 32 142 ls st h else ru 32 30 ls st h) ∧
  (∀ (ls : eL) (st : List Value) (h : eH), ru 32 30 ls st h = ru 32 31 ls (.int (nI 0) :: st) h) ∧
  (∀ (x0 x1 x2 : Option Value) (v : Int32) (t : eL) (st : List Value) (h : eH), ru 32 31 (x0 :: x1 :: x2 :: t) (.int v :: st) h = ru 32 32 (x0 :: eKl x1 :: some (.int v) :: t) st h) ∧
  (∀ (ls : eL) (st : List Value) (h : eH), ru 32 33 ls st h = ru 32 34 ls (.int (nI 2) :: st) h) ∧
  (∀ (x y : Int32) (ls : eL) (st : List Value) (h : eH), ru 32 34 ls (.int y :: .int x :: st) h = if y ≤ x then ru 32 136 ls st h else ru 32 37 ls st h) ∧
  (∀ (v : Nat) (t : eL) (st : List Value) (h : eH), ru 32 37 (some (.ref v) :: t) st h = ru 32 38 (some (.ref v) :: t) (.ref v :: st) h) ∧
  (∀ (a : Nat) (ls : eL) (st : List Value) (h : eH), ru 32 38 ls (.ref a :: st) h = gF (h.1 a) 11 7 (fun v => ru 32 41 ls (v :: st) h)) ∧
  (∀ (x0 : Option Value) (v : Int32) (t : eL) (st : List Value) (h : eH), ru 32 41 (x0 :: some (.int v) :: t) st h = ru 32 42 (x0 :: some (.int v) :: t) (.int v :: st) h) ∧
  (∀ (i : Int32) (a : Nat) (ls : eL) (st : List Value) (h : eH), ru 32 42 ls (.int i :: .ref a :: st) h = aI (h.1 a) 2 i (fun v => ru 32 43 ls (.int v :: st) h)) ∧
  (∀ (x : Int32) (ls : eL) (st : List Value) (h : eH), ru 32 43 ls (.int x :: st) h = if x = 0 then ru 32 46 ls st h else ru 32 136 ls st h) ∧
  (∀ (ls : eL) (st : List Value) (h : eH), ru 32 46 ls st h = ru 32 47 ls (.int (nI 2) :: st) h) ∧
  (∀ (v : Nat) (t : eL) (st : List Value) (h : eH), ru 32 47 (some (.ref v) :: t) st h = ru 32 48 (some (.ref v) :: t) (.ref v :: st) h) ∧
  (∀ (x0 : Option Value) (v : Int32) (t : eL) (st : List Value) (h : eH), ru 32 48 (x0 :: some (.int v) :: t) st h = ru 32 49 (x0 :: some (.int v) :: t) (.int v :: st) h) ∧
  (∀ (a0 : Nat) (a1 : Int32) (u0 : Int32) (ls : eL) (h : eH), ru 32 49 ls [.int a1, .ref a0, .int u0] h = cl (den 13 [.ref a0, .int a1] h) (fun v h => ru 32 52 ls (v.toList ++ [.int u0]) h)) ∧
  (∀ (x y : Int32) (ls : eL) (st : List Value) (h : eH), ru 32 52 ls (.int y :: .int x :: st) h = ru 32 53 ls (.int (x * y) :: st) h) ∧
  (∀ (x0 x1 : Option Value) (v : Int32) (t : eL) (st : List Value) (h : eH), ru 32 53 (x0 :: x1 :: some (.int v) :: t) st h = ru 32 54 (x0 :: x1 :: some (.int v) :: t) (.int v :: st) h) ∧
  (∀ (x y : Int32) (ls : eL) (st : List Value) (h : eH), ru 32 54 ls (.int y :: .int x :: st) h = ru 32 55 ls (.int (x + y) :: st) h) ∧
  (∀ (x0 x1 x2 x3 : Option Value) (v : Int32) (t : eL) (st : List Value) (h : eH), ru 32 55 (x0 :: x1 :: x2 :: x3 :: t) (.int v :: st) h = ru 32 56 (x0 :: x1 :: eKl x2 :: some (.int v) :: t) st h) ∧
  (∀ (ls : eL) (st : List Value) (h : eH), ru 32 56 ls st h = ru 32 57 ls (.int (nI 0) :: st) h) ∧
  (∀ (x0 x1 x2 x3 x4 : Option Value) (v : Int32) (t : eL) (st : List Value) (h : eH), ru 32 57 (x0 :: x1 :: x2 :: x3 :: x4 :: t) (.int v :: st) h = ru 32 59 (x0 :: x1 :: x2 :: eKl x3 :: some (.int v) :: t) st h) ∧
  (∀ (v : Nat) (t : eL) (st : List Value) (h : eH), ru 32 61 (some (.ref v) :: t) st h = ru 32 62 (some (.ref v) :: t) (.ref v :: st) h) ∧
  (∀ (a : Nat) (ls : eL) (st : List Value) (h : eH), ru 32 62 ls (.ref a :: st) h = gF (h.1 a) 11 10 (fun v => ru 32 65 ls (v :: st) h)) ∧
  (∀ (x y : Int32) (ls : eL) (st : List Value) (h : eH), ru 32 65 ls (.int y :: .int x :: st) h = if y ≤ x then ru 32 94 ls st h else ru 32 68 ls st h) ∧
  (∀ (v : Nat) (t : eL) (st : List Value) (h : eH), ru 32 68 (some (.ref v) :: t) st h = ru 32 69 (some (.ref v) :: t) (.ref v :: st) h) ∧
  (∀ (v : Nat) (t : eL) (st : List Value) (h : eH), ru 32 69 (some (.ref v) :: t) st h = ru 32 70 (some (.ref v) :: t) (.ref v :: st) h) ∧
  (∀ (x0 x1 x2 : Option Value) (v : Int32) (t : eL) (st : List Value) (h : eH), ru 32 70 (x0 :: x1 :: x2 :: some (.int v) :: t) st h = ru 32 71 (x0 :: x1 :: x2 :: some (.int v) :: t) (.int v :: st) h) ∧
  (∀ (x0 x1 x2 x3 : Option Value) (v : Int32) (t : eL) (st : List Value) (h : eH), ru 32 71 (x0 :: x1 :: x2 :: x3 :: some (.int v) :: t) st h = ru 32 73 (x0 :: x1 :: x2 :: x3 :: some (.int v) :: t) (.int v :: st) h) ∧
  (∀ (a0 : Nat) (a1 : Int32) (a2 : Int32) (u0 : Nat) (ls : eL) (h : eH), ru 32 73 ls [.int a2, .int a1, .ref a0, .ref u0] h = cl (den 21 [.ref a0, .int a1, .int a2] h) (fun v h => ru 32 76 ls (v.toList ++ [.ref u0]) h)) ∧
  (∀ (v : Nat) (t : eL) (st : List Value) (h : eH), ru 32 76 (some (.ref v) :: t) st h = ru 32 77 (some (.ref v) :: t) (.ref v :: st) h) ∧
  (∀ (x0 x1 x2 x3 : Option Value) (v : Int32) (t : eL) (st : List Value) (h : eH), ru 32 77 (x0 :: x1 :: x2 :: x3 :: some (.int v) :: t) st h = ru 32 79 (x0 :: x1 :: x2 :: x3 :: some (.int v) :: t) (.int v :: st) h) ∧
  (∀ (x0 : Option Value) (v : Int32) (t : eL) (st : List Value) (h : eH), ru 32 79 (x0 :: some (.int v) :: t) st h = ru 32 80 (x0 :: some (.int v) :: t) (.int v :: st) h) ∧
  (∀ (x0 x1 : Option Value) (v : Int32) (t : eL) (st : List Value) (h : eH), ru 32 80 (x0 :: x1 :: some (.int v) :: t) st h = ru 32 81 (x0 :: x1 :: some (.int v) :: t) (.int v :: st) h) ∧
  (∀ (a0 : Nat) (a1 : Int32) (a2 : Int32) (a3 : Int32) (u0 : Int32) (u1 : Nat) (ls : eL) (h : eH), ru 32 81 ls [.int a3, .int a2, .int a1, .ref a0, .int u0, .ref u1] h = cl (den 24 [.ref a0, .int a1, .int a2, .int a3] h) (fun v h => ru 32 84 ls (v.toList ++ [.int u0, .ref u1]) h)) ∧
  (∀ (x : Int32) (ls : eL) (st : List Value) (h : eH), ru 32 84 ls (.int x :: st) h = ru 32 85 ls (.long (x.toInt64) :: st) h) ∧
  (∀ (a0 : Nat) (a1 : Int32) (a2 : Int64) (ls : eL) (h : eH), ru 32 85 ls [.long a2, .int a1, .ref a0] h = cl (den 12 [.ref a0, .int a1, .long a2] h) (fun v h => ru 32 88 ls (v.toList ++ []) h)) ∧
  (∀ (x0 x1 x2 x3 : Option Value) (v : Int32) (t : eL) (st : List Value) (h : eH), ru 32 88 (x0 :: x1 :: x2 :: x3 :: some (.int v) :: t) st h = ru 32 91 (x0 :: x1 :: x2 :: eKl x3 :: some (.int (v + 1)) :: t) st h) ∧
  (∀ (ls : eL) (st : List Value) (h : eH), ru 32 91 ls st h = ru 32 59 ls st h) ∧
  (∀ (v : Nat) (t : eL) (st : List Value) (h : eH), ru 32 95 (some (.ref v) :: t) st h = ru 32 96 (some (.ref v) :: t) (.ref v :: st) h) ∧
  (∀ (x0 x1 x2 : Option Value) (v : Int32) (t : eL) (st : List Value) (h : eH), ru 32 96 (x0 :: x1 :: x2 :: some (.int v) :: t) st h = ru 32 97 (x0 :: x1 :: x2 :: some (.int v) :: t) (.int v :: st) h) ∧
  (∀ (v : Nat) (t : eL) (st : List Value) (h : eH), ru 32 97 (some (.ref v) :: t) st h = ru 32 98 (some (.ref v) :: t) (.ref v :: st) h) ∧
  (∀ (a : Nat) (ls : eL) (st : List Value) (h : eH), ru 32 98 ls (.ref a :: st) h = gF (h.1 a) 11 10 (fun v => ru 32 101 ls (v :: st) h)) ∧
  (∀ (a0 : Nat) (a1 : Int32) (a2 : Int32) (u0 : Nat) (ls : eL) (h : eH), ru 32 101 ls [.int a2, .int a1, .ref a0, .ref u0] h = cl (den 21 [.ref a0, .int a1, .int a2] h) (fun v h => ru 32 104 ls (v.toList ++ [.ref u0]) h)) ∧
  (∀ (x0 x1 : Option Value) (v : Int32) (t : eL) (st : List Value) (h : eH), ru 32 104 (x0 :: x1 :: some (.int v) :: t) st h = ru 32 105 (x0 :: x1 :: some (.int v) :: t) (.int v :: st) h) ∧
  (∀ (x : Int32) (ls : eL) (st : List Value) (h : eH), ru 32 105 ls (.int x :: st) h = if x = 0 then ru 32 108 ls st h else ru 32 119 ls st h) ∧
  (∀ (v : Nat) (t : eL) (st : List Value) (h : eH), ru 32 108 (some (.ref v) :: t) st h = ru 32 109 (some (.ref v) :: t) (.ref v :: st) h) ∧
  (∀ (a : Nat) (ls : eL) (st : List Value) (h : eH), ru 32 109 ls (.ref a :: st) h = gF (h.1 a) 11 8 (fun v => ru 32 112 ls (v :: st) h)) ∧
  (∀ (x0 : Option Value) (v : Int32) (t : eL) (st : List Value) (h : eH), ru 32 112 (x0 :: some (.int v) :: t) st h = ru 32 113 (x0 :: some (.int v) :: t) (.int v :: st) h) ∧
  (∀ (i : Int32) (a : Nat) (ls : eL) (st : List Value) (h : eH), ru 32 113 ls (.int i :: .ref a :: st) h = aI (h.1 a) 0 i (fun v => ru 32 114 ls (.int v :: st) h)) ∧
  (∀ (x : Int32) (ls : eL) (st : List Value) (h : eH), ru 32 114 ls (.int x :: st) h = ru 32 115 ls (.int (-x) :: st) h) ∧
  (∀ (x : Int32) (ls : eL) (st : List Value) (h : eH), ru 32 115 ls (.int x :: st) h = ru 32 116 ls (.long (x.toInt64) :: st) h) ∧
  (∀ (ls : eL) (st : List Value) (h : eH), ru 32 116 ls st h = ru 32 127 ls st h) ∧
  (∀ (v : Nat) (t : eL) (st : List Value) (h : eH), ru 32 119 (some (.ref v) :: t) st h = ru 32 120 (some (.ref v) :: t) (.ref v :: st) h) ∧
  (∀ (a : Nat) (ls : eL) (st : List Value) (h : eH), ru 32 120 ls (.ref a :: st) h = gF (h.1 a) 11 9 (fun v => ru 32 123 ls (v :: st) h)) ∧
  (∀ (x0 : Option Value) (v : Int32) (t : eL) (st : List Value) (h : eH), ru 32 123 (x0 :: some (.int v) :: t) st h = ru 32 124 (x0 :: some (.int v) :: t) (.int v :: st) h) ∧
  (∀ (i : Int32) (a : Nat) (ls : eL) (st : List Value) (h : eH), ru 32 124 ls (.int i :: .ref a :: st) h = aI (h.1 a) 0 i (fun v => ru 32 125 ls (.int v :: st) h)) ∧
  (∀ (x : Int32) (ls : eL) (st : List Value) (h : eH), ru 32 125 ls (.int x :: st) h = ru 32 126 ls (.int (-x) :: st) h) ∧
  (∀ (x : Int32) (ls : eL) (st : List Value) (h : eH), ru 32 126 ls (.int x :: st) h = ru 32 127 ls (.long (x.toInt64) :: st) h) ∧
  (∀ (a0 : Nat) (a1 : Int32) (a2 : Int64) (ls : eL) (h : eH), ru 32 127 ls [.long a2, .int a1, .ref a0] h = cl (den 12 [.ref a0, .int a1, .long a2] h) (fun v h => ru 32 130 ls (v.toList ++ []) h)) ∧
  (∀ (x0 x1 : Option Value) (v : Int32) (t : eL) (st : List Value) (h : eH), ru 32 130 (x0 :: x1 :: some (.int v) :: t) st h = ru 32 133 (x0 :: eKl x1 :: some (.int (v + 1)) :: t) st h) ∧
  (∀ (ls : eL) (st : List Value) (h : eH), ru 32 133 ls st h = ru 32 32 ls st h) ∧
  (∀ (ls : eL) (st : List Value) (h : eH), ru 32 139 ls st h = ru 32 22 ls st h) ∧
  (∀ (v : Nat) (t : eL) (st : List Value) (h : eH), ru 32 143 (some (.ref v) :: t) st h = ru 32 144 (some (.ref v) :: t) (.ref v :: st) h) ∧
  (∀ (a : Nat) (ls : eL) (st : List Value) (h : eH), ru 32 144 ls (.ref a :: st) h = gF (h.1 a) 11 10 (fun v => ru 32 147 ls (v :: st) h)) ∧
  (∀ (a0 : Nat) (a1 : Int32) (ls : eL) (h : eH), ru 32 147 ls [.int a1, .ref a0] h = cl (den 31 [.ref a0, .int a1] h) (fun v h => ru 32 150 ls (v.toList ++ []) h)) ∧
  (∀ (ls : eL) (h : eH), ru 32 150 ls [] h = some (none, h)) := ⟨fun v t st h => ru_go rfl rfl,
  fun ls st h => ru_go rfl rfl,
  fun v t st h => ru_go rfl rfl,
  fun a0 u0 u1 ls h => ru_inv rfl (by decide) rfl (Nat.le_of_ble_eq_true rfl),
  fun x y ls st h => ru_go rfl rfl,
  fun v a ls st h => ru_putf rfl,
  fun v t st h => ru_go rfl rfl,
  fun v t st h => ru_go rfl rfl,
  fun a ls st h => ru_getf rfl,
  fun ls st h => ru_go rfl rfl,
  fun x y ls st h => ru_go rfl rfl,
  fun v a ls st h => ru_putf rfl,
  fun ls st h => ru_go rfl rfl,
  fun x0 x1 v t st h => ru_go rfl rfl,
  fun v t st h => ru_go rfl rfl,
  fun a ls st h => ru_getf rfl,
  fun x y ls st h => ru_if rfl rfl,
  fun ls st h => ru_go rfl rfl,
  fun x0 x1 x2 v t st h => ru_go rfl rfl,
  fun ls st h => ru_go rfl rfl,
  fun x y ls st h => ru_if rfl rfl,
  fun v t st h => ru_go rfl rfl,
  fun a ls st h => ru_getf rfl,
  fun x0 v t st h => ru_go rfl rfl,
  fun i a ls st h => ru_zald rfl,
  fun x ls st h => ru_if rfl rfl,
  fun ls st h => ru_go rfl rfl,
  fun v t st h => ru_go rfl rfl,
  fun x0 v t st h => ru_go rfl rfl,
  fun a0 a1 u0 ls h => ru_inv rfl (by decide) rfl (Nat.le_of_ble_eq_true rfl),
  fun x y ls st h => ru_go rfl rfl,
  fun x0 x1 v t st h => ru_go rfl rfl,
  fun x y ls st h => ru_go rfl rfl,
  fun x0 x1 x2 x3 v t st h => ru_go rfl rfl,
  fun ls st h => ru_go rfl rfl,
  fun x0 x1 x2 x3 x4 v t st h => ru_go rfl rfl,
  fun v t st h => ru_go rfl rfl,
  fun a ls st h => ru_getf rfl,
  fun x y ls st h => ru_if rfl rfl,
  fun v t st h => ru_go rfl rfl,
  fun v t st h => ru_go rfl rfl,
  fun x0 x1 x2 v t st h => ru_go rfl rfl,
  fun x0 x1 x2 x3 v t st h => ru_go rfl rfl,
  fun a0 a1 a2 u0 ls h => ru_inv rfl (by decide) rfl (Nat.le_of_ble_eq_true rfl),
  fun v t st h => ru_go rfl rfl,
  fun x0 x1 x2 x3 v t st h => ru_go rfl rfl,
  fun x0 v t st h => ru_go rfl rfl,
  fun x0 x1 v t st h => ru_go rfl rfl,
  fun a0 a1 a2 a3 u0 u1 ls h => ru_inv rfl (by decide) rfl (Nat.le_of_ble_eq_true rfl),
  fun x ls st h => ru_go rfl rfl,
  fun a0 a1 a2 ls h => ru_inv rfl (by decide) rfl (Nat.le_of_ble_eq_true rfl),
  fun x0 x1 x2 x3 v t st h => ru_go rfl rfl,
  fun ls st h => ru_go rfl rfl,
  fun v t st h => ru_go rfl rfl,
  fun x0 x1 x2 v t st h => ru_go rfl rfl,
  fun v t st h => ru_go rfl rfl,
  fun a ls st h => ru_getf rfl,
  fun a0 a1 a2 u0 ls h => ru_inv rfl (by decide) rfl (Nat.le_of_ble_eq_true rfl),
  fun x0 x1 v t st h => ru_go rfl rfl,
  fun x ls st h => ru_if rfl rfl,
  fun v t st h => ru_go rfl rfl,
  fun a ls st h => ru_getf rfl,
  fun x0 v t st h => ru_go rfl rfl,
  fun i a ls st h => ru_iald rfl,
  fun x ls st h => ru_go rfl rfl,
  fun x ls st h => ru_go rfl rfl,
  fun ls st h => ru_go rfl rfl,
  fun v t st h => ru_go rfl rfl,
  fun a ls st h => ru_getf rfl,
  fun x0 v t st h => ru_go rfl rfl,
  fun i a ls st h => ru_iald rfl,
  fun x ls st h => ru_go rfl rfl,
  fun x ls st h => ru_go rfl rfl,
  fun a0 a1 a2 ls h => ru_inv rfl (by decide) rfl (Nat.le_of_ble_eq_true rfl),
  fun x0 x1 v t st h => ru_go rfl rfl,
  fun ls st h => ru_go rfl rfl,
  fun ls st h => ru_go rfl rfl,
  fun v t st h => ru_go rfl rfl,
  fun a ls st h => ru_getf rfl,
  fun a0 a1 ls h => ru_inv rfl (by decide) rfl (Nat.le_of_ble_eq_true rfl),
  fun ls h => ru_ret rfl rfl⟩
theorem E32 (a0 : Nat) {h : eH} {fs : List Value} (ha : h.1 a0 = .inr (11, fs)) : den 32 [.ref a0] h = ru 32 0 [some (.ref a0), none, none, none, none] [] h := den_ob (Nat.le_of_ble_eq_true rfl) ha
/-! 33 X11_isBorne -/
set_option maxRecDepth 100000 in
theorem H33_9 : (∀ (x0 : Option Value) (v : Int32) (t : eL) (st : List Value) (h : eH), ru 33 9 (x0 :: some (.int v) :: t) st h = ru 33 10 (x0 :: some (.int v) :: t) (.int v :: st) h) := fun x0 v t st h => ru_go rfl rfl
set_option maxRecDepth 100000 in
theorem H33_41 : (∀ (ls : eL) (st : List Value) (h : eH), ru 33 41 ls st h = ru 33 42 ls (.int (nI 1) :: st) h) := fun ls st h => ru_go rfl rfl
set_option maxRecDepth 100000 in
theorem S33 : (∀ (v : Nat) (t : eL) (st : List Value) (h : eH), ru 33 0 (some (.ref v) :: t) st h = ru 33 1 (some (.ref v) :: t) (.ref v :: st) h) ∧
  (∀ (a0 : Nat) (ls : eL) (h : eH), ru 33 1 ls [.ref a0] h = cl (den 32 [.ref a0] h) (fun v h => ru 33 4 ls (v.toList ++ []) h)) ∧
  (∀ (v : Nat) (t : eL) (st : List Value) (h : eH), ru 33 4 (some (.ref v) :: t) st h = ru 33 5 (some (.ref v) :: t) (.ref v :: st) h) ∧
  (∀ (a : Nat) (ls : eL) (st : List Value) (h : eH), ru 33 5 ls (.ref a :: st) h = gF (h.1 a) 11 21 (fun v => ru 33 8 ls (v :: st) h)) ∧
  (∀ (x0 x1 : Option Value) (v : Int32) (t : eL) (st : List Value) (h : eH), ru 33 8 (x0 :: x1 :: t) (.int v :: st) h = ru 33 9 (eKl x0 :: some (.int v) :: t) st h) ∧
  (∀ (v : Nat) (t : eL) (st : List Value) (h : eH), ru 33 10 (some (.ref v) :: t) st h = ru 33 11 (some (.ref v) :: t) (.ref v :: st) h) ∧
  (∀ (a : Nat) (ls : eL) (st : List Value) (h : eH), ru 33 11 ls (.ref a :: st) h = gF (h.1 a) 11 19 (fun v => ru 33 14 ls (v :: st) h)) ∧
  (∀ (x y : Int32) (ls : eL) (st : List Value) (h : eH), ru 33 14 ls (.int y :: .int x :: st) h = if y ≤ x then ru 33 41 ls st h else ru 33 17 ls st h) ∧
  (∀ (v : Nat) (t : eL) (st : List Value) (h : eH), ru 33 17 (some (.ref v) :: t) st h = ru 33 18 (some (.ref v) :: t) (.ref v :: st) h) ∧
  (∀ (v : Nat) (t : eL) (st : List Value) (h : eH), ru 33 18 (some (.ref v) :: t) st h = ru 33 19 (some (.ref v) :: t) (.ref v :: st) h) ∧
  (∀ (x0 : Option Value) (v : Int32) (t : eL) (st : List Value) (h : eH), ru 33 19 (x0 :: some (.int v) :: t) st h = ru 33 20 (x0 :: some (.int v) :: t) (.int v :: st) h) ∧
  (∀ (v : Nat) (t : eL) (st : List Value) (h : eH), ru 33 20 (some (.ref v) :: t) st h = ru 33 21 (some (.ref v) :: t) (.ref v :: st) h) ∧
  (∀ (a : Nat) (ls : eL) (st : List Value) (h : eH), ru 33 21 ls (.ref a :: st) h = gF (h.1 a) 11 10 (fun v => ru 33 24 ls (v :: st) h)) ∧
  (∀ (a0 : Nat) (a1 : Int32) (a2 : Int32) (u0 : Nat) (ls : eL) (h : eH), ru 33 24 ls [.int a2, .int a1, .ref a0, .ref u0] h = cl (den 21 [.ref a0, .int a1, .int a2] h) (fun v h => ru 33 27 ls (v.toList ++ [.ref u0]) h)) ∧
  (∀ (a0 : Nat) (a1 : Int32) (ls : eL) (h : eH), ru 33 27 ls [.int a1, .ref a0] h = cl (den 25 [.ref a0, .int a1] h) (fun v h => ru 33 30 ls (v.toList ++ []) h)) ∧
  (∀ (x : Int32) (ls : eL) (st : List Value) (h : eH), ru 33 30 ls (.int x :: st) h = if x = 0 then ru 33 33 ls st h else ru 33 35 ls st h) ∧
  (∀ (ls : eL) (st : List Value) (h : eH), ru 33 33 ls st h = ru 33 34 ls (.int (nI 0) :: st) h) ∧
  (∀ (x : Int32) (ls : eL) (h : eH), ru 33 34 ls [.int x] h = bo (x == 0 || x == 1) (some (some (.int x), h))) ∧
  (∀ (x0 : Option Value) (v : Int32) (t : eL) (st : List Value) (h : eH), ru 33 35 (x0 :: some (.int v) :: t) st h = ru 33 38 (eKl x0 :: some (.int (v + 1)) :: t) st h) ∧
  (∀ (ls : eL) (st : List Value) (h : eH), ru 33 38 ls st h = ru 33 9 ls st h) ∧
  (∀ (x : Int32) (ls : eL) (h : eH), ru 33 42 ls [.int x] h = bo (x == 0 || x == 1) (some (some (.int x), h))) := ⟨fun v t st h => ru_go rfl rfl,
  fun a0 ls h => ru_inv rfl (by decide) rfl (Nat.le_of_ble_eq_true rfl),
  fun v t st h => ru_go rfl rfl,
  fun a ls st h => ru_getf rfl,
  fun x0 x1 v t st h => ru_go rfl rfl,
  fun v t st h => ru_go rfl rfl,
  fun a ls st h => ru_getf rfl,
  fun x y ls st h => ru_if rfl rfl,
  fun v t st h => ru_go rfl rfl,
  fun v t st h => ru_go rfl rfl,
  fun x0 v t st h => ru_go rfl rfl,
  fun v t st h => ru_go rfl rfl,
  fun a ls st h => ru_getf rfl,
  fun a0 a1 a2 u0 ls h => ru_inv rfl (by decide) rfl (Nat.le_of_ble_eq_true rfl),
  fun a0 a1 ls h => ru_inv rfl (by decide) rfl (Nat.le_of_ble_eq_true rfl),
  fun x ls st h => ru_if rfl rfl,
  fun ls st h => ru_go rfl rfl,
  fun x ls h => ru_bret rfl rfl,
  fun x0 v t st h => ru_go rfl rfl,
  fun ls st h => ru_go rfl rfl,
  fun x ls h => ru_bret rfl rfl⟩
theorem E33 (a0 : Nat) {h : eH} {fs : List Value} (ha : h.1 a0 = .inr (11, fs)) : den 33 [.ref a0] h = ru 33 0 [some (.ref a0), none] [] h := den_ob (Nat.le_of_ble_eq_true rfl) ha
/-! 34 X11_isMember -/
set_option maxRecDepth 100000 in
theorem S34 : (∀ (x0 : Option Value) (v : Int32) (t : eL) (st : List Value) (h : eH), ru 34 0 (x0 :: some (.int v) :: t) st h = ru 34 1 (x0 :: some (.int v) :: t) (.int v :: st) h) ∧
  (∀ (x : Int32) (ls : eL) (st : List Value) (h : eH), ru 34 1 ls (.int x :: st) h = if x < 0 then ru 34 16 ls st h else ru 34 4 ls st h) ∧
  (∀ (x0 : Option Value) (v : Int32) (t : eL) (st : List Value) (h : eH), ru 34 4 (x0 :: some (.int v) :: t) st h = ru 34 5 (x0 :: some (.int v) :: t) (.int v :: st) h) ∧
  (∀ (v : Nat) (t : eL) (st : List Value) (h : eH), ru 34 5 (some (.ref v) :: t) st h = ru 34 6 (some (.ref v) :: t) (.ref v :: st) h) ∧
  (∀ (a : Nat) (ls : eL) (st : List Value) (h : eH), ru 34 6 ls (.ref a :: st) h = gF (h.1 a) 11 10 (fun v => ru 34 9 ls (v :: st) h)) ∧
  (∀ (x y : Int32) (ls : eL) (st : List Value) (h : eH), ru 34 9 ls (.int y :: .int x :: st) h = if y ≤ x then ru 34 16 ls st h else ru 34 12 ls st h) ∧
  (∀ (ls : eL) (st : List Value) (h : eH), ru 34 12 ls st h = ru 34 13 ls (.int (nI 1) :: st) h) ∧
  (∀ (ls : eL) (st : List Value) (h : eH), ru 34 13 ls st h = ru 34 17 ls st h) ∧
  (∀ (ls : eL) (st : List Value) (h : eH), ru 34 16 ls st h = ru 34 17 ls (.int (nI 0) :: st) h) ∧
  (∀ (x : Int32) (ls : eL) (h : eH), ru 34 17 ls [.int x] h = bo (x == 0 || x == 1) (some (some (.int x), h))) := ⟨fun x0 v t st h => ru_go rfl rfl,
  fun x ls st h => ru_if rfl rfl,
  fun x0 v t st h => ru_go rfl rfl,
  fun v t st h => ru_go rfl rfl,
  fun a ls st h => ru_getf rfl,
  fun x y ls st h => ru_if rfl rfl,
  fun ls st h => ru_go rfl rfl,
  fun ls st h => ru_go rfl rfl,
  fun ls st h => ru_go rfl rfl,
  fun x ls h => ru_bret rfl rfl⟩
theorem E34 (a0 : Nat) (a1 : Int32) {h : eH} {fs : List Value} (ha : h.1 a0 = .inr (11, fs)) : den 34 [.ref a0, .int a1] h = ru 34 0 [some (.ref a0), some (.int a1)] [] h := den_ob (Nat.le_of_ble_eq_true rfl) ha
/-! 35 X11_isEven -/
set_option maxRecDepth 100000 in
theorem S35 : (∀ (v : Nat) (t : eL) (st : List Value) (h : eH), ru 35 0 (some (.ref v) :: t) st h = ru 35 1 (some (.ref v) :: t) (.ref v :: st) h) ∧
  (∀ (a : Nat) (ls : eL) (st : List Value) (h : eH), ru 35 1 ls (.ref a :: st) h = gF (h.1 a) 11 0 (fun v => ru 35 4 ls (v :: st) h)) ∧
  (∀ (ls : eL) (st : List Value) (h : eH), ru 35 4 ls st h = ru 35 6 ls (.int (nI 24) :: st) h) ∧
  (∀ (x0 : Option Value) (v : Int32) (t : eL) (st : List Value) (h : eH), ru 35 6 (x0 :: some (.int v) :: t) st h = ru 35 7 (x0 :: some (.int v) :: t) (.int v :: st) h) ∧
  (∀ (x y : Int32) (ls : eL) (st : List Value) (h : eH), ru 35 7 ls (.int y :: .int x :: st) h = ru 35 8 ls (.int (x * y) :: st) h) ∧
  (∀ (i : Int32) (a : Nat) (ls : eL) (st : List Value) (h : eH), ru 35 8 ls (.int i :: .ref a :: st) h = aL (h.1 a) i (fun v => ru 35 9 ls (.long v :: st) h)) ∧
  (∀ (ls : eL) (st : List Value) (h : eH), ru 35 9 ls st h = ru 35 12 ls (.long (lN 2) :: st) h) ∧
  (∀ (x y : Int64) (ls : eL) (st : List Value) (h : eH), ru 35 12 ls (.long y :: .long x :: st) h = if y = 0 then none else ru 35 13 ls (.long (x - x / y * y) :: st) h) ∧
  (∀ (ls : eL) (st : List Value) (h : eH), ru 35 13 ls st h = ru 35 14 ls (.long (lN 0) :: st) h) ∧
  (∀ (x y : Int64) (ls : eL) (st : List Value) (h : eH), ru 35 14 ls (.long y :: .long x :: st) h = ru 35 15 ls (.int (lg_cmp x y) :: st) h) ∧
  (∀ (x : Int32) (ls : eL) (st : List Value) (h : eH), ru 35 15 ls (.int x :: st) h = if x = 0 then ru 35 18 ls st h else ru 35 22 ls st h) ∧
  (∀ (ls : eL) (st : List Value) (h : eH), ru 35 18 ls st h = ru 35 19 ls (.int (nI 1) :: st) h) ∧
  (∀ (ls : eL) (st : List Value) (h : eH), ru 35 19 ls st h = ru 35 23 ls st h) ∧
  (∀ (ls : eL) (st : List Value) (h : eH), ru 35 22 ls st h = ru 35 23 ls (.int (nI 0) :: st) h) ∧
  (∀ (x : Int32) (ls : eL) (h : eH), ru 35 23 ls [.int x] h = bo (x == 0 || x == 1) (some (some (.int x), h))) := ⟨fun v t st h => ru_go rfl rfl,
  fun a ls st h => ru_getf rfl,
  fun ls st h => ru_go rfl rfl,
  fun x0 v t st h => ru_go rfl rfl,
  fun x y ls st h => ru_go rfl rfl,
  fun i a ls st h => ru_lald rfl,
  fun ls st h => ru_go rfl rfl,
  fun x y ls st h => ru_guard rfl rfl,
  fun ls st h => ru_go rfl rfl,
  fun x y ls st h => ru_go rfl rfl,
  fun x ls st h => ru_if rfl rfl,
  fun ls st h => ru_go rfl rfl,
  fun ls st h => ru_go rfl rfl,
  fun ls st h => ru_go rfl rfl,
  fun x ls h => ru_bret rfl rfl⟩
theorem E35 (a0 : Nat) (a1 : Int32) {h : eH} {fs : List Value} (ha : h.1 a0 = .inr (11, fs)) : den 35 [.ref a0, .int a1] h = ru 35 0 [some (.ref a0), some (.int a1)] [] h := den_ob (Nat.le_of_ble_eq_true rfl) ha
/-! 36 X11_half -/
set_option maxRecDepth 100000 in
theorem H36_6 : (∀ (x0 x1 x2 x3 : Option Value) (v : Int32) (t : eL) (st : List Value) (h : eH), ru 36 6 (x0 :: x1 :: x2 :: x3 :: some (.int v) :: t) st h = ru 36 8 (x0 :: x1 :: x2 :: x3 :: some (.int v) :: t) (.int v :: st) h) := fun x0 x1 x2 x3 v t st h => ru_go rfl rfl
set_option maxRecDepth 100000 in
theorem S36 : (∀ (ls : eL) (st : List Value) (h : eH), ru 36 0 ls st h = ru 36 1 ls (.long (lN 0) :: st) h) ∧
  (∀ (x0 x1 x2 x3 : Option Value) (v : Int64) (t : eL) (st : List Value) (h : eH), ru 36 1 (x0 :: x1 :: x2 :: x3 :: t) (.long v :: st) h = ru 36 2 (x0 :: eKl x1 :: some (.long v) :: none :: t) st h) ∧
  (∀ (ls : eL) (st : List Value) (h : eH), ru 36 2 ls st h = ru 36 4 ls (.int (nI 23) :: st) h) ∧
  (∀ (x0 x1 x2 x3 x4 : Option Value) (v : Int32) (t : eL) (st : List Value) (h : eH), ru 36 4 (x0 :: x1 :: x2 :: x3 :: x4 :: t) (.int v :: st) h = ru 36 6 (x0 :: x1 :: x2 :: eKl x3 :: some (.int v) :: t) st h) ∧
  (∀ (x : Int32) (ls : eL) (st : List Value) (h : eH), ru 36 8 ls (.int x :: st) h = if x < 0 then ru 36 62 ls st h else ru 36 11 ls st h) ∧
  (∀ (x0 x1 : Option Value) (v : Int64) (t : eL) (st : List Value) (h : eH), ru 36 11 (x0 :: x1 :: some (.long v) :: t) st h = ru 36 12 (x0 :: x1 :: some (.long v) :: t) (.long v :: st) h) ∧
  (∀ (ls : eL) (st : List Value) (h : eH), ru 36 12 ls st h = ru 36 15 ls (.long (lN 1000000000) :: st) h) ∧
  (∀ (x y : Int64) (ls : eL) (st : List Value) (h : eH), ru 36 15 ls (.long y :: .long x :: st) h = ru 36 16 ls (.long (x * y) :: st) h) ∧
  (∀ (v : Nat) (t : eL) (st : List Value) (h : eH), ru 36 16 (some (.ref v) :: t) st h = ru 36 17 (some (.ref v) :: t) (.ref v :: st) h) ∧
  (∀ (a : Nat) (ls : eL) (st : List Value) (h : eH), ru 36 17 ls (.ref a :: st) h = gF (h.1 a) 11 0 (fun v => ru 36 20 ls (v :: st) h)) ∧
  (∀ (ls : eL) (st : List Value) (h : eH), ru 36 20 ls st h = ru 36 22 ls (.int (nI 24) :: st) h) ∧
  (∀ (x0 : Option Value) (v : Int32) (t : eL) (st : List Value) (h : eH), ru 36 22 (x0 :: some (.int v) :: t) st h = ru 36 23 (x0 :: some (.int v) :: t) (.int v :: st) h) ∧
  (∀ (x y : Int32) (ls : eL) (st : List Value) (h : eH), ru 36 23 ls (.int y :: .int x :: st) h = ru 36 24 ls (.int (x * y) :: st) h) ∧
  (∀ (x0 x1 x2 x3 : Option Value) (v : Int32) (t : eL) (st : List Value) (h : eH), ru 36 24 (x0 :: x1 :: x2 :: x3 :: some (.int v) :: t) st h = ru 36 26 (x0 :: x1 :: x2 :: x3 :: some (.int v) :: t) (.int v :: st) h) ∧
  (∀ (x y : Int32) (ls : eL) (st : List Value) (h : eH), ru 36 26 ls (.int y :: .int x :: st) h = ru 36 27 ls (.int (x + y) :: st) h) ∧
  (∀ (i : Int32) (a : Nat) (ls : eL) (st : List Value) (h : eH), ru 36 27 ls (.int i :: .ref a :: st) h = aL (h.1 a) i (fun v => ru 36 28 ls (.long v :: st) h)) ∧
  (∀ (x y : Int64) (ls : eL) (st : List Value) (h : eH), ru 36 28 ls (.long y :: .long x :: st) h = ru 36 29 ls (.long (x + y) :: st) h) ∧
  (∀ (x0 x1 x2 x3 x4 x5 x6 : Option Value) (v : Int64) (t : eL) (st : List Value) (h : eH), ru 36 29 (x0 :: x1 :: x2 :: x3 :: x4 :: x5 :: x6 :: t) (.long v :: st) h = ru 36 31 (x0 :: x1 :: x2 :: x3 :: eKl x4 :: some (.long v) :: none :: t) st h) ∧
  (∀ (v : Nat) (t : eL) (st : List Value) (h : eH), ru 36 31 (some (.ref v) :: t) st h = ru 36 32 (some (.ref v) :: t) (.ref v :: st) h) ∧
  (∀ (a : Nat) (ls : eL) (st : List Value) (h : eH), ru 36 32 ls (.ref a :: st) h = gF (h.1 a) 11 0 (fun v => ru 36 35 ls (v :: st) h)) ∧
  (∀ (ls : eL) (st : List Value) (h : eH), ru 36 35 ls st h = ru 36 37 ls (.int (nI 24) :: st) h) ∧
  (∀ (x0 : Option Value) (v : Int32) (t : eL) (st : List Value) (h : eH), ru 36 37 (x0 :: some (.int v) :: t) st h = ru 36 38 (x0 :: some (.int v) :: t) (.int v :: st) h) ∧
  (∀ (x y : Int32) (ls : eL) (st : List Value) (h : eH), ru 36 38 ls (.int y :: .int x :: st) h = ru 36 39 ls (.int (x * y) :: st) h) ∧
  (∀ (x0 x1 x2 x3 : Option Value) (v : Int32) (t : eL) (st : List Value) (h : eH), ru 36 39 (x0 :: x1 :: x2 :: x3 :: some (.int v) :: t) st h = ru 36 41 (x0 :: x1 :: x2 :: x3 :: some (.int v) :: t) (.int v :: st) h) ∧
  (∀ (x y : Int32) (ls : eL) (st : List Value) (h : eH), ru 36 41 ls (.int y :: .int x :: st) h = ru 36 42 ls (.int (x + y) :: st) h) ∧
  (∀ (x0 x1 x2 x3 x4 : Option Value) (v : Int64) (t : eL) (st : List Value) (h : eH), ru 36 42 (x0 :: x1 :: x2 :: x3 :: x4 :: some (.long v) :: t) st h = ru 36 44 (x0 :: x1 :: x2 :: x3 :: x4 :: some (.long v) :: t) (.long v :: st) h) ∧
  (∀ (ls : eL) (st : List Value) (h : eH), ru 36 44 ls st h = ru 36 47 ls (.long (lN 2) :: st) h) ∧
  (∀ (x y : Int64) (ls : eL) (st : List Value) (h : eH), ru 36 47 ls (.long y :: .long x :: st) h = if y = 0 then none else ru 36 48 ls (.long (x / y) :: st) h) ∧
  (∀ (x : Int64) (i : Int32) (a : Nat) (ls : eL) (st : List Value) (h : eH), ru 36 48 ls (.long x :: .int i :: .ref a :: st) h = wL (h.1 a) i x (fun e => ru 36 49 ls st (eUp h a e))) ∧
  (∀ (x0 x1 x2 x3 x4 : Option Value) (v : Int64) (t : eL) (st : List Value) (h : eH), ru 36 49 (x0 :: x1 :: x2 :: x3 :: x4 :: some (.long v) :: t) st h = ru 36 51 (x0 :: x1 :: x2 :: x3 :: x4 :: some (.long v) :: t) (.long v :: st) h) ∧
  (∀ (ls : eL) (st : List Value) (h : eH), ru 36 51 ls st h = ru 36 54 ls (.long (lN 2) :: st) h) ∧
  (∀ (x y : Int64) (ls : eL) (st : List Value) (h : eH), ru 36 54 ls (.long y :: .long x :: st) h = if y = 0 then none else ru 36 55 ls (.long (x - x / y * y) :: st) h) ∧
  (∀ (x0 x1 x2 x3 : Option Value) (v : Int64) (t : eL) (st : List Value) (h : eH), ru 36 55 (x0 :: x1 :: x2 :: x3 :: t) (.long v :: st) h = ru 36 56 (x0 :: eKl x1 :: some (.long v) :: none :: t) st h) ∧
  (∀ (x0 x1 x2 x3 : Option Value) (v : Int32) (t : eL) (st : List Value) (h : eH), ru 36 56 (x0 :: x1 :: x2 :: x3 :: some (.int v) :: t) st h = ru 36 59 (x0 :: x1 :: x2 :: eKl x3 :: some (.int (v + (-1))) :: t) st h) ∧
  (∀ (ls : eL) (st : List Value) (h : eH), ru 36 59 ls st h = ru 36 6 ls st h) ∧
  (∀ (ls : eL) (h : eH), ru 36 62 ls [] h = some (none, h)) := ⟨fun ls st h => ru_go rfl rfl,
  fun x0 x1 x2 x3 v t st h => ru_go rfl rfl,
  fun ls st h => ru_go rfl rfl,
  fun x0 x1 x2 x3 x4 v t st h => ru_go rfl rfl,
  fun x ls st h => ru_if rfl rfl,
  fun x0 x1 v t st h => ru_go rfl rfl,
  fun ls st h => ru_go rfl rfl,
  fun x y ls st h => ru_go rfl rfl,
  fun v t st h => ru_go rfl rfl,
  fun a ls st h => ru_getf rfl,
  fun ls st h => ru_go rfl rfl,
  fun x0 v t st h => ru_go rfl rfl,
  fun x y ls st h => ru_go rfl rfl,
  fun x0 x1 x2 x3 v t st h => ru_go rfl rfl,
  fun x y ls st h => ru_go rfl rfl,
  fun i a ls st h => ru_lald rfl,
  fun x y ls st h => ru_go rfl rfl,
  fun x0 x1 x2 x3 x4 x5 x6 v t st h => ru_go rfl rfl,
  fun v t st h => ru_go rfl rfl,
  fun a ls st h => ru_getf rfl,
  fun ls st h => ru_go rfl rfl,
  fun x0 v t st h => ru_go rfl rfl,
  fun x y ls st h => ru_go rfl rfl,
  fun x0 x1 x2 x3 v t st h => ru_go rfl rfl,
  fun x y ls st h => ru_go rfl rfl,
  fun x0 x1 x2 x3 x4 v t st h => ru_go rfl rfl,
  fun ls st h => ru_go rfl rfl,
  fun x y ls st h => ru_guard rfl rfl,
  fun x i a ls st h => ru_last rfl,
  fun x0 x1 x2 x3 x4 v t st h => ru_go rfl rfl,
  fun ls st h => ru_go rfl rfl,
  fun x y ls st h => ru_guard rfl rfl,
  fun x0 x1 x2 x3 v t st h => ru_go rfl rfl,
  fun x0 x1 x2 x3 v t st h => ru_go rfl rfl,
  fun ls st h => ru_go rfl rfl,
  fun ls h => ru_ret rfl rfl⟩
theorem E36 (a0 : Nat) (a1 : Int32) {h : eH} {fs : List Value} (ha : h.1 a0 = .inr (11, fs)) : den 36 [.ref a0, .int a1] h = ru 36 0 [some (.ref a0), some (.int a1), none, none, none, none, none] [] h := den_ob (Nat.le_of_ble_eq_true rfl) ha
/-! 37 X11_isLess -/
set_option maxRecDepth 100000 in
theorem H37_3 : (∀ (x0 x1 x2 : Option Value) (v : Int32) (t : eL) (st : List Value) (h : eH), ru 37 3 (x0 :: x1 :: x2 :: some (.int v) :: t) st h = ru 37 4 (x0 :: x1 :: x2 :: some (.int v) :: t) (.int v :: st) h) := fun x0 x1 x2 v t st h => ru_go rfl rfl
set_option maxRecDepth 100000 in
theorem H37_61 : (∀ (ls : eL) (st : List Value) (h : eH), ru 37 61 ls st h = ru 37 62 ls (.int (nI 0) :: st) h) := fun ls st h => ru_go rfl rfl
set_option maxRecDepth 100000 in
theorem S37 : (∀ (ls : eL) (st : List Value) (h : eH), ru 37 0 ls st h = ru 37 2 ls (.int (nI 23) :: st) h) ∧
  (∀ (x0 x1 x2 x3 : Option Value) (v : Int32) (t : eL) (st : List Value) (h : eH), ru 37 2 (x0 :: x1 :: x2 :: x3 :: t) (.int v :: st) h = ru 37 3 (x0 :: x1 :: eKl x2 :: some (.int v) :: t) st h) ∧
  (∀ (x : Int32) (ls : eL) (st : List Value) (h : eH), ru 37 4 ls (.int x :: st) h = if x < 0 then ru 37 61 ls st h else ru 37 7 ls st h) ∧
  (∀ (v : Nat) (t : eL) (st : List Value) (h : eH), ru 37 7 (some (.ref v) :: t) st h = ru 37 8 (some (.ref v) :: t) (.ref v :: st) h) ∧
  (∀ (a : Nat) (ls : eL) (st : List Value) (h : eH), ru 37 8 ls (.ref a :: st) h = gF (h.1 a) 11 0 (fun v => ru 37 11 ls (v :: st) h)) ∧
  (∀ (ls : eL) (st : List Value) (h : eH), ru 37 11 ls st h = ru 37 13 ls (.int (nI 24) :: st) h) ∧
  (∀ (x0 : Option Value) (v : Int32) (t : eL) (st : List Value) (h : eH), ru 37 13 (x0 :: some (.int v) :: t) st h = ru 37 14 (x0 :: some (.int v) :: t) (.int v :: st) h) ∧
  (∀ (x y : Int32) (ls : eL) (st : List Value) (h : eH), ru 37 14 ls (.int y :: .int x :: st) h = ru 37 15 ls (.int (x * y) :: st) h) ∧
  (∀ (x0 x1 x2 : Option Value) (v : Int32) (t : eL) (st : List Value) (h : eH), ru 37 15 (x0 :: x1 :: x2 :: some (.int v) :: t) st h = ru 37 16 (x0 :: x1 :: x2 :: some (.int v) :: t) (.int v :: st) h) ∧
  (∀ (x y : Int32) (ls : eL) (st : List Value) (h : eH), ru 37 16 ls (.int y :: .int x :: st) h = ru 37 17 ls (.int (x + y) :: st) h) ∧
  (∀ (i : Int32) (a : Nat) (ls : eL) (st : List Value) (h : eH), ru 37 17 ls (.int i :: .ref a :: st) h = aL (h.1 a) i (fun v => ru 37 18 ls (.long v :: st) h)) ∧
  (∀ (x0 x1 x2 x3 x4 x5 : Option Value) (v : Int64) (t : eL) (st : List Value) (h : eH), ru 37 18 (x0 :: x1 :: x2 :: x3 :: x4 :: x5 :: t) (.long v :: st) h = ru 37 20 (x0 :: x1 :: x2 :: eKl x3 :: some (.long v) :: none :: t) st h) ∧
  (∀ (v : Nat) (t : eL) (st : List Value) (h : eH), ru 37 20 (some (.ref v) :: t) st h = ru 37 21 (some (.ref v) :: t) (.ref v :: st) h) ∧
  (∀ (a : Nat) (ls : eL) (st : List Value) (h : eH), ru 37 21 ls (.ref a :: st) h = gF (h.1 a) 11 0 (fun v => ru 37 24 ls (v :: st) h)) ∧
  (∀ (ls : eL) (st : List Value) (h : eH), ru 37 24 ls st h = ru 37 26 ls (.int (nI 24) :: st) h) ∧
  (∀ (x0 x1 : Option Value) (v : Int32) (t : eL) (st : List Value) (h : eH), ru 37 26 (x0 :: x1 :: some (.int v) :: t) st h = ru 37 27 (x0 :: x1 :: some (.int v) :: t) (.int v :: st) h) ∧
  (∀ (x y : Int32) (ls : eL) (st : List Value) (h : eH), ru 37 27 ls (.int y :: .int x :: st) h = ru 37 28 ls (.int (x * y) :: st) h) ∧
  (∀ (x0 x1 x2 : Option Value) (v : Int32) (t : eL) (st : List Value) (h : eH), ru 37 28 (x0 :: x1 :: x2 :: some (.int v) :: t) st h = ru 37 29 (x0 :: x1 :: x2 :: some (.int v) :: t) (.int v :: st) h) ∧
  (∀ (x y : Int32) (ls : eL) (st : List Value) (h : eH), ru 37 29 ls (.int y :: .int x :: st) h = ru 37 30 ls (.int (x + y) :: st) h) ∧
  (∀ (i : Int32) (a : Nat) (ls : eL) (st : List Value) (h : eH), ru 37 30 ls (.int i :: .ref a :: st) h = aL (h.1 a) i (fun v => ru 37 31 ls (.long v :: st) h)) ∧
  (∀ (x0 x1 x2 x3 x4 x5 x6 x7 : Option Value) (v : Int64) (t : eL) (st : List Value) (h : eH), ru 37 31 (x0 :: x1 :: x2 :: x3 :: x4 :: x5 :: x6 :: x7 :: t) (.long v :: st) h = ru 37 33 (x0 :: x1 :: x2 :: x3 :: x4 :: eKl x5 :: some (.long v) :: none :: t) st h) ∧
  (∀ (x0 x1 x2 x3 : Option Value) (v : Int64) (t : eL) (st : List Value) (h : eH), ru 37 33 (x0 :: x1 :: x2 :: x3 :: some (.long v) :: t) st h = ru 37 35 (x0 :: x1 :: x2 :: x3 :: some (.long v) :: t) (.long v :: st) h) ∧
  (∀ (x0 x1 x2 x3 x4 x5 : Option Value) (v : Int64) (t : eL) (st : List Value) (h : eH), ru 37 35 (x0 :: x1 :: x2 :: x3 :: x4 :: x5 :: some (.long v) :: t) st h = ru 37 37 (x0 :: x1 :: x2 :: x3 :: x4 :: x5 :: some (.long v) :: t) (.long v :: st) h) ∧
  (∀ (x y : Int64) (ls : eL) (st : List Value) (h : eH), ru 37 37 ls (.long y :: .long x :: st) h = ru 37 38 ls (.int (lg_cmp x y) :: st) h) ∧
  (∀ (x : Int32) (ls : eL) (st : List Value) (h : eH), ru 37 38 ls (.int x :: st) h = if x = 0 then ru 37 55 ls st h else ru 37 41 ls st h) ∧
  (∀ (x0 x1 x2 x3 : Option Value) (v : Int64) (t : eL) (st : List Value) (h : eH), ru 37 41 (x0 :: x1 :: x2 :: x3 :: some (.long v) :: t) st h = ru 37 43 (x0 :: x1 :: x2 :: x3 :: some (.long v) :: t) (.long v :: st) h) ∧
  (∀ (x0 x1 x2 x3 x4 x5 : Option Value) (v : Int64) (t : eL) (st : List Value) (h : eH), ru 37 43 (x0 :: x1 :: x2 :: x3 :: x4 :: x5 :: some (.long v) :: t) st h = ru 37 45 (x0 :: x1 :: x2 :: x3 :: x4 :: x5 :: some (.long v) :: t) (.long v :: st) h) ∧
  (∀ (x y : Int64) (ls : eL) (st : List Value) (h : eH), ru 37 45 ls (.long y :: .long x :: st) h = ru 37 46 ls (.int (lg_cmp x y) :: st) h) ∧
  (∀ (x : Int32) (ls : eL) (st : List Value) (h : eH), ru 37 46 ls (.int x :: st) h = if 0 ≤ x then ru 37 53 ls st h else ru 37 49 ls st h) ∧
  (∀ (ls : eL) (st : List Value) (h : eH), ru 37 49 ls st h = ru 37 50 ls (.int (nI 1) :: st) h) ∧
  (∀ (ls : eL) (st : List Value) (h : eH), ru 37 50 ls st h = ru 37 54 ls st h) ∧
  (∀ (ls : eL) (st : List Value) (h : eH), ru 37 53 ls st h = ru 37 54 ls (.int (nI 0) :: st) h) ∧
  (∀ (x : Int32) (ls : eL) (h : eH), ru 37 54 ls [.int x] h = bo (x == 0 || x == 1) (some (some (.int x), h))) ∧
  (∀ (x0 x1 x2 : Option Value) (v : Int32) (t : eL) (st : List Value) (h : eH), ru 37 55 (x0 :: x1 :: x2 :: some (.int v) :: t) st h = ru 37 58 (x0 :: x1 :: eKl x2 :: some (.int (v + (-1))) :: t) st h) ∧
  (∀ (ls : eL) (st : List Value) (h : eH), ru 37 58 ls st h = ru 37 3 ls st h) ∧
  (∀ (x : Int32) (ls : eL) (h : eH), ru 37 62 ls [.int x] h = bo (x == 0 || x == 1) (some (some (.int x), h))) := ⟨fun ls st h => ru_go rfl rfl,
  fun x0 x1 x2 x3 v t st h => ru_go rfl rfl,
  fun x ls st h => ru_if rfl rfl,
  fun v t st h => ru_go rfl rfl,
  fun a ls st h => ru_getf rfl,
  fun ls st h => ru_go rfl rfl,
  fun x0 v t st h => ru_go rfl rfl,
  fun x y ls st h => ru_go rfl rfl,
  fun x0 x1 x2 v t st h => ru_go rfl rfl,
  fun x y ls st h => ru_go rfl rfl,
  fun i a ls st h => ru_lald rfl,
  fun x0 x1 x2 x3 x4 x5 v t st h => ru_go rfl rfl,
  fun v t st h => ru_go rfl rfl,
  fun a ls st h => ru_getf rfl,
  fun ls st h => ru_go rfl rfl,
  fun x0 x1 v t st h => ru_go rfl rfl,
  fun x y ls st h => ru_go rfl rfl,
  fun x0 x1 x2 v t st h => ru_go rfl rfl,
  fun x y ls st h => ru_go rfl rfl,
  fun i a ls st h => ru_lald rfl,
  fun x0 x1 x2 x3 x4 x5 x6 x7 v t st h => ru_go rfl rfl,
  fun x0 x1 x2 x3 v t st h => ru_go rfl rfl,
  fun x0 x1 x2 x3 x4 x5 v t st h => ru_go rfl rfl,
  fun x y ls st h => ru_go rfl rfl,
  fun x ls st h => ru_if rfl rfl,
  fun x0 x1 x2 x3 v t st h => ru_go rfl rfl,
  fun x0 x1 x2 x3 x4 x5 v t st h => ru_go rfl rfl,
  fun x y ls st h => ru_go rfl rfl,
  fun x ls st h => ru_if rfl rfl,
  fun ls st h => ru_go rfl rfl,
  fun ls st h => ru_go rfl rfl,
  fun ls st h => ru_go rfl rfl,
  fun x ls h => ru_bret rfl rfl,
  fun x0 x1 x2 v t st h => ru_go rfl rfl,
  fun ls st h => ru_go rfl rfl,
  fun x ls h => ru_bret rfl rfl⟩
theorem E37 (a0 : Nat) (a1 : Int32) (a2 : Int32) {h : eH} {fs : List Value} (ha : h.1 a0 = .inr (11, fs)) : den 37 [.ref a0, .int a1, .int a2] h = ru 37 0 [some (.ref a0), some (.int a1), some (.int a2), none, none, none, none, none] [] h := den_ob (Nat.le_of_ble_eq_true rfl) ha
/-! 38 X11_result -/
set_option maxRecDepth 100000 in
theorem H38_87 : (∀ (v : Nat) (t : eL) (st : List Value) (h : eH), ru 38 87 (some (.ref v) :: t) st h = ru 38 88 (some (.ref v) :: t) (.ref v :: st) h) := fun v t st h => ru_go rfl rfl
set_option maxRecDepth 100000 in
theorem H38_119 : (∀ (v : Nat) (t : eL) (st : List Value) (h : eH), ru 38 119 (some (.ref v) :: t) st h = ru 38 120 (some (.ref v) :: t) (.ref v :: st) h) := fun v t st h => ru_go rfl rfl
set_option maxRecDepth 100000 in
theorem H38_127 : (∀ (v : Nat) (t : eL) (st : List Value) (h : eH), ru 38 127 (some (.ref v) :: t) st h = ru 38 128 (some (.ref v) :: t) (.ref v :: st) h) := fun v t st h => ru_go rfl rfl
set_option maxRecDepth 100000 in
theorem H38_143 : (∀ (v : Nat) (t : eL) (st : List Value) (h : eH), ru 38 143 (some (.ref v) :: t) st h = ru 38 144 (some (.ref v) :: t) (.ref v :: st) h) := fun v t st h => ru_go rfl rfl
set_option maxRecDepth 100000 in
theorem H38_159 : (∀ (v : Nat) (t : eL) (st : List Value) (h : eH), ru 38 159 (some (.ref v) :: t) st h = ru 38 160 (some (.ref v) :: t) (.ref v :: st) h) := fun v t st h => ru_go rfl rfl
set_option maxRecDepth 100000 in
theorem H38_192 : (∀ (ls : eL) (st : List Value) (h : eH), ru 38 192 ls st h = ru 38 193 ls (.int (nI 0) :: st) h) := fun ls st h => ru_go rfl rfl
set_option maxRecDepth 100000 in
theorem H38_195 : (∀ (x0 x1 x2 x3 x4 : Option Value) (v : Int32) (t : eL) (st : List Value) (h : eH), ru 38 195 (x0 :: x1 :: x2 :: x3 :: x4 :: some (.int v) :: t) st h = ru 38 197 (x0 :: x1 :: x2 :: x3 :: x4 :: some (.int v) :: t) (.int v :: st) h) := fun x0 x1 x2 x3 x4 v t st h => ru_go rfl rfl
set_option maxRecDepth 100000 in
theorem H38_221 : (∀ (v : Nat) (t : eL) (st : List Value) (h : eH), ru 38 221 (some (.ref v) :: t) st h = ru 38 222 (some (.ref v) :: t) (.ref v :: st) h) := fun v t st h => ru_go rfl rfl
set_option maxRecDepth 100000 in
theorem S38 : (∀ (v : Nat) (t : eL) (st : List Value) (h : eH), ru 38 0 (some (.ref v) :: t) st h = ru 38 1 (some (.ref v) :: t) (.ref v :: st) h) ∧
  (∀ (x0 : Option Value) (v : Int32) (t : eL) (st : List Value) (h : eH), ru 38 1 (x0 :: some (.int v) :: t) st h = ru 38 2 (x0 :: some (.int v) :: t) (.int v :: st) h) ∧
  (∀ (a0 : Nat) (a1 : Int32) (ls : eL) (h : eH), ru 38 2 ls [.int a1, .ref a0] h = cl (den 17 [.ref a0, .int a1] h) (fun v h => ru 38 5 ls (v.toList ++ []) h)) ∧
  (∀ (v : Nat) (t : eL) (st : List Value) (h : eH), ru 38 5 (some (.ref v) :: t) st h = ru 38 6 (some (.ref v) :: t) (.ref v :: st) h) ∧
  (∀ (x0 x1 : Option Value) (v : Int32) (t : eL) (st : List Value) (h : eH), ru 38 6 (x0 :: x1 :: some (.int v) :: t) st h = ru 38 7 (x0 :: x1 :: some (.int v) :: t) (.int v :: st) h) ∧
  (∀ (a0 : Nat) (a1 : Int32) (u0 : Int32) (ls : eL) (h : eH), ru 38 7 ls [.int a1, .ref a0, .int u0] h = cl (den 17 [.ref a0, .int a1] h) (fun v h => ru 38 10 ls (v.toList ++ [.int u0]) h)) ∧
  (∀ (x y : Int32) (ls : eL) (st : List Value) (h : eH), ru 38 10 ls (.int y :: .int x :: st) h = if x = y then ru 38 17 ls st h else ru 38 13 ls st h) ∧
  (∀ (ls : eL) (st : List Value) (h : eH), ru 38 13 ls st h = ru 38 14 ls (.int (nI 1) :: st) h) ∧
  (∀ (ls : eL) (st : List Value) (h : eH), ru 38 14 ls st h = ru 38 18 ls st h) ∧
  (∀ (ls : eL) (st : List Value) (h : eH), ru 38 17 ls st h = ru 38 18 ls (.int (nI 0) :: st) h) ∧
  (∀ (x0 x1 x2 x3 : Option Value) (v : Int32) (t : eL) (st : List Value) (h : eH), ru 38 18 (x0 :: x1 :: x2 :: x3 :: t) (.int v :: st) h = ru 38 19 (x0 :: x1 :: eKl x2 :: some (.int v) :: t) st h) ∧
  (∀ (v : Nat) (t : eL) (st : List Value) (h : eH), ru 38 19 (some (.ref v) :: t) st h = ru 38 20 (some (.ref v) :: t) (.ref v :: st) h) ∧
  (∀ (ls : eL) (st : List Value) (h : eH), ru 38 20 ls st h = ru 38 21 ls (.int (nI 0) :: st) h) ∧
  (∀ (x0 : Option Value) (v : Int32) (t : eL) (st : List Value) (h : eH), ru 38 21 (x0 :: some (.int v) :: t) st h = ru 38 22 (x0 :: some (.int v) :: t) (.int v :: st) h) ∧
  (∀ (a0 : Nat) (a1 : Int32) (a2 : Int32) (ls : eL) (h : eH), ru 38 22 ls [.int a2, .int a1, .ref a0] h = cl (den 20 [.ref a0, .int a1, .int a2] h) (fun v h => ru 38 25 ls (v.toList ++ []) h)) ∧
  (∀ (v : Nat) (t : eL) (st : List Value) (h : eH), ru 38 25 (some (.ref v) :: t) st h = ru 38 26 (some (.ref v) :: t) (.ref v :: st) h) ∧
  (∀ (ls : eL) (st : List Value) (h : eH), ru 38 26 ls st h = ru 38 27 ls (.int (nI 1) :: st) h) ∧
  (∀ (x0 x1 : Option Value) (v : Int32) (t : eL) (st : List Value) (h : eH), ru 38 27 (x0 :: x1 :: some (.int v) :: t) st h = ru 38 28 (x0 :: x1 :: some (.int v) :: t) (.int v :: st) h) ∧
  (∀ (a0 : Nat) (a1 : Int32) (a2 : Int32) (ls : eL) (h : eH), ru 38 28 ls [.int a2, .int a1, .ref a0] h = cl (den 20 [.ref a0, .int a1, .int a2] h) (fun v h => ru 38 31 ls (v.toList ++ []) h)) ∧
  (∀ (v : Nat) (t : eL) (st : List Value) (h : eH), ru 38 31 (some (.ref v) :: t) st h = ru 38 32 (some (.ref v) :: t) (.ref v :: st) h) ∧
  (∀ (ls : eL) (st : List Value) (h : eH), ru 38 32 ls st h = ru 38 33 ls (.int (nI 0) :: st) h) ∧
  (∀ (a0 : Nat) (a1 : Int32) (ls : eL) (h : eH), ru 38 33 ls [.int a1, .ref a0] h = cl (den 17 [.ref a0, .int a1] h) (fun v h => ru 38 36 ls (v.toList ++ []) h)) ∧
  (∀ (x : Int32) (ls : eL) (st : List Value) (h : eH), ru 38 36 ls (.int x :: st) h = if x = 0 then ru 38 44 ls st h else ru 38 39 ls st h) ∧
  (∀ (v : Nat) (t : eL) (st : List Value) (h : eH), ru 38 39 (some (.ref v) :: t) st h = ru 38 40 (some (.ref v) :: t) (.ref v :: st) h) ∧
  (∀ (ls : eL) (st : List Value) (h : eH), ru 38 40 ls st h = ru 38 41 ls (.int (nI 0) :: st) h) ∧
  (∀ (a0 : Nat) (a1 : Int32) (ls : eL) (h : eH), ru 38 41 ls [.int a1, .ref a0] h = cl (den 18 [.ref a0, .int a1] h) (fun v h => ru 38 44 ls (v.toList ++ []) h)) ∧
  (∀ (v : Nat) (t : eL) (st : List Value) (h : eH), ru 38 44 (some (.ref v) :: t) st h = ru 38 45 (some (.ref v) :: t) (.ref v :: st) h) ∧
  (∀ (ls : eL) (st : List Value) (h : eH), ru 38 45 ls st h = ru 38 46 ls (.int (nI 1) :: st) h) ∧
  (∀ (a0 : Nat) (a1 : Int32) (ls : eL) (h : eH), ru 38 46 ls [.int a1, .ref a0] h = cl (den 17 [.ref a0, .int a1] h) (fun v h => ru 38 49 ls (v.toList ++ []) h)) ∧
  (∀ (x : Int32) (ls : eL) (st : List Value) (h : eH), ru 38 49 ls (.int x :: st) h = if x = 0 then ru 38 57 ls st h else ru 38 52 ls st h) ∧
  (∀ (v : Nat) (t : eL) (st : List Value) (h : eH), ru 38 52 (some (.ref v) :: t) st h = ru 38 53 (some (.ref v) :: t) (.ref v :: st) h) ∧
  (∀ (ls : eL) (st : List Value) (h : eH), ru 38 53 ls st h = ru 38 54 ls (.int (nI 1) :: st) h) ∧
  (∀ (a0 : Nat) (a1 : Int32) (ls : eL) (h : eH), ru 38 54 ls [.int a1, .ref a0] h = cl (den 18 [.ref a0, .int a1] h) (fun v h => ru 38 57 ls (v.toList ++ []) h)) ∧
  (∀ (v : Nat) (t : eL) (st : List Value) (h : eH), ru 38 57 (some (.ref v) :: t) st h = ru 38 58 (some (.ref v) :: t) (.ref v :: st) h) ∧
  (∀ (ls : eL) (st : List Value) (h : eH), ru 38 58 ls st h = ru 38 59 ls (.int (nI 0) :: st) h) ∧
  (∀ (a0 : Nat) (a1 : Int32) (ls : eL) (h : eH), ru 38 59 ls [.int a1, .ref a0] h = cl (den 25 [.ref a0, .int a1] h) (fun v h => ru 38 62 ls (v.toList ++ []) h)) ∧
  (∀ (x : Int32) (ls : eL) (st : List Value) (h : eH), ru 38 62 ls (.int x :: st) h = if x = 0 then ru 38 72 ls st h else ru 38 65 ls st h) ∧
  (∀ (v : Nat) (t : eL) (st : List Value) (h : eH), ru 38 65 (some (.ref v) :: t) st h = ru 38 66 (some (.ref v) :: t) (.ref v :: st) h) ∧
  (∀ (ls : eL) (st : List Value) (h : eH), ru 38 66 ls st h = ru 38 67 ls (.int (nI 1) :: st) h) ∧
  (∀ (ls : eL) (st : List Value) (h : eH), ru 38 67 ls st h = ru 38 68 ls (.long (lN 1) :: st) h) ∧
  (∀ (a0 : Nat) (a1 : Int32) (a2 : Int64) (ls : eL) (h : eH), ru 38 68 ls [.long a2, .int a1, .ref a0] h = cl (den 12 [.ref a0, .int a1, .long a2] h) (fun v h => ru 38 71 ls (v.toList ++ []) h)) ∧
  (∀ (ls : eL) (h : eH), ru 38 71 ls [] h = some (none, h)) ∧
  (∀ (v : Nat) (t : eL) (st : List Value) (h : eH), ru 38 72 (some (.ref v) :: t) st h = ru 38 73 (some (.ref v) :: t) (.ref v :: st) h) ∧
  (∀ (ls : eL) (st : List Value) (h : eH), ru 38 73 ls st h = ru 38 74 ls (.int (nI 2) :: st) h) ∧
  (∀ (ls : eL) (st : List Value) (h : eH), ru 38 74 ls st h = ru 38 75 ls (.int (nI 0) :: st) h) ∧
  (∀ (a0 : Nat) (a1 : Int32) (a2 : Int32) (ls : eL) (h : eH), ru 38 75 ls [.int a2, .int a1, .ref a0] h = cl (den 20 [.ref a0, .int a1, .int a2] h) (fun v h => ru 38 78 ls (v.toList ++ []) h)) ∧
  (∀ (v : Nat) (t : eL) (st : List Value) (h : eH), ru 38 78 (some (.ref v) :: t) st h = ru 38 79 (some (.ref v) :: t) (.ref v :: st) h) ∧
  (∀ (ls : eL) (st : List Value) (h : eH), ru 38 79 ls st h = ru 38 80 ls (.int (nI 3) :: st) h) ∧
  (∀ (ls : eL) (st : List Value) (h : eH), ru 38 80 ls st h = ru 38 81 ls (.int (nI 1) :: st) h) ∧
  (∀ (a0 : Nat) (a1 : Int32) (a2 : Int32) (ls : eL) (h : eH), ru 38 81 ls [.int a2, .int a1, .ref a0] h = cl (den 20 [.ref a0, .int a1, .int a2] h) (fun v h => ru 38 84 ls (v.toList ++ []) h)) ∧
  (∀ (ls : eL) (st : List Value) (h : eH), ru 38 84 ls st h = ru 38 85 ls (.int (nI 0) :: st) h) ∧
  (∀ (x0 x1 x2 x3 x4 : Option Value) (v : Int32) (t : eL) (st : List Value) (h : eH), ru 38 85 (x0 :: x1 :: x2 :: x3 :: x4 :: t) (.int v :: st) h = ru 38 87 (x0 :: x1 :: x2 :: eKl x3 :: some (.int v) :: t) st h) ∧
  (∀ (ls : eL) (st : List Value) (h : eH), ru 38 88 ls st h = ru 38 89 ls (.int (nI 2) :: st) h) ∧
  (∀ (a0 : Nat) (a1 : Int32) (ls : eL) (h : eH), ru 38 89 ls [.int a1, .ref a0] h = cl (den 35 [.ref a0, .int a1] h) (fun v h => ru 38 92 ls (v.toList ++ []) h)) ∧
  (∀ (x : Int32) (ls : eL) (st : List Value) (h : eH), ru 38 92 ls (.int x :: st) h = if x = 0 then ru 38 119 ls st h else ru 38 95 ls st h) ∧
  (∀ (v : Nat) (t : eL) (st : List Value) (h : eH), ru 38 95 (some (.ref v) :: t) st h = ru 38 96 (some (.ref v) :: t) (.ref v :: st) h) ∧
  (∀ (ls : eL) (st : List Value) (h : eH), ru 38 96 ls st h = ru 38 97 ls (.int (nI 3) :: st) h) ∧
  (∀ (a0 : Nat) (a1 : Int32) (ls : eL) (h : eH), ru 38 97 ls [.int a1, .ref a0] h = cl (den 35 [.ref a0, .int a1] h) (fun v h => ru 38 100 ls (v.toList ++ []) h)) ∧
  (∀ (x : Int32) (ls : eL) (st : List Value) (h : eH), ru 38 100 ls (.int x :: st) h = if x = 0 then ru 38 119 ls st h else ru 38 103 ls st h) ∧
  (∀ (v : Nat) (t : eL) (st : List Value) (h : eH), ru 38 103 (some (.ref v) :: t) st h = ru 38 104 (some (.ref v) :: t) (.ref v :: st) h) ∧
  (∀ (ls : eL) (st : List Value) (h : eH), ru 38 104 ls st h = ru 38 105 ls (.int (nI 2) :: st) h) ∧
  (∀ (a0 : Nat) (a1 : Int32) (ls : eL) (h : eH), ru 38 105 ls [.int a1, .ref a0] h = cl (den 36 [.ref a0, .int a1] h) (fun v h => ru 38 108 ls (v.toList ++ []) h)) ∧
  (∀ (v : Nat) (t : eL) (st : List Value) (h : eH), ru 38 108 (some (.ref v) :: t) st h = ru 38 109 (some (.ref v) :: t) (.ref v :: st) h) ∧
  (∀ (ls : eL) (st : List Value) (h : eH), ru 38 109 ls st h = ru 38 110 ls (.int (nI 3) :: st) h) ∧
  (∀ (a0 : Nat) (a1 : Int32) (ls : eL) (h : eH), ru 38 110 ls [.int a1, .ref a0] h = cl (den 36 [.ref a0, .int a1] h) (fun v h => ru 38 113 ls (v.toList ++ []) h)) ∧
  (∀ (x0 x1 x2 x3 : Option Value) (v : Int32) (t : eL) (st : List Value) (h : eH), ru 38 113 (x0 :: x1 :: x2 :: x3 :: some (.int v) :: t) st h = ru 38 116 (x0 :: x1 :: x2 :: eKl x3 :: some (.int (v + 1)) :: t) st h) ∧
  (∀ (ls : eL) (st : List Value) (h : eH), ru 38 116 ls st h = ru 38 87 ls st h) ∧
  (∀ (ls : eL) (st : List Value) (h : eH), ru 38 120 ls st h = ru 38 121 ls (.int (nI 2) :: st) h) ∧
  (∀ (a0 : Nat) (a1 : Int32) (ls : eL) (h : eH), ru 38 121 ls [.int a1, .ref a0] h = cl (den 25 [.ref a0, .int a1] h) (fun v h => ru 38 124 ls (v.toList ++ []) h)) ∧
  (∀ (x : Int32) (ls : eL) (st : List Value) (h : eH), ru 38 124 ls (.int x :: st) h = if x = 0 then ru 38 127 ls st h else ru 38 192 ls st h) ∧
  (∀ (ls : eL) (st : List Value) (h : eH), ru 38 128 ls st h = ru 38 129 ls (.int (nI 2) :: st) h) ∧
  (∀ (a0 : Nat) (a1 : Int32) (ls : eL) (h : eH), ru 38 129 ls [.int a1, .ref a0] h = cl (den 35 [.ref a0, .int a1] h) (fun v h => ru 38 132 ls (v.toList ++ []) h)) ∧
  (∀ (x : Int32) (ls : eL) (st : List Value) (h : eH), ru 38 132 ls (.int x :: st) h = if x = 0 then ru 38 143 ls st h else ru 38 135 ls st h) ∧
  (∀ (v : Nat) (t : eL) (st : List Value) (h : eH), ru 38 135 (some (.ref v) :: t) st h = ru 38 136 (some (.ref v) :: t) (.ref v :: st) h) ∧
  (∀ (ls : eL) (st : List Value) (h : eH), ru 38 136 ls st h = ru 38 137 ls (.int (nI 2) :: st) h) ∧
  (∀ (a0 : Nat) (a1 : Int32) (ls : eL) (h : eH), ru 38 137 ls [.int a1, .ref a0] h = cl (den 36 [.ref a0, .int a1] h) (fun v h => ru 38 140 ls (v.toList ++ []) h)) ∧
  (∀ (ls : eL) (st : List Value) (h : eH), ru 38 140 ls st h = ru 38 127 ls st h) ∧
  (∀ (ls : eL) (st : List Value) (h : eH), ru 38 144 ls st h = ru 38 145 ls (.int (nI 3) :: st) h) ∧
  (∀ (a0 : Nat) (a1 : Int32) (ls : eL) (h : eH), ru 38 145 ls [.int a1, .ref a0] h = cl (den 35 [.ref a0, .int a1] h) (fun v h => ru 38 148 ls (v.toList ++ []) h)) ∧
  (∀ (x : Int32) (ls : eL) (st : List Value) (h : eH), ru 38 148 ls (.int x :: st) h = if x = 0 then ru 38 159 ls st h else ru 38 151 ls st h) ∧
  (∀ (v : Nat) (t : eL) (st : List Value) (h : eH), ru 38 151 (some (.ref v) :: t) st h = ru 38 152 (some (.ref v) :: t) (.ref v :: st) h) ∧
  (∀ (ls : eL) (st : List Value) (h : eH), ru 38 152 ls st h = ru 38 153 ls (.int (nI 3) :: st) h) ∧
  (∀ (a0 : Nat) (a1 : Int32) (ls : eL) (h : eH), ru 38 153 ls [.int a1, .ref a0] h = cl (den 36 [.ref a0, .int a1] h) (fun v h => ru 38 156 ls (v.toList ++ []) h)) ∧
  (∀ (ls : eL) (st : List Value) (h : eH), ru 38 156 ls st h = ru 38 143 ls st h) ∧
  (∀ (ls : eL) (st : List Value) (h : eH), ru 38 160 ls st h = ru 38 161 ls (.int (nI 2) :: st) h) ∧
  (∀ (ls : eL) (st : List Value) (h : eH), ru 38 161 ls st h = ru 38 162 ls (.int (nI 3) :: st) h) ∧
  (∀ (a0 : Nat) (a1 : Int32) (a2 : Int32) (ls : eL) (h : eH), ru 38 162 ls [.int a2, .int a1, .ref a0] h = cl (den 37 [.ref a0, .int a1, .int a2] h) (fun v h => ru 38 165 ls (v.toList ++ []) h)) ∧
  (∀ (x : Int32) (ls : eL) (st : List Value) (h : eH), ru 38 165 ls (.int x :: st) h = if x = 0 then ru 38 180 ls st h else ru 38 168 ls st h) ∧
  (∀ (v : Nat) (t : eL) (st : List Value) (h : eH), ru 38 168 (some (.ref v) :: t) st h = ru 38 169 (some (.ref v) :: t) (.ref v :: st) h) ∧
  (∀ (ls : eL) (st : List Value) (h : eH), ru 38 169 ls st h = ru 38 170 ls (.int (nI 3) :: st) h) ∧
  (∀ (ls : eL) (st : List Value) (h : eH), ru 38 170 ls st h = ru 38 171 ls (.int (nI 2) :: st) h) ∧
  (∀ (ls : eL) (st : List Value) (h : eH), ru 38 171 ls st h = ru 38 174 ls (.long (-lN 1) :: st) h) ∧
  (∀ (a0 : Nat) (a1 : Int32) (a2 : Int32) (a3 : Int64) (ls : eL) (h : eH), ru 38 174 ls [.long a3, .int a2, .int a1, .ref a0] h = cl (den 15 [.ref a0, .int a1, .int a2, .long a3] h) (fun v h => ru 38 177 ls (v.toList ++ []) h)) ∧
  (∀ (ls : eL) (st : List Value) (h : eH), ru 38 177 ls st h = ru 38 119 ls st h) ∧
  (∀ (v : Nat) (t : eL) (st : List Value) (h : eH), ru 38 180 (some (.ref v) :: t) st h = ru 38 181 (some (.ref v) :: t) (.ref v :: st) h) ∧
  (∀ (ls : eL) (st : List Value) (h : eH), ru 38 181 ls st h = ru 38 182 ls (.int (nI 2) :: st) h) ∧
  (∀ (ls : eL) (st : List Value) (h : eH), ru 38 182 ls st h = ru 38 183 ls (.int (nI 3) :: st) h) ∧
  (∀ (ls : eL) (st : List Value) (h : eH), ru 38 183 ls st h = ru 38 186 ls (.long (-lN 1) :: st) h) ∧
  (∀ (a0 : Nat) (a1 : Int32) (a2 : Int32) (a3 : Int64) (ls : eL) (h : eH), ru 38 186 ls [.long a3, .int a2, .int a1, .ref a0] h = cl (den 15 [.ref a0, .int a1, .int a2, .long a3] h) (fun v h => ru 38 189 ls (v.toList ++ []) h)) ∧
  (∀ (ls : eL) (st : List Value) (h : eH), ru 38 189 ls st h = ru 38 119 ls st h) ∧
  (∀ (x0 x1 x2 x3 x4 x5 : Option Value) (v : Int32) (t : eL) (st : List Value) (h : eH), ru 38 193 (x0 :: x1 :: x2 :: x3 :: x4 :: x5 :: t) (.int v :: st) h = ru 38 195 (x0 :: x1 :: x2 :: x3 :: eKl x4 :: some (.int v) :: t) st h) ∧
  (∀ (x0 x1 x2 x3 : Option Value) (v : Int32) (t : eL) (st : List Value) (h : eH), ru 38 197 (x0 :: x1 :: x2 :: x3 :: some (.int v) :: t) st h = ru 38 199 (x0 :: x1 :: x2 :: x3 :: some (.int v) :: t) (.int v :: st) h) ∧
  (∀ (x y : Int32) (ls : eL) (st : List Value) (h : eH), ru 38 199 ls (.int y :: .int x :: st) h = if y ≤ x then ru 38 221 ls st h else ru 38 202 ls st h) ∧
  (∀ (v : Nat) (t : eL) (st : List Value) (h : eH), ru 38 202 (some (.ref v) :: t) st h = ru 38 203 (some (.ref v) :: t) (.ref v :: st) h) ∧
  (∀ (ls : eL) (st : List Value) (h : eH), ru 38 203 ls st h = ru 38 204 ls (.int (nI 4) :: st) h) ∧
  (∀ (ls : eL) (st : List Value) (h : eH), ru 38 204 ls st h = ru 38 205 ls (.int (nI 3) :: st) h) ∧
  (∀ (a0 : Nat) (a1 : Int32) (a2 : Int32) (ls : eL) (h : eH), ru 38 205 ls [.int a2, .int a1, .ref a0] h = cl (den 20 [.ref a0, .int a1, .int a2] h) (fun v h => ru 38 208 ls (v.toList ++ []) h)) ∧
  (∀ (v : Nat) (t : eL) (st : List Value) (h : eH), ru 38 208 (some (.ref v) :: t) st h = ru 38 209 (some (.ref v) :: t) (.ref v :: st) h) ∧
  (∀ (ls : eL) (st : List Value) (h : eH), ru 38 209 ls st h = ru 38 210 ls (.int (nI 3) :: st) h) ∧
  (∀ (ls : eL) (st : List Value) (h : eH), ru 38 210 ls st h = ru 38 211 ls (.int (nI 4) :: st) h) ∧
  (∀ (ls : eL) (st : List Value) (h : eH), ru 38 211 ls st h = ru 38 212 ls (.long (lN 1) :: st) h) ∧
  (∀ (a0 : Nat) (a1 : Int32) (a2 : Int32) (a3 : Int64) (ls : eL) (h : eH), ru 38 212 ls [.long a3, .int a2, .int a1, .ref a0] h = cl (den 15 [.ref a0, .int a1, .int a2, .long a3] h) (fun v h => ru 38 215 ls (v.toList ++ []) h)) ∧
  (∀ (x0 x1 x2 x3 x4 : Option Value) (v : Int32) (t : eL) (st : List Value) (h : eH), ru 38 215 (x0 :: x1 :: x2 :: x3 :: x4 :: some (.int v) :: t) st h = ru 38 218 (x0 :: x1 :: x2 :: x3 :: eKl x4 :: some (.int (v + 1)) :: t) st h) ∧
  (∀ (ls : eL) (st : List Value) (h : eH), ru 38 218 ls st h = ru 38 195 ls st h) ∧
  (∀ (ls : eL) (st : List Value) (h : eH), ru 38 222 ls st h = ru 38 223 ls (.int (nI 0) :: st) h) ∧
  (∀ (ls : eL) (st : List Value) (h : eH), ru 38 223 ls st h = ru 38 224 ls (.int (nI 3) :: st) h) ∧
  (∀ (a0 : Nat) (a1 : Int32) (a2 : Int32) (ls : eL) (h : eH), ru 38 224 ls [.int a2, .int a1, .ref a0] h = cl (den 29 [.ref a0, .int a1, .int a2] h) (fun v h => ru 38 227 ls (v.toList ++ []) h)) ∧
  (∀ (v : Nat) (t : eL) (st : List Value) (h : eH), ru 38 227 (some (.ref v) :: t) st h = ru 38 228 (some (.ref v) :: t) (.ref v :: st) h) ∧
  (∀ (ls : eL) (st : List Value) (h : eH), ru 38 228 ls st h = ru 38 229 ls (.int (nI 1) :: st) h) ∧
  (∀ (ls : eL) (st : List Value) (h : eH), ru 38 229 ls st h = ru 38 230 ls (.int (nI 3) :: st) h) ∧
  (∀ (a0 : Nat) (a1 : Int32) (a2 : Int32) (ls : eL) (h : eH), ru 38 230 ls [.int a2, .int a1, .ref a0] h = cl (den 29 [.ref a0, .int a1, .int a2] h) (fun v h => ru 38 233 ls (v.toList ++ []) h)) ∧
  (∀ (x0 x1 x2 : Option Value) (v : Int32) (t : eL) (st : List Value) (h : eH), ru 38 233 (x0 :: x1 :: x2 :: some (.int v) :: t) st h = ru 38 234 (x0 :: x1 :: x2 :: some (.int v) :: t) (.int v :: st) h) ∧
  (∀ (x : Int32) (ls : eL) (st : List Value) (h : eH), ru 38 234 ls (.int x :: st) h = if x = 0 then ru 38 242 ls st h else ru 38 237 ls st h) ∧
  (∀ (v : Nat) (t : eL) (st : List Value) (h : eH), ru 38 237 (some (.ref v) :: t) st h = ru 38 238 (some (.ref v) :: t) (.ref v :: st) h) ∧
  (∀ (ls : eL) (st : List Value) (h : eH), ru 38 238 ls st h = ru 38 239 ls (.int (nI 0) :: st) h) ∧
  (∀ (a0 : Nat) (a1 : Int32) (ls : eL) (h : eH), ru 38 239 ls [.int a1, .ref a0] h = cl (den 18 [.ref a0, .int a1] h) (fun v h => ru 38 242 ls (v.toList ++ []) h)) ∧
  (∀ (ls : eL) (h : eH), ru 38 242 ls [] h = some (none, h)) := ⟨fun v t st h => ru_go rfl rfl,
  fun x0 v t st h => ru_go rfl rfl,
  fun a0 a1 ls h => ru_inv rfl (by decide) rfl (Nat.le_of_ble_eq_true rfl),
  fun v t st h => ru_go rfl rfl,
  fun x0 x1 v t st h => ru_go rfl rfl,
  fun a0 a1 u0 ls h => ru_inv rfl (by decide) rfl (Nat.le_of_ble_eq_true rfl),
  fun x y ls st h => ru_if rfl rfl,
  fun ls st h => ru_go rfl rfl,
  fun ls st h => ru_go rfl rfl,
  fun ls st h => ru_go rfl rfl,
  fun x0 x1 x2 x3 v t st h => ru_go rfl rfl,
  fun v t st h => ru_go rfl rfl,
  fun ls st h => ru_go rfl rfl,
  fun x0 v t st h => ru_go rfl rfl,
  fun a0 a1 a2 ls h => ru_inv rfl (by decide) rfl (Nat.le_of_ble_eq_true rfl),
  fun v t st h => ru_go rfl rfl,
  fun ls st h => ru_go rfl rfl,
  fun x0 x1 v t st h => ru_go rfl rfl,
  fun a0 a1 a2 ls h => ru_inv rfl (by decide) rfl (Nat.le_of_ble_eq_true rfl),
  fun v t st h => ru_go rfl rfl,
  fun ls st h => ru_go rfl rfl,
  fun a0 a1 ls h => ru_inv rfl (by decide) rfl (Nat.le_of_ble_eq_true rfl),
  fun x ls st h => ru_if rfl rfl,
  fun v t st h => ru_go rfl rfl,
  fun ls st h => ru_go rfl rfl,
  fun a0 a1 ls h => ru_inv rfl (by decide) rfl (Nat.le_of_ble_eq_true rfl),
  fun v t st h => ru_go rfl rfl,
  fun ls st h => ru_go rfl rfl,
  fun a0 a1 ls h => ru_inv rfl (by decide) rfl (Nat.le_of_ble_eq_true rfl),
  fun x ls st h => ru_if rfl rfl,
  fun v t st h => ru_go rfl rfl,
  fun ls st h => ru_go rfl rfl,
  fun a0 a1 ls h => ru_inv rfl (by decide) rfl (Nat.le_of_ble_eq_true rfl),
  fun v t st h => ru_go rfl rfl,
  fun ls st h => ru_go rfl rfl,
  fun a0 a1 ls h => ru_inv rfl (by decide) rfl (Nat.le_of_ble_eq_true rfl),
  fun x ls st h => ru_if rfl rfl,
  fun v t st h => ru_go rfl rfl,
  fun ls st h => ru_go rfl rfl,
  fun ls st h => ru_go rfl rfl,
  fun a0 a1 a2 ls h => ru_inv rfl (by decide) rfl (Nat.le_of_ble_eq_true rfl),
  fun ls h => ru_ret rfl rfl,
  fun v t st h => ru_go rfl rfl,
  fun ls st h => ru_go rfl rfl,
  fun ls st h => ru_go rfl rfl,
  fun a0 a1 a2 ls h => ru_inv rfl (by decide) rfl (Nat.le_of_ble_eq_true rfl),
  fun v t st h => ru_go rfl rfl,
  fun ls st h => ru_go rfl rfl,
  fun ls st h => ru_go rfl rfl,
  fun a0 a1 a2 ls h => ru_inv rfl (by decide) rfl (Nat.le_of_ble_eq_true rfl),
  fun ls st h => ru_go rfl rfl,
  fun x0 x1 x2 x3 x4 v t st h => ru_go rfl rfl,
  fun ls st h => ru_go rfl rfl,
  fun a0 a1 ls h => ru_inv rfl (by decide) rfl (Nat.le_of_ble_eq_true rfl),
  fun x ls st h => ru_if rfl rfl,
  fun v t st h => ru_go rfl rfl,
  fun ls st h => ru_go rfl rfl,
  fun a0 a1 ls h => ru_inv rfl (by decide) rfl (Nat.le_of_ble_eq_true rfl),
  fun x ls st h => ru_if rfl rfl,
  fun v t st h => ru_go rfl rfl,
  fun ls st h => ru_go rfl rfl,
  fun a0 a1 ls h => ru_inv rfl (by decide) rfl (Nat.le_of_ble_eq_true rfl),
  fun v t st h => ru_go rfl rfl,
  fun ls st h => ru_go rfl rfl,
  fun a0 a1 ls h => ru_inv rfl (by decide) rfl (Nat.le_of_ble_eq_true rfl),
  fun x0 x1 x2 x3 v t st h => ru_go rfl rfl,
  fun ls st h => ru_go rfl rfl,
  fun ls st h => ru_go rfl rfl,
  fun a0 a1 ls h => ru_inv rfl (by decide) rfl (Nat.le_of_ble_eq_true rfl),
  fun x ls st h => ru_if rfl rfl,
  fun ls st h => ru_go rfl rfl,
  fun a0 a1 ls h => ru_inv rfl (by decide) rfl (Nat.le_of_ble_eq_true rfl),
  fun x ls st h => ru_if rfl rfl,
  fun v t st h => ru_go rfl rfl,
  fun ls st h => ru_go rfl rfl,
  fun a0 a1 ls h => ru_inv rfl (by decide) rfl (Nat.le_of_ble_eq_true rfl),
  fun ls st h => ru_go rfl rfl,
  fun ls st h => ru_go rfl rfl,
  fun a0 a1 ls h => ru_inv rfl (by decide) rfl (Nat.le_of_ble_eq_true rfl),
  fun x ls st h => ru_if rfl rfl,
  fun v t st h => ru_go rfl rfl,
  fun ls st h => ru_go rfl rfl,
  fun a0 a1 ls h => ru_inv rfl (by decide) rfl (Nat.le_of_ble_eq_true rfl),
  fun ls st h => ru_go rfl rfl,
  fun ls st h => ru_go rfl rfl,
  fun ls st h => ru_go rfl rfl,
  fun a0 a1 a2 ls h => ru_inv rfl (by decide) rfl (Nat.le_of_ble_eq_true rfl),
  fun x ls st h => ru_if rfl rfl,
  fun v t st h => ru_go rfl rfl,
  fun ls st h => ru_go rfl rfl,
  fun ls st h => ru_go rfl rfl,
  fun ls st h => ru_go rfl rfl,
  fun a0 a1 a2 a3 ls h => ru_inv rfl (by decide) rfl (Nat.le_of_ble_eq_true rfl),
  fun ls st h => ru_go rfl rfl,
  fun v t st h => ru_go rfl rfl,
  fun ls st h => ru_go rfl rfl,
  fun ls st h => ru_go rfl rfl,
  fun ls st h => ru_go rfl rfl,
  fun a0 a1 a2 a3 ls h => ru_inv rfl (by decide) rfl (Nat.le_of_ble_eq_true rfl),
  fun ls st h => ru_go rfl rfl,
  fun x0 x1 x2 x3 x4 x5 v t st h => ru_go rfl rfl,
  fun x0 x1 x2 x3 v t st h => ru_go rfl rfl,
  fun x y ls st h => ru_if rfl rfl,
  fun v t st h => ru_go rfl rfl,
  fun ls st h => ru_go rfl rfl,
  fun ls st h => ru_go rfl rfl,
  fun a0 a1 a2 ls h => ru_inv rfl (by decide) rfl (Nat.le_of_ble_eq_true rfl),
  fun v t st h => ru_go rfl rfl,
  fun ls st h => ru_go rfl rfl,
  fun ls st h => ru_go rfl rfl,
  fun ls st h => ru_go rfl rfl,
  fun a0 a1 a2 a3 ls h => ru_inv rfl (by decide) rfl (Nat.le_of_ble_eq_true rfl),
  fun x0 x1 x2 x3 x4 v t st h => ru_go rfl rfl,
  fun ls st h => ru_go rfl rfl,
  fun ls st h => ru_go rfl rfl,
  fun ls st h => ru_go rfl rfl,
  fun a0 a1 a2 ls h => ru_inv rfl (by decide) rfl (Nat.le_of_ble_eq_true rfl),
  fun v t st h => ru_go rfl rfl,
  fun ls st h => ru_go rfl rfl,
  fun ls st h => ru_go rfl rfl,
  fun a0 a1 a2 ls h => ru_inv rfl (by decide) rfl (Nat.le_of_ble_eq_true rfl),
  fun x0 x1 x2 v t st h => ru_go rfl rfl,
  fun x ls st h => ru_if rfl rfl,
  fun v t st h => ru_go rfl rfl,
  fun ls st h => ru_go rfl rfl,
  fun a0 a1 ls h => ru_inv rfl (by decide) rfl (Nat.le_of_ble_eq_true rfl),
  fun ls h => ru_ret rfl rfl⟩
theorem E38 (a0 : Nat) (a1 : Int32) (a2 : Int32) {h : eH} {fs : List Value} (ha : h.1 a0 = .inr (11, fs)) : den 38 [.ref a0, .int a1, .int a2] h = ru 38 0 [some (.ref a0), some (.int a1), some (.int a2), none, none, none] [] h := den_ob (Nat.le_of_ble_eq_true rfl) ha
/-! 39 X11_bears -/
set_option maxRecDepth 100000 in
theorem S39 : (∀ (v : Nat) (t : eL) (st : List Value) (h : eH), ru 39 0 (some (.ref v) :: t) st h = ru 39 1 (some (.ref v) :: t) (.ref v :: st) h) ∧
  (∀ (a0 : Nat) (ls : eL) (h : eH), ru 39 1 ls [.ref a0] h = cl (den 33 [.ref a0] h) (fun v h => ru 39 4 ls (v.toList ++ []) h)) ∧
  (∀ (x : Int32) (ls : eL) (st : List Value) (h : eH), ru 39 4 ls (.int x :: st) h = if x = 0 then ru 39 15 ls st h else ru 39 7 ls st h) ∧
  (∀ (v : Nat) (t : eL) (st : List Value) (h : eH), ru 39 7 (some (.ref v) :: t) st h = ru 39 8 (some (.ref v) :: t) (.ref v :: st) h) ∧
  (∀ (x0 : Option Value) (v : Int32) (t : eL) (st : List Value) (h : eH), ru 39 8 (x0 :: some (.int v) :: t) st h = ru 39 9 (x0 :: some (.int v) :: t) (.int v :: st) h) ∧
  (∀ (a0 : Nat) (a1 : Int32) (ls : eL) (h : eH), ru 39 9 ls [.int a1, .ref a0] h = cl (den 34 [.ref a0, .int a1] h) (fun v h => ru 39 12 ls (v.toList ++ []) h)) ∧
  (∀ (x : Int32) (ls : eL) (st : List Value) (h : eH), ru 39 12 ls (.int x :: st) h = if x = 0 then ru 39 15 ls st h else ru 39 17 ls st h) ∧
  (∀ (ls : eL) (st : List Value) (h : eH), ru 39 15 ls st h = ru 39 16 ls (.int (nI 0) :: st) h) ∧
  (∀ (x : Int32) (ls : eL) (h : eH), ru 39 16 ls [.int x] h = bo (x == 0 || x == 1) (some (some (.int x), h))) ∧
  (∀ (v : Nat) (t : eL) (st : List Value) (h : eH), ru 39 17 (some (.ref v) :: t) st h = ru 39 18 (some (.ref v) :: t) (.ref v :: st) h) ∧
  (∀ (a : Nat) (ls : eL) (st : List Value) (h : eH), ru 39 18 ls (.ref a :: st) h = gF (h.1 a) 11 22 (fun v => ru 39 21 ls (v :: st) h)) ∧
  (∀ (x0 : Option Value) (v : Int32) (t : eL) (st : List Value) (h : eH), ru 39 21 (x0 :: some (.int v) :: t) st h = ru 39 22 (x0 :: some (.int v) :: t) (.int v :: st) h) ∧
  (∀ (i : Int32) (a : Nat) (ls : eL) (st : List Value) (h : eH), ru 39 22 ls (.int i :: .ref a :: st) h = aI (h.1 a) 0 i (fun v => ru 39 23 ls (.int v :: st) h)) ∧
  (∀ (ls : eL) (st : List Value) (h : eH), ru 39 23 ls st h = ru 39 24 ls (.int ((-1)) :: st) h) ∧
  (∀ (x y : Int32) (ls : eL) (st : List Value) (h : eH), ru 39 24 ls (.int y :: .int x :: st) h = if x = y then ru 39 27 ls st h else ru 39 36 ls st h) ∧
  (∀ (v : Nat) (t : eL) (st : List Value) (h : eH), ru 39 27 (some (.ref v) :: t) st h = ru 39 28 (some (.ref v) :: t) (.ref v :: st) h) ∧
  (∀ (ls : eL) (st : List Value) (h : eH), ru 39 28 ls st h = ru 39 29 ls (.int (nI 5) :: st) h) ∧
  (∀ (ls : eL) (st : List Value) (h : eH), ru 39 29 ls st h = ru 39 30 ls (.long (lN 0) :: st) h) ∧
  (∀ (a0 : Nat) (a1 : Int32) (a2 : Int64) (ls : eL) (h : eH), ru 39 30 ls [.long a2, .int a1, .ref a0] h = cl (den 12 [.ref a0, .int a1, .long a2] h) (fun v h => ru 39 33 ls (v.toList ++ []) h)) ∧
  (∀ (ls : eL) (st : List Value) (h : eH), ru 39 33 ls st h = ru 39 55 ls st h) ∧
  (∀ (v : Nat) (t : eL) (st : List Value) (h : eH), ru 39 36 (some (.ref v) :: t) st h = ru 39 37 (some (.ref v) :: t) (.ref v :: st) h) ∧
  (∀ (ls : eL) (st : List Value) (h : eH), ru 39 37 ls st h = ru 39 38 ls (.int (nI 5) :: st) h) ∧
  (∀ (v : Nat) (t : eL) (st : List Value) (h : eH), ru 39 38 (some (.ref v) :: t) st h = ru 39 39 (some (.ref v) :: t) (.ref v :: st) h) ∧
  (∀ (v : Nat) (t : eL) (st : List Value) (h : eH), ru 39 39 (some (.ref v) :: t) st h = ru 39 40 (some (.ref v) :: t) (.ref v :: st) h) ∧
  (∀ (a : Nat) (ls : eL) (st : List Value) (h : eH), ru 39 40 ls (.ref a :: st) h = gF (h.1 a) 11 22 (fun v => ru 39 43 ls (v :: st) h)) ∧
  (∀ (x0 : Option Value) (v : Int32) (t : eL) (st : List Value) (h : eH), ru 39 43 (x0 :: some (.int v) :: t) st h = ru 39 44 (x0 :: some (.int v) :: t) (.int v :: st) h) ∧
  (∀ (i : Int32) (a : Nat) (ls : eL) (st : List Value) (h : eH), ru 39 44 ls (.int i :: .ref a :: st) h = aI (h.1 a) 0 i (fun v => ru 39 45 ls (.int v :: st) h)) ∧
  (∀ (v : Nat) (t : eL) (st : List Value) (h : eH), ru 39 45 (some (.ref v) :: t) st h = ru 39 46 (some (.ref v) :: t) (.ref v :: st) h) ∧
  (∀ (a : Nat) (ls : eL) (st : List Value) (h : eH), ru 39 46 ls (.ref a :: st) h = gF (h.1 a) 11 10 (fun v => ru 39 49 ls (v :: st) h)) ∧
  (∀ (a0 : Nat) (a1 : Int32) (a2 : Int32) (u0 : Int32) (u1 : Nat) (ls : eL) (h : eH), ru 39 49 ls [.int a2, .int a1, .ref a0, .int u0, .ref u1] h = cl (den 21 [.ref a0, .int a1, .int a2] h) (fun v h => ru 39 52 ls (v.toList ++ [.int u0, .ref u1]) h)) ∧
  (∀ (a0 : Nat) (a1 : Int32) (a2 : Int32) (ls : eL) (h : eH), ru 39 52 ls [.int a2, .int a1, .ref a0] h = cl (den 20 [.ref a0, .int a1, .int a2] h) (fun v h => ru 39 55 ls (v.toList ++ []) h)) ∧
  (∀ (v : Nat) (t : eL) (st : List Value) (h : eH), ru 39 55 (some (.ref v) :: t) st h = ru 39 56 (some (.ref v) :: t) (.ref v :: st) h) ∧
  (∀ (ls : eL) (st : List Value) (h : eH), ru 39 56 ls st h = ru 39 57 ls (.int (nI 5) :: st) h) ∧
  (∀ (ls : eL) (st : List Value) (h : eH), ru 39 57 ls st h = ru 39 59 ls (.int (nI 8) :: st) h) ∧
  (∀ (a0 : Nat) (a1 : Int32) (a2 : Int32) (ls : eL) (h : eH), ru 39 59 ls [.int a2, .int a1, .ref a0] h = cl (den 38 [.ref a0, .int a1, .int a2] h) (fun v h => ru 39 62 ls (v.toList ++ []) h)) ∧
  (∀ (ls : eL) (st : List Value) (h : eH), ru 39 62 ls st h = ru 39 63 ls (.int (nI 1) :: st) h) ∧
  (∀ (x : Int32) (ls : eL) (h : eH), ru 39 63 ls [.int x] h = bo (x == 0 || x == 1) (some (some (.int x), h))) := ⟨fun v t st h => ru_go rfl rfl,
  fun a0 ls h => ru_inv rfl (by decide) rfl (Nat.le_of_ble_eq_true rfl),
  fun x ls st h => ru_if rfl rfl,
  fun v t st h => ru_go rfl rfl,
  fun x0 v t st h => ru_go rfl rfl,
  fun a0 a1 ls h => ru_inv rfl (by decide) rfl (Nat.le_of_ble_eq_true rfl),
  fun x ls st h => ru_if rfl rfl,
  fun ls st h => ru_go rfl rfl,
  fun x ls h => ru_bret rfl rfl,
  fun v t st h => ru_go rfl rfl,
  fun a ls st h => ru_getf rfl,
  fun x0 v t st h => ru_go rfl rfl,
  fun i a ls st h => ru_iald rfl,
  fun ls st h => ru_go rfl rfl,
  fun x y ls st h => ru_if rfl rfl,
  fun v t st h => ru_go rfl rfl,
  fun ls st h => ru_go rfl rfl,
  fun ls st h => ru_go rfl rfl,
  fun a0 a1 a2 ls h => ru_inv rfl (by decide) rfl (Nat.le_of_ble_eq_true rfl),
  fun ls st h => ru_go rfl rfl,
  fun v t st h => ru_go rfl rfl,
  fun ls st h => ru_go rfl rfl,
  fun v t st h => ru_go rfl rfl,
  fun v t st h => ru_go rfl rfl,
  fun a ls st h => ru_getf rfl,
  fun x0 v t st h => ru_go rfl rfl,
  fun i a ls st h => ru_iald rfl,
  fun v t st h => ru_go rfl rfl,
  fun a ls st h => ru_getf rfl,
  fun a0 a1 a2 u0 u1 ls h => ru_inv rfl (by decide) rfl (Nat.le_of_ble_eq_true rfl),
  fun a0 a1 a2 ls h => ru_inv rfl (by decide) rfl (Nat.le_of_ble_eq_true rfl),
  fun v t st h => ru_go rfl rfl,
  fun ls st h => ru_go rfl rfl,
  fun ls st h => ru_go rfl rfl,
  fun a0 a1 a2 ls h => ru_inv rfl (by decide) rfl (Nat.le_of_ble_eq_true rfl),
  fun ls st h => ru_go rfl rfl,
  fun x ls h => ru_bret rfl rfl⟩
theorem E39 (a0 : Nat) (a1 : Int32) {h : eH} {fs : List Value} (ha : h.1 a0 = .inr (11, fs)) : den 39 [.ref a0, .int a1] h = ru 39 0 [some (.ref a0), some (.int a1)] [] h := den_ob (Nat.le_of_ble_eq_true rfl) ha
/-! 40 X11_borne -/
set_option maxRecDepth 100000 in
theorem S40 : (∀ (v : Nat) (t : eL) (st : List Value) (h : eH), ru 40 0 (some (.ref v) :: t) st h = ru 40 1 (some (.ref v) :: t) (.ref v :: st) h) ∧
  (∀ (a0 : Nat) (ls : eL) (h : eH), ru 40 1 ls [.ref a0] h = cl (den 33 [.ref a0] h) (fun v h => ru 40 4 ls (v.toList ++ []) h)) ∧
  (∀ (x : Int32) (ls : eL) (st : List Value) (h : eH), ru 40 4 ls (.int x :: st) h = if x = 0 then ru 40 7 ls st h else ru 40 11 ls st h) ∧
  (∀ (ls : eL) (st : List Value) (h : eH), ru 40 7 ls st h = ru 40 8 ls (.int (nI 0) :: st) h) ∧
  (∀ (ls : eL) (st : List Value) (h : eH), ru 40 8 ls st h = ru 40 27 ls st h) ∧
  (∀ (v : Nat) (t : eL) (st : List Value) (h : eH), ru 40 11 (some (.ref v) :: t) st h = ru 40 12 (some (.ref v) :: t) (.ref v :: st) h) ∧
  (∀ (a : Nat) (ls : eL) (st : List Value) (h : eH), ru 40 12 ls (.ref a :: st) h = gF (h.1 a) 11 21 (fun v => ru 40 15 ls (v :: st) h)) ∧
  (∀ (v : Nat) (t : eL) (st : List Value) (h : eH), ru 40 15 (some (.ref v) :: t) st h = ru 40 16 (some (.ref v) :: t) (.ref v :: st) h) ∧
  (∀ (a : Nat) (ls : eL) (st : List Value) (h : eH), ru 40 16 ls (.ref a :: st) h = gF (h.1 a) 11 10 (fun v => ru 40 19 ls (v :: st) h)) ∧
  (∀ (x y : Int32) (ls : eL) (st : List Value) (h : eH), ru 40 19 ls (.int y :: .int x :: st) h = if x = y then ru 40 22 ls st h else ru 40 26 ls st h) ∧
  (∀ (ls : eL) (st : List Value) (h : eH), ru 40 22 ls st h = ru 40 23 ls (.int (nI 1) :: st) h) ∧
  (∀ (ls : eL) (st : List Value) (h : eH), ru 40 23 ls st h = ru 40 27 ls st h) ∧
  (∀ (ls : eL) (st : List Value) (h : eH), ru 40 26 ls st h = ru 40 27 ls (.int (nI 2) :: st) h) ∧
  (∀ (x : Int32) (ls : eL) (h : eH), ru 40 27 ls [.int x] h = some (some (.int x), h)) := ⟨fun v t st h => ru_go rfl rfl,
  fun a0 ls h => ru_inv rfl (by decide) rfl (Nat.le_of_ble_eq_true rfl),
  fun x ls st h => ru_if rfl rfl,
  fun ls st h => ru_go rfl rfl,
  fun ls st h => ru_go rfl rfl,
  fun v t st h => ru_go rfl rfl,
  fun a ls st h => ru_getf rfl,
  fun v t st h => ru_go rfl rfl,
  fun a ls st h => ru_getf rfl,
  fun x y ls st h => ru_if rfl rfl,
  fun ls st h => ru_go rfl rfl,
  fun ls st h => ru_go rfl rfl,
  fun ls st h => ru_go rfl rfl,
  fun x ls h => ru_ret rfl rfl⟩
theorem E40 (a0 : Nat) {h : eH} {fs : List Value} (ha : h.1 a0 = .inr (11, fs)) : den 40 [.ref a0] h = ru 40 0 [some (.ref a0)] [] h := den_ob (Nat.le_of_ble_eq_true rfl) ha
/-! 41 X11_cone -/
set_option maxRecDepth 100000 in
theorem S41 : (∀ (ls : eL) (st : List Value) (h : eH), ru 41 0 ls st h = ru 41 3 ls (.int (nI 340) :: st) h) ∧
  (∀ (ls : eL) (st : List Value) (h : eH), ru 41 3 ls st h = ru 41 4 ls (.int (nI 3) :: st) h) ∧
  (∀ (x0 : Option Value) (v : Int32) (t : eL) (st : List Value) (h : eH), ru 41 4 (x0 :: some (.int v) :: t) st h = ru 41 5 (x0 :: some (.int v) :: t) (.int v :: st) h) ∧
  (∀ (x y : Int32) (ls : eL) (st : List Value) (h : eH), ru 41 5 ls (.int y :: .int x :: st) h = ru 41 6 ls (.int (x * y) :: st) h) ∧
  (∀ (x y : Int32) (ls : eL) (st : List Value) (h : eH), ru 41 6 ls (.int y :: .int x :: st) h = ru 41 7 ls (.int (x + y) :: st) h) ∧
  (∀ (x0 x1 : Option Value) (v : Int32) (t : eL) (st : List Value) (h : eH), ru 41 7 (x0 :: x1 :: some (.int v) :: t) st h = ru 41 8 (x0 :: x1 :: some (.int v) :: t) (.int v :: st) h) ∧
  (∀ (x y : Int32) (ls : eL) (st : List Value) (h : eH), ru 41 8 ls (.int y :: .int x :: st) h = ru 41 9 ls (.int (x + y) :: st) h) ∧
  (∀ (x : Int32) (ls : eL) (h : eH), ru 41 9 ls [.int x] h = some (some (.int x), h)) := ⟨fun ls st h => ru_go rfl rfl,
  fun ls st h => ru_go rfl rfl,
  fun x0 v t st h => ru_go rfl rfl,
  fun x y ls st h => ru_go rfl rfl,
  fun x y ls st h => ru_go rfl rfl,
  fun x0 x1 v t st h => ru_go rfl rfl,
  fun x y ls st h => ru_go rfl rfl,
  fun x ls h => ru_ret rfl rfl⟩
theorem E41 (a0 : Nat) (a1 : Int32) (a2 : Int32) {h : eH} {fs : List Value} (ha : h.1 a0 = .inr (11, fs)) : den 41 [.ref a0, .int a1, .int a2] h = ru 41 0 [some (.ref a0), some (.int a1), some (.int a2)] [] h := den_ob (Nat.le_of_ble_eq_true rfl) ha
/-! 42 X11_sign -/
set_option maxRecDepth 100000 in
theorem S42 : (∀ (v : Nat) (t : eL) (st : List Value) (h : eH), ru 42 0 (some (.ref v) :: t) st h = ru 42 1 (some (.ref v) :: t) (.ref v :: st) h) ∧
  (∀ (x0 : Option Value) (v : Int32) (t : eL) (st : List Value) (h : eH), ru 42 1 (x0 :: some (.int v) :: t) st h = ru 42 2 (x0 :: some (.int v) :: t) (.int v :: st) h) ∧
  (∀ (a0 : Nat) (a1 : Int32) (ls : eL) (h : eH), ru 42 2 ls [.int a1, .ref a0] h = cl (den 25 [.ref a0, .int a1] h) (fun v h => ru 42 5 ls (v.toList ++ []) h)) ∧
  (∀ (x : Int32) (ls : eL) (st : List Value) (h : eH), ru 42 5 ls (.int x :: st) h = if x = 0 then ru 42 12 ls st h else ru 42 8 ls st h) ∧
  (∀ (ls : eL) (st : List Value) (h : eH), ru 42 8 ls st h = ru 42 9 ls (.int (nI 0) :: st) h) ∧
  (∀ (ls : eL) (st : List Value) (h : eH), ru 42 9 ls st h = ru 42 25 ls st h) ∧
  (∀ (v : Nat) (t : eL) (st : List Value) (h : eH), ru 42 12 (some (.ref v) :: t) st h = ru 42 13 (some (.ref v) :: t) (.ref v :: st) h) ∧
  (∀ (x0 : Option Value) (v : Int32) (t : eL) (st : List Value) (h : eH), ru 42 13 (x0 :: some (.int v) :: t) st h = ru 42 14 (x0 :: some (.int v) :: t) (.int v :: st) h) ∧
  (∀ (a0 : Nat) (a1 : Int32) (ls : eL) (h : eH), ru 42 14 ls [.int a1, .ref a0] h = cl (den 17 [.ref a0, .int a1] h) (fun v h => ru 42 17 ls (v.toList ++ []) h)) ∧
  (∀ (x : Int32) (ls : eL) (st : List Value) (h : eH), ru 42 17 ls (.int x :: st) h = if x = 0 then ru 42 24 ls st h else ru 42 20 ls st h) ∧
  (∀ (ls : eL) (st : List Value) (h : eH), ru 42 20 ls st h = ru 42 21 ls (.int ((-1)) :: st) h) ∧
  (∀ (ls : eL) (st : List Value) (h : eH), ru 42 21 ls st h = ru 42 25 ls st h) ∧
  (∀ (ls : eL) (st : List Value) (h : eH), ru 42 24 ls st h = ru 42 25 ls (.int (nI 1) :: st) h) ∧
  (∀ (x : Int32) (ls : eL) (h : eH), ru 42 25 ls [.int x] h = some (some (.int x), h)) := ⟨fun v t st h => ru_go rfl rfl,
  fun x0 v t st h => ru_go rfl rfl,
  fun a0 a1 ls h => ru_inv rfl (by decide) rfl (Nat.le_of_ble_eq_true rfl),
  fun x ls st h => ru_if rfl rfl,
  fun ls st h => ru_go rfl rfl,
  fun ls st h => ru_go rfl rfl,
  fun v t st h => ru_go rfl rfl,
  fun x0 v t st h => ru_go rfl rfl,
  fun a0 a1 ls h => ru_inv rfl (by decide) rfl (Nat.le_of_ble_eq_true rfl),
  fun x ls st h => ru_if rfl rfl,
  fun ls st h => ru_go rfl rfl,
  fun ls st h => ru_go rfl rfl,
  fun ls st h => ru_go rfl rfl,
  fun x ls h => ru_ret rfl rfl⟩
theorem E42 (a0 : Nat) (a1 : Int32) {h : eH} {fs : List Value} (ha : h.1 a0 = .inr (11, fs)) : den 42 [.ref a0, .int a1] h = ru 42 0 [some (.ref a0), some (.int a1)] [] h := den_ob (Nat.le_of_ble_eq_true rfl) ha
/-! 43 X11_product -/
set_option maxRecDepth 100000 in
theorem H43_9 : (∀ (x0 x1 x2 : Option Value) (v : Int32) (t : eL) (st : List Value) (h : eH), ru 43 9 (x0 :: x1 :: x2 :: some (.int v) :: t) st h = ru 43 10 (x0 :: x1 :: x2 :: some (.int v) :: t) (.int v :: st) h) := fun x0 x1 x2 v t st h => ru_go rfl rfl
set_option maxRecDepth 100000 in
theorem H43_44 : (∀ (v : Nat) (t : eL) (st : List Value) (h : eH), ru 43 44 (some (.ref v) :: t) st h = ru 43 45 (some (.ref v) :: t) (.ref v :: st) h) := fun v t st h => ru_go rfl rfl
set_option maxRecDepth 100000 in
theorem S43 : (∀ (v : Nat) (t : eL) (st : List Value) (h : eH), ru 43 0 (some (.ref v) :: t) st h = ru 43 1 (some (.ref v) :: t) (.ref v :: st) h) ∧
  (∀ (ls : eL) (st : List Value) (h : eH), ru 43 1 ls st h = ru 43 3 ls (.int (nI 9) :: st) h) ∧
  (∀ (ls : eL) (st : List Value) (h : eH), ru 43 3 ls st h = ru 43 4 ls (.long (lN 0) :: st) h) ∧
  (∀ (a0 : Nat) (a1 : Int32) (a2 : Int64) (ls : eL) (h : eH), ru 43 4 ls [.long a2, .int a1, .ref a0] h = cl (den 12 [.ref a0, .int a1, .long a2] h) (fun v h => ru 43 7 ls (v.toList ++ []) h)) ∧
  (∀ (ls : eL) (st : List Value) (h : eH), ru 43 7 ls st h = ru 43 8 ls (.int (nI 0) :: st) h) ∧
  (∀ (x0 x1 x2 x3 : Option Value) (v : Int32) (t : eL) (st : List Value) (h : eH), ru 43 8 (x0 :: x1 :: x2 :: x3 :: t) (.int v :: st) h = ru 43 9 (x0 :: x1 :: eKl x2 :: some (.int v) :: t) st h) ∧
  (∀ (ls : eL) (st : List Value) (h : eH), ru 43 10 ls st h = ru 43 11 ls (.int (nI 3) :: st) h) ∧
  (∀ (x y : Int32) (ls : eL) (st : List Value) (h : eH), ru 43 11 ls (.int y :: .int x :: st) h = if y ≤ x then ru 43 44 ls st h else ru 43 14 ls st h) ∧
  (∀ (v : Nat) (t : eL) (st : List Value) (h : eH), ru 43 14 (some (.ref v) :: t) st h = ru 43 15 (some (.ref v) :: t) (.ref v :: st) h) ∧
  (∀ (ls : eL) (st : List Value) (h : eH), ru 43 15 ls st h = ru 43 17 ls (.int (nI 6) :: st) h) ∧
  (∀ (v : Nat) (t : eL) (st : List Value) (h : eH), ru 43 17 (some (.ref v) :: t) st h = ru 43 18 (some (.ref v) :: t) (.ref v :: st) h) ∧
  (∀ (x0 : Option Value) (v : Int32) (t : eL) (st : List Value) (h : eH), ru 43 18 (x0 :: some (.int v) :: t) st h = ru 43 19 (x0 :: some (.int v) :: t) (.int v :: st) h) ∧
  (∀ (x0 x1 x2 : Option Value) (v : Int32) (t : eL) (st : List Value) (h : eH), ru 43 19 (x0 :: x1 :: x2 :: some (.int v) :: t) st h = ru 43 20 (x0 :: x1 :: x2 :: some (.int v) :: t) (.int v :: st) h) ∧
  (∀ (a0 : Nat) (a1 : Int32) (a2 : Int32) (u0 : Int32) (u1 : Nat) (ls : eL) (h : eH), ru 43 20 ls [.int a2, .int a1, .ref a0, .int u0, .ref u1] h = cl (den 41 [.ref a0, .int a1, .int a2] h) (fun v h => ru 43 23 ls (v.toList ++ [.int u0, .ref u1]) h)) ∧
  (∀ (x0 x1 : Option Value) (v : Int32) (t : eL) (st : List Value) (h : eH), ru 43 23 (x0 :: x1 :: some (.int v) :: t) st h = ru 43 24 (x0 :: x1 :: some (.int v) :: t) (.int v :: st) h) ∧
  (∀ (x0 x1 x2 : Option Value) (v : Int32) (t : eL) (st : List Value) (h : eH), ru 43 24 (x0 :: x1 :: x2 :: some (.int v) :: t) st h = ru 43 25 (x0 :: x1 :: x2 :: some (.int v) :: t) (.int v :: st) h) ∧
  (∀ (x y : Int32) (ls : eL) (st : List Value) (h : eH), ru 43 25 ls (.int y :: .int x :: st) h = ru 43 26 ls (.int (x + y) :: st) h) ∧
  (∀ (a0 : Nat) (a1 : Int32) (a2 : Int32) (a3 : Int32) (ls : eL) (h : eH), ru 43 26 ls [.int a3, .int a2, .int a1, .ref a0] h = cl (den 27 [.ref a0, .int a1, .int a2, .int a3] h) (fun v h => ru 43 29 ls (v.toList ++ []) h)) ∧
  (∀ (v : Nat) (t : eL) (st : List Value) (h : eH), ru 43 29 (some (.ref v) :: t) st h = ru 43 30 (some (.ref v) :: t) (.ref v :: st) h) ∧
  (∀ (ls : eL) (st : List Value) (h : eH), ru 43 30 ls st h = ru 43 32 ls (.int (nI 9) :: st) h) ∧
  (∀ (ls : eL) (st : List Value) (h : eH), ru 43 32 ls st h = ru 43 34 ls (.int (nI 6) :: st) h) ∧
  (∀ (ls : eL) (st : List Value) (h : eH), ru 43 34 ls st h = ru 43 35 ls (.long (lN 1) :: st) h) ∧
  (∀ (a0 : Nat) (a1 : Int32) (a2 : Int32) (a3 : Int64) (ls : eL) (h : eH), ru 43 35 ls [.long a3, .int a2, .int a1, .ref a0] h = cl (den 15 [.ref a0, .int a1, .int a2, .long a3] h) (fun v h => ru 43 38 ls (v.toList ++ []) h)) ∧
  (∀ (x0 x1 x2 : Option Value) (v : Int32) (t : eL) (st : List Value) (h : eH), ru 43 38 (x0 :: x1 :: x2 :: some (.int v) :: t) st h = ru 43 41 (x0 :: x1 :: eKl x2 :: some (.int (v + 1)) :: t) st h) ∧
  (∀ (ls : eL) (st : List Value) (h : eH), ru 43 41 ls st h = ru 43 9 ls st h) ∧
  (∀ (ls : eL) (st : List Value) (h : eH), ru 43 45 ls st h = ru 43 47 ls (.int (nI 9) :: st) h) ∧
  (∀ (a0 : Nat) (a1 : Int32) (ls : eL) (h : eH), ru 43 47 ls [.int a1, .ref a0] h = cl (den 42 [.ref a0, .int a1] h) (fun v h => ru 43 50 ls (v.toList ++ []) h)) ∧
  (∀ (x : Int32) (ls : eL) (h : eH), ru 43 50 ls [.int x] h = some (some (.int x), h)) := ⟨fun v t st h => ru_go rfl rfl,
  fun ls st h => ru_go rfl rfl,
  fun ls st h => ru_go rfl rfl,
  fun a0 a1 a2 ls h => ru_inv rfl (by decide) rfl (Nat.le_of_ble_eq_true rfl),
  fun ls st h => ru_go rfl rfl,
  fun x0 x1 x2 x3 v t st h => ru_go rfl rfl,
  fun ls st h => ru_go rfl rfl,
  fun x y ls st h => ru_if rfl rfl,
  fun v t st h => ru_go rfl rfl,
  fun ls st h => ru_go rfl rfl,
  fun v t st h => ru_go rfl rfl,
  fun x0 v t st h => ru_go rfl rfl,
  fun x0 x1 x2 v t st h => ru_go rfl rfl,
  fun a0 a1 a2 u0 u1 ls h => ru_inv rfl (by decide) rfl (Nat.le_of_ble_eq_true rfl),
  fun x0 x1 v t st h => ru_go rfl rfl,
  fun x0 x1 x2 v t st h => ru_go rfl rfl,
  fun x y ls st h => ru_go rfl rfl,
  fun a0 a1 a2 a3 ls h => ru_inv rfl (by decide) rfl (Nat.le_of_ble_eq_true rfl),
  fun v t st h => ru_go rfl rfl,
  fun ls st h => ru_go rfl rfl,
  fun ls st h => ru_go rfl rfl,
  fun ls st h => ru_go rfl rfl,
  fun a0 a1 a2 a3 ls h => ru_inv rfl (by decide) rfl (Nat.le_of_ble_eq_true rfl),
  fun x0 x1 x2 v t st h => ru_go rfl rfl,
  fun ls st h => ru_go rfl rfl,
  fun ls st h => ru_go rfl rfl,
  fun a0 a1 ls h => ru_inv rfl (by decide) rfl (Nat.le_of_ble_eq_true rfl),
  fun x ls h => ru_ret rfl rfl⟩
theorem E43 (a0 : Nat) (a1 : Int32) (a2 : Int32) {h : eH} {fs : List Value} (ha : h.1 a0 = .inr (11, fs)) : den 43 [.ref a0, .int a1, .int a2] h = ru 43 0 [some (.ref a0), some (.int a1), some (.int a2), none] [] h := den_ob (Nat.le_of_ble_eq_true rfl) ha
/-! 44 X11_comes -/
set_option maxRecDepth 100000 in
theorem H44_2 : (∀ (x0 x1 x2 : Option Value) (v : Int32) (t : eL) (st : List Value) (h : eH), ru 44 2 (x0 :: x1 :: x2 :: some (.int v) :: t) st h = ru 44 3 (x0 :: x1 :: x2 :: some (.int v) :: t) (.int v :: st) h) := fun x0 x1 x2 v t st h => ru_go rfl rfl
set_option maxRecDepth 100000 in
theorem H44_26 : (∀ (ls : eL) (st : List Value) (h : eH), ru 44 26 ls st h = ru 44 27 ls (.int (nI 0) :: st) h) := fun ls st h => ru_go rfl rfl
set_option maxRecDepth 100000 in
theorem H44_28 : (∀ (x0 x1 x2 : Option Value) (v : Int32) (t : eL) (st : List Value) (h : eH), ru 44 28 (x0 :: x1 :: x2 :: some (.int v) :: t) st h = ru 44 29 (x0 :: x1 :: x2 :: some (.int v) :: t) (.int v :: st) h) := fun x0 x1 x2 v t st h => ru_go rfl rfl
set_option maxRecDepth 100000 in
theorem S44 : (∀ (ls : eL) (st : List Value) (h : eH), ru 44 0 ls st h = ru 44 1 ls (.int (nI 0) :: st) h) ∧
  (∀ (x0 x1 x2 x3 : Option Value) (v : Int32) (t : eL) (st : List Value) (h : eH), ru 44 1 (x0 :: x1 :: x2 :: x3 :: t) (.int v :: st) h = ru 44 2 (x0 :: x1 :: eKl x2 :: some (.int v) :: t) st h) ∧
  (∀ (v : Nat) (t : eL) (st : List Value) (h : eH), ru 44 3 (some (.ref v) :: t) st h = ru 44 4 (some (.ref v) :: t) (.ref v :: st) h) ∧
  (∀ (a : Nat) (ls : eL) (st : List Value) (h : eH), ru 44 4 ls (.ref a :: st) h = gF (h.1 a) 11 23 (fun v => ru 44 7 ls (v :: st) h)) ∧
  (∀ (x y : Int32) (ls : eL) (st : List Value) (h : eH), ru 44 7 ls (.int y :: .int x :: st) h = if y ≤ x then ru 44 26 ls st h else ru 44 10 ls st h) ∧
  (∀ (v : Nat) (t : eL) (st : List Value) (h : eH), ru 44 10 (some (.ref v) :: t) st h = ru 44 11 (some (.ref v) :: t) (.ref v :: st) h) ∧
  (∀ (x0 x1 x2 : Option Value) (v : Int32) (t : eL) (st : List Value) (h : eH), ru 44 11 (x0 :: x1 :: x2 :: some (.int v) :: t) st h = ru 44 12 (x0 :: x1 :: x2 :: some (.int v) :: t) (.int v :: st) h) ∧
  (∀ (x0 : Option Value) (v : Int32) (t : eL) (st : List Value) (h : eH), ru 44 12 (x0 :: some (.int v) :: t) st h = ru 44 13 (x0 :: some (.int v) :: t) (.int v :: st) h) ∧
  (∀ (a0 : Nat) (a1 : Int32) (a2 : Int32) (ls : eL) (h : eH), ru 44 13 ls [.int a2, .int a1, .ref a0] h = cl (den 43 [.ref a0, .int a1, .int a2] h) (fun v h => ru 44 16 ls (v.toList ++ []) h)) ∧
  (∀ (x : Int32) (ls : eL) (st : List Value) (h : eH), ru 44 16 ls (.int x :: st) h = if 0 ≤ x then ru 44 20 ls st h else ru 44 19 ls st h) ∧
  (∀ (ls : eL) (h : eH), ru 44 19 ls [] h = some (none, h)) ∧
  (∀ (x0 x1 x2 : Option Value) (v : Int32) (t : eL) (st : List Value) (h : eH), ru 44 20 (x0 :: x1 :: x2 :: some (.int v) :: t) st h = ru 44 23 (x0 :: x1 :: eKl x2 :: some (.int (v + 1)) :: t) st h) ∧
  (∀ (ls : eL) (st : List Value) (h : eH), ru 44 23 ls st h = ru 44 2 ls st h) ∧
  (∀ (x0 x1 x2 x3 : Option Value) (v : Int32) (t : eL) (st : List Value) (h : eH), ru 44 27 (x0 :: x1 :: x2 :: x3 :: t) (.int v :: st) h = ru 44 28 (x0 :: x1 :: eKl x2 :: some (.int v) :: t) st h) ∧
  (∀ (ls : eL) (st : List Value) (h : eH), ru 44 29 ls st h = ru 44 30 ls (.int (nI 3) :: st) h) ∧
  (∀ (x y : Int32) (ls : eL) (st : List Value) (h : eH), ru 44 30 ls (.int y :: .int x :: st) h = if y ≤ x then ru 44 50 ls st h else ru 44 33 ls st h) ∧
  (∀ (v : Nat) (t : eL) (st : List Value) (h : eH), ru 44 33 (some (.ref v) :: t) st h = ru 44 34 (some (.ref v) :: t) (.ref v :: st) h) ∧
  (∀ (x0 x1 : Option Value) (v : Int32) (t : eL) (st : List Value) (h : eH), ru 44 34 (x0 :: x1 :: some (.int v) :: t) st h = ru 44 35 (x0 :: x1 :: some (.int v) :: t) (.int v :: st) h) ∧
  (∀ (x0 x1 x2 : Option Value) (v : Int32) (t : eL) (st : List Value) (h : eH), ru 44 35 (x0 :: x1 :: x2 :: some (.int v) :: t) st h = ru 44 36 (x0 :: x1 :: x2 :: some (.int v) :: t) (.int v :: st) h) ∧
  (∀ (x y : Int32) (ls : eL) (st : List Value) (h : eH), ru 44 36 ls (.int y :: .int x :: st) h = ru 44 37 ls (.int (x + y) :: st) h) ∧
  (∀ (x0 : Option Value) (v : Int32) (t : eL) (st : List Value) (h : eH), ru 44 37 (x0 :: some (.int v) :: t) st h = ru 44 38 (x0 :: some (.int v) :: t) (.int v :: st) h) ∧
  (∀ (x0 x1 x2 : Option Value) (v : Int32) (t : eL) (st : List Value) (h : eH), ru 44 38 (x0 :: x1 :: x2 :: some (.int v) :: t) st h = ru 44 39 (x0 :: x1 :: x2 :: some (.int v) :: t) (.int v :: st) h) ∧
  (∀ (x y : Int32) (ls : eL) (st : List Value) (h : eH), ru 44 39 ls (.int y :: .int x :: st) h = ru 44 40 ls (.int (x + y) :: st) h) ∧
  (∀ (ls : eL) (st : List Value) (h : eH), ru 44 40 ls st h = ru 44 41 ls (.long (lN 1) :: st) h) ∧
  (∀ (a0 : Nat) (a1 : Int32) (a2 : Int32) (a3 : Int64) (ls : eL) (h : eH), ru 44 41 ls [.long a3, .int a2, .int a1, .ref a0] h = cl (den 15 [.ref a0, .int a1, .int a2, .long a3] h) (fun v h => ru 44 44 ls (v.toList ++ []) h)) ∧
  (∀ (x0 x1 x2 : Option Value) (v : Int32) (t : eL) (st : List Value) (h : eH), ru 44 44 (x0 :: x1 :: x2 :: some (.int v) :: t) st h = ru 44 47 (x0 :: x1 :: eKl x2 :: some (.int (v + 1)) :: t) st h) ∧
  (∀ (ls : eL) (st : List Value) (h : eH), ru 44 47 ls st h = ru 44 28 ls st h) ∧
  (∀ (ls : eL) (h : eH), ru 44 50 ls [] h = some (none, h)) := ⟨fun ls st h => ru_go rfl rfl,
  fun x0 x1 x2 x3 v t st h => ru_go rfl rfl,
  fun v t st h => ru_go rfl rfl,
  fun a ls st h => ru_getf rfl,
  fun x y ls st h => ru_if rfl rfl,
  fun v t st h => ru_go rfl rfl,
  fun x0 x1 x2 v t st h => ru_go rfl rfl,
  fun x0 v t st h => ru_go rfl rfl,
  fun a0 a1 a2 ls h => ru_inv rfl (by decide) rfl (Nat.le_of_ble_eq_true rfl),
  fun x ls st h => ru_if rfl rfl,
  fun ls h => ru_ret rfl rfl,
  fun x0 x1 x2 v t st h => ru_go rfl rfl,
  fun ls st h => ru_go rfl rfl,
  fun x0 x1 x2 x3 v t st h => ru_go rfl rfl,
  fun ls st h => ru_go rfl rfl,
  fun x y ls st h => ru_if rfl rfl,
  fun v t st h => ru_go rfl rfl,
  fun x0 x1 v t st h => ru_go rfl rfl,
  fun x0 x1 x2 v t st h => ru_go rfl rfl,
  fun x y ls st h => ru_go rfl rfl,
  fun x0 v t st h => ru_go rfl rfl,
  fun x0 x1 x2 v t st h => ru_go rfl rfl,
  fun x y ls st h => ru_go rfl rfl,
  fun ls st h => ru_go rfl rfl,
  fun a0 a1 a2 a3 ls h => ru_inv rfl (by decide) rfl (Nat.le_of_ble_eq_true rfl),
  fun x0 x1 x2 v t st h => ru_go rfl rfl,
  fun ls st h => ru_go rfl rfl,
  fun ls h => ru_ret rfl rfl⟩
theorem E44 (a0 : Nat) (a1 : Int32) (a2 : Int32) {h : eH} {fs : List Value} (ha : h.1 a0 = .inr (11, fs)) : den 44 [.ref a0, .int a1, .int a2] h = ru 44 0 [some (.ref a0), some (.int a1), some (.int a2), none] [] h := den_ob (Nat.le_of_ble_eq_true rfl) ha
/-! 45 X11_comesBoth -/
set_option maxRecDepth 100000 in
theorem H45_8 : (∀ (x0 x1 x2 : Option Value) (v : Int32) (t : eL) (st : List Value) (h : eH), ru 45 8 (x0 :: x1 :: x2 :: some (.int v) :: t) st h = ru 45 9 (x0 :: x1 :: x2 :: some (.int v) :: t) (.int v :: st) h) := fun x0 x1 x2 v t st h => ru_go rfl rfl
set_option maxRecDepth 100000 in
theorem H45_26 : (∀ (v : Nat) (t : eL) (st : List Value) (h : eH), ru 45 26 (some (.ref v) :: t) st h = ru 45 27 (some (.ref v) :: t) (.ref v :: st) h) := fun v t st h => ru_go rfl rfl
set_option maxRecDepth 100000 in
theorem S45 : (∀ (v : Nat) (t : eL) (st : List Value) (h : eH), ru 45 0 (some (.ref v) :: t) st h = ru 45 1 (some (.ref v) :: t) (.ref v :: st) h) ∧
  (∀ (x0 : Option Value) (v : Int32) (t : eL) (st : List Value) (h : eH), ru 45 1 (x0 :: some (.int v) :: t) st h = ru 45 2 (x0 :: some (.int v) :: t) (.int v :: st) h) ∧
  (∀ (x0 x1 : Option Value) (v : Int32) (t : eL) (st : List Value) (h : eH), ru 45 2 (x0 :: x1 :: some (.int v) :: t) st h = ru 45 3 (x0 :: x1 :: some (.int v) :: t) (.int v :: st) h) ∧
  (∀ (a0 : Nat) (a1 : Int32) (a2 : Int32) (ls : eL) (h : eH), ru 45 3 ls [.int a2, .int a1, .ref a0] h = cl (den 44 [.ref a0, .int a1, .int a2] h) (fun v h => ru 45 6 ls (v.toList ++ []) h)) ∧
  (∀ (ls : eL) (st : List Value) (h : eH), ru 45 6 ls st h = ru 45 7 ls (.int (nI 0) :: st) h) ∧
  (∀ (x0 x1 x2 x3 : Option Value) (v : Int32) (t : eL) (st : List Value) (h : eH), ru 45 7 (x0 :: x1 :: x2 :: x3 :: t) (.int v :: st) h = ru 45 8 (x0 :: x1 :: eKl x2 :: some (.int v) :: t) st h) ∧
  (∀ (ls : eL) (st : List Value) (h : eH), ru 45 9 ls st h = ru 45 10 ls (.int (nI 3) :: st) h) ∧
  (∀ (x y : Int32) (ls : eL) (st : List Value) (h : eH), ru 45 10 ls (.int y :: .int x :: st) h = if y ≤ x then ru 45 26 ls st h else ru 45 13 ls st h) ∧
  (∀ (v : Nat) (t : eL) (st : List Value) (h : eH), ru 45 13 (some (.ref v) :: t) st h = ru 45 14 (some (.ref v) :: t) (.ref v :: st) h) ∧
  (∀ (x0 : Option Value) (v : Int32) (t : eL) (st : List Value) (h : eH), ru 45 14 (x0 :: some (.int v) :: t) st h = ru 45 15 (x0 :: some (.int v) :: t) (.int v :: st) h) ∧
  (∀ (x0 x1 x2 : Option Value) (v : Int32) (t : eL) (st : List Value) (h : eH), ru 45 15 (x0 :: x1 :: x2 :: some (.int v) :: t) st h = ru 45 16 (x0 :: x1 :: x2 :: some (.int v) :: t) (.int v :: st) h) ∧
  (∀ (x y : Int32) (ls : eL) (st : List Value) (h : eH), ru 45 16 ls (.int y :: .int x :: st) h = ru 45 17 ls (.int (x + y) :: st) h) ∧
  (∀ (a0 : Nat) (a1 : Int32) (ls : eL) (h : eH), ru 45 17 ls [.int a1, .ref a0] h = cl (den 18 [.ref a0, .int a1] h) (fun v h => ru 45 20 ls (v.toList ++ []) h)) ∧
  (∀ (x0 x1 x2 : Option Value) (v : Int32) (t : eL) (st : List Value) (h : eH), ru 45 20 (x0 :: x1 :: x2 :: some (.int v) :: t) st h = ru 45 23 (x0 :: x1 :: eKl x2 :: some (.int (v + 1)) :: t) st h) ∧
  (∀ (ls : eL) (st : List Value) (h : eH), ru 45 23 ls st h = ru 45 8 ls st h) ∧
  (∀ (x0 : Option Value) (v : Int32) (t : eL) (st : List Value) (h : eH), ru 45 27 (x0 :: some (.int v) :: t) st h = ru 45 28 (x0 :: some (.int v) :: t) (.int v :: st) h) ∧
  (∀ (x0 x1 : Option Value) (v : Int32) (t : eL) (st : List Value) (h : eH), ru 45 28 (x0 :: x1 :: some (.int v) :: t) st h = ru 45 29 (x0 :: x1 :: some (.int v) :: t) (.int v :: st) h) ∧
  (∀ (a0 : Nat) (a1 : Int32) (a2 : Int32) (ls : eL) (h : eH), ru 45 29 ls [.int a2, .int a1, .ref a0] h = cl (den 44 [.ref a0, .int a1, .int a2] h) (fun v h => ru 45 32 ls (v.toList ++ []) h)) ∧
  (∀ (ls : eL) (h : eH), ru 45 32 ls [] h = some (none, h)) := ⟨fun v t st h => ru_go rfl rfl,
  fun x0 v t st h => ru_go rfl rfl,
  fun x0 x1 v t st h => ru_go rfl rfl,
  fun a0 a1 a2 ls h => ru_inv rfl (by decide) rfl (Nat.le_of_ble_eq_true rfl),
  fun ls st h => ru_go rfl rfl,
  fun x0 x1 x2 x3 v t st h => ru_go rfl rfl,
  fun ls st h => ru_go rfl rfl,
  fun x y ls st h => ru_if rfl rfl,
  fun v t st h => ru_go rfl rfl,
  fun x0 v t st h => ru_go rfl rfl,
  fun x0 x1 x2 v t st h => ru_go rfl rfl,
  fun x y ls st h => ru_go rfl rfl,
  fun a0 a1 ls h => ru_inv rfl (by decide) rfl (Nat.le_of_ble_eq_true rfl),
  fun x0 x1 x2 v t st h => ru_go rfl rfl,
  fun ls st h => ru_go rfl rfl,
  fun x0 v t st h => ru_go rfl rfl,
  fun x0 x1 v t st h => ru_go rfl rfl,
  fun a0 a1 a2 ls h => ru_inv rfl (by decide) rfl (Nat.le_of_ble_eq_true rfl),
  fun ls h => ru_ret rfl rfl⟩
theorem E45 (a0 : Nat) (a1 : Int32) (a2 : Int32) {h : eH} {fs : List Value} (ha : h.1 a0 = .inr (11, fs)) : den 45 [.ref a0, .int a1, .int a2] h = ru 45 0 [some (.ref a0), some (.int a1), some (.int a2), none] [] h := den_ob (Nat.le_of_ble_eq_true rfl) ha
/-! 46 X11_count -/
set_option maxRecDepth 100000 in
theorem H46_51 : (∀ (x0 x1 x2 : Option Value) (v : Int32) (t : eL) (st : List Value) (h : eH), ru 46 51 (x0 :: x1 :: x2 :: some (.int v) :: t) st h = ru 46 52 (x0 :: x1 :: x2 :: some (.int v) :: t) (.int v :: st) h) := fun x0 x1 x2 v t st h => ru_go rfl rfl
set_option maxRecDepth 100000 in
theorem H46_80 : (∀ (x0 x1 : Option Value) (v : Int32) (t : eL) (st : List Value) (h : eH), ru 46 80 (x0 :: x1 :: some (.int v) :: t) st h = ru 46 81 (x0 :: x1 :: some (.int v) :: t) (.int v :: st) h) := fun x0 x1 v t st h => ru_go rfl rfl
set_option maxRecDepth 100000 in
theorem S46 : (∀ (x0 : Option Value) (v : Int32) (t : eL) (st : List Value) (h : eH), ru 46 0 (x0 :: some (.int v) :: t) st h = ru 46 1 (x0 :: some (.int v) :: t) (.int v :: st) h) ∧
  (∀ (x : Int32) (ls : eL) (st : List Value) (h : eH), ru 46 1 ls (.int x :: st) h = swF (eSw 1 x 81 0 3 #[31, 36, 41, 46]) (fun z => ru 46 z ls st h)) ∧
  (∀ (v : Nat) (t : eL) (st : List Value) (h : eH), ru 46 32 (some (.ref v) :: t) st h = ru 46 33 (some (.ref v) :: t) (.ref v :: st) h) ∧
  (∀ (a : Nat) (ls : eL) (st : List Value) (h : eH), ru 46 33 ls (.ref a :: st) h = gF (h.1 a) 11 4 (fun v => ru 46 36 ls (v :: st) h)) ∧
  (∀ (x : Int32) (ls : eL) (h : eH), ru 46 36 ls [.int x] h = some (some (.int x), h)) ∧
  (∀ (v : Nat) (t : eL) (st : List Value) (h : eH), ru 46 37 (some (.ref v) :: t) st h = ru 46 38 (some (.ref v) :: t) (.ref v :: st) h) ∧
  (∀ (a0 : Nat) (ls : eL) (h : eH), ru 46 38 ls [.ref a0] h = cl (den 23 [.ref a0] h) (fun v h => ru 46 41 ls (v.toList ++ []) h)) ∧
  (∀ (x : Int32) (ls : eL) (h : eH), ru 46 41 ls [.int x] h = some (some (.int x), h)) ∧
  (∀ (v : Nat) (t : eL) (st : List Value) (h : eH), ru 46 42 (some (.ref v) :: t) st h = ru 46 43 (some (.ref v) :: t) (.ref v :: st) h) ∧
  (∀ (a : Nat) (ls : eL) (st : List Value) (h : eH), ru 46 43 ls (.ref a :: st) h = gF (h.1 a) 11 10 (fun v => ru 46 46 ls (v :: st) h)) ∧
  (∀ (x : Int32) (ls : eL) (h : eH), ru 46 46 ls [.int x] h = some (some (.int x), h)) ∧
  (∀ (ls : eL) (st : List Value) (h : eH), ru 46 47 ls st h = ru 46 48 ls (.int (nI 0) :: st) h) ∧
  (∀ (x0 x1 x2 : Option Value) (v : Int32) (t : eL) (st : List Value) (h : eH), ru 46 48 (x0 :: x1 :: x2 :: t) (.int v :: st) h = ru 46 49 (x0 :: eKl x1 :: some (.int v) :: t) st h) ∧
  (∀ (ls : eL) (st : List Value) (h : eH), ru 46 49 ls st h = ru 46 50 ls (.int (nI 0) :: st) h) ∧
  (∀ (x0 x1 x2 x3 : Option Value) (v : Int32) (t : eL) (st : List Value) (h : eH), ru 46 50 (x0 :: x1 :: x2 :: x3 :: t) (.int v :: st) h = ru 46 51 (x0 :: x1 :: eKl x2 :: some (.int v) :: t) st h) ∧
  (∀ (ls : eL) (st : List Value) (h : eH), ru 46 52 ls st h = ru 46 54 ls (.int (nI 8) :: st) h) ∧
  (∀ (x y : Int32) (ls : eL) (st : List Value) (h : eH), ru 46 54 ls (.int y :: .int x :: st) h = if y ≤ x then ru 46 80 ls st h else ru 46 57 ls st h) ∧
  (∀ (x0 x1 : Option Value) (v : Int32) (t : eL) (st : List Value) (h : eH), ru 46 57 (x0 :: x1 :: some (.int v) :: t) st h = ru 46 58 (x0 :: x1 :: some (.int v) :: t) (.int v :: st) h) ∧
  (∀ (v : Nat) (t : eL) (st : List Value) (h : eH), ru 46 58 (some (.ref v) :: t) st h = ru 46 59 (some (.ref v) :: t) (.ref v :: st) h) ∧
  (∀ (a : Nat) (ls : eL) (st : List Value) (h : eH), ru 46 59 ls (.ref a :: st) h = gF (h.1 a) 11 1 (fun v => ru 46 62 ls (v :: st) h)) ∧
  (∀ (x0 x1 x2 : Option Value) (v : Int32) (t : eL) (st : List Value) (h : eH), ru 46 62 (x0 :: x1 :: x2 :: some (.int v) :: t) st h = ru 46 63 (x0 :: x1 :: x2 :: some (.int v) :: t) (.int v :: st) h) ∧
  (∀ (i : Int32) (a : Nat) (ls : eL) (st : List Value) (h : eH), ru 46 63 ls (.int i :: .ref a :: st) h = aI (h.1 a) 0 i (fun v => ru 46 64 ls (.int v :: st) h)) ∧
  (∀ (x : Int32) (ls : eL) (st : List Value) (h : eH), ru 46 64 ls (.int x :: st) h = if x = 0 then ru 46 67 ls st h else ru 46 71 ls st h) ∧
  (∀ (ls : eL) (st : List Value) (h : eH), ru 46 67 ls st h = ru 46 68 ls (.int (nI 0) :: st) h) ∧
  (∀ (ls : eL) (st : List Value) (h : eH), ru 46 68 ls st h = ru 46 72 ls st h) ∧
  (∀ (ls : eL) (st : List Value) (h : eH), ru 46 71 ls st h = ru 46 72 ls (.int (nI 1) :: st) h) ∧
  (∀ (x y : Int32) (ls : eL) (st : List Value) (h : eH), ru 46 72 ls (.int y :: .int x :: st) h = ru 46 73 ls (.int (x + y) :: st) h) ∧
  (∀ (x0 x1 x2 : Option Value) (v : Int32) (t : eL) (st : List Value) (h : eH), ru 46 73 (x0 :: x1 :: x2 :: t) (.int v :: st) h = ru 46 74 (x0 :: eKl x1 :: some (.int v) :: t) st h) ∧
  (∀ (x0 x1 x2 : Option Value) (v : Int32) (t : eL) (st : List Value) (h : eH), ru 46 74 (x0 :: x1 :: x2 :: some (.int v) :: t) st h = ru 46 77 (x0 :: x1 :: eKl x2 :: some (.int (v + 1)) :: t) st h) ∧
  (∀ (ls : eL) (st : List Value) (h : eH), ru 46 77 ls st h = ru 46 51 ls st h) ∧
  (∀ (x : Int32) (ls : eL) (h : eH), ru 46 81 ls [.int x] h = some (some (.int x), h)) ∧
  (∀ (ls : eL) (st : List Value) (h : eH), ru 46 82 ls st h = ru 46 83 ls (.int ((-1)) :: st) h) ∧
  (∀ (x : Int32) (ls : eL) (h : eH), ru 46 83 ls [.int x] h = some (some (.int x), h)) := ⟨fun x0 v t st h => ru_go rfl rfl,
  fun x ls st h => ru_sw rfl,
  fun v t st h => ru_go rfl rfl,
  fun a ls st h => ru_getf rfl,
  fun x ls h => ru_ret rfl rfl,
  fun v t st h => ru_go rfl rfl,
  fun a0 ls h => ru_inv rfl (by decide) rfl (Nat.le_of_ble_eq_true rfl),
  fun x ls h => ru_ret rfl rfl,
  fun v t st h => ru_go rfl rfl,
  fun a ls st h => ru_getf rfl,
  fun x ls h => ru_ret rfl rfl,
  fun ls st h => ru_go rfl rfl,
  fun x0 x1 x2 v t st h => ru_go rfl rfl,
  fun ls st h => ru_go rfl rfl,
  fun x0 x1 x2 x3 v t st h => ru_go rfl rfl,
  fun ls st h => ru_go rfl rfl,
  fun x y ls st h => ru_if rfl rfl,
  fun x0 x1 v t st h => ru_go rfl rfl,
  fun v t st h => ru_go rfl rfl,
  fun a ls st h => ru_getf rfl,
  fun x0 x1 x2 v t st h => ru_go rfl rfl,
  fun i a ls st h => ru_iald rfl,
  fun x ls st h => ru_if rfl rfl,
  fun ls st h => ru_go rfl rfl,
  fun ls st h => ru_go rfl rfl,
  fun ls st h => ru_go rfl rfl,
  fun x y ls st h => ru_go rfl rfl,
  fun x0 x1 x2 v t st h => ru_go rfl rfl,
  fun x0 x1 x2 v t st h => ru_go rfl rfl,
  fun ls st h => ru_go rfl rfl,
  fun x ls h => ru_ret rfl rfl,
  fun ls st h => ru_go rfl rfl,
  fun x ls h => ru_ret rfl rfl⟩
theorem E46 (a0 : Nat) (a1 : Int32) {h : eH} {fs : List Value} (ha : h.1 a0 = .inr (11, fs)) : den 46 [.ref a0, .int a1] h = ru 46 0 [some (.ref a0), some (.int a1), none, none] [] h := den_ob (Nat.le_of_ble_eq_true rfl) ha
/-! 47 X11_cross -/
set_option maxRecDepth 100000 in
theorem H47_3 : (∀ (x0 x1 x2 x3 : Option Value) (v : Int32) (t : eL) (st : List Value) (h : eH), ru 47 3 (x0 :: x1 :: x2 :: x3 :: some (.int v) :: t) st h = ru 47 5 (x0 :: x1 :: x2 :: x3 :: some (.int v) :: t) (.int v :: st) h) := fun x0 x1 x2 x3 v t st h => ru_go rfl rfl
set_option maxRecDepth 100000 in
theorem S47 : (∀ (ls : eL) (st : List Value) (h : eH), ru 47 0 ls st h = ru 47 1 ls (.int (nI 0) :: st) h) ∧
  (∀ (x0 x1 x2 x3 x4 : Option Value) (v : Int32) (t : eL) (st : List Value) (h : eH), ru 47 1 (x0 :: x1 :: x2 :: x3 :: x4 :: t) (.int v :: st) h = ru 47 3 (x0 :: x1 :: x2 :: eKl x3 :: some (.int v) :: t) st h) ∧
  (∀ (ls : eL) (st : List Value) (h : eH), ru 47 5 ls st h = ru 47 6 ls (.int (nI 3) :: st) h) ∧
  (∀ (x y : Int32) (ls : eL) (st : List Value) (h : eH), ru 47 6 ls (.int y :: .int x :: st) h = if y ≤ x then ru 47 80 ls st h else ru 47 9 ls st h) ∧
  (∀ (v : Nat) (t : eL) (st : List Value) (h : eH), ru 47 9 (some (.ref v) :: t) st h = ru 47 10 (some (.ref v) :: t) (.ref v :: st) h) ∧
  (∀ (ls : eL) (st : List Value) (h : eH), ru 47 10 ls st h = ru 47 12 ls (.int (nI 6) :: st) h) ∧
  (∀ (x0 x1 : Option Value) (v : Int32) (t : eL) (st : List Value) (h : eH), ru 47 12 (x0 :: x1 :: some (.int v) :: t) st h = ru 47 13 (x0 :: x1 :: some (.int v) :: t) (.int v :: st) h) ∧
  (∀ (x0 x1 x2 x3 : Option Value) (v : Int32) (t : eL) (st : List Value) (h : eH), ru 47 13 (x0 :: x1 :: x2 :: x3 :: some (.int v) :: t) st h = ru 47 15 (x0 :: x1 :: x2 :: x3 :: some (.int v) :: t) (.int v :: st) h) ∧
  (∀ (ls : eL) (st : List Value) (h : eH), ru 47 15 ls st h = ru 47 16 ls (.int (nI 1) :: st) h) ∧
  (∀ (x y : Int32) (ls : eL) (st : List Value) (h : eH), ru 47 16 ls (.int y :: .int x :: st) h = ru 47 17 ls (.int (x + y) :: st) h) ∧
  (∀ (ls : eL) (st : List Value) (h : eH), ru 47 17 ls st h = ru 47 18 ls (.int (nI 3) :: st) h) ∧
  (∀ (x y : Int32) (ls : eL) (st : List Value) (h : eH), ru 47 18 ls (.int y :: .int x :: st) h = if y = 0 then none else ru 47 19 ls (.int (x - x / y * y) :: st) h) ∧
  (∀ (x y : Int32) (ls : eL) (st : List Value) (h : eH), ru 47 19 ls (.int y :: .int x :: st) h = ru 47 20 ls (.int (x + y) :: st) h) ∧
  (∀ (x0 x1 x2 : Option Value) (v : Int32) (t : eL) (st : List Value) (h : eH), ru 47 20 (x0 :: x1 :: x2 :: some (.int v) :: t) st h = ru 47 21 (x0 :: x1 :: x2 :: some (.int v) :: t) (.int v :: st) h) ∧
  (∀ (x0 x1 x2 x3 : Option Value) (v : Int32) (t : eL) (st : List Value) (h : eH), ru 47 21 (x0 :: x1 :: x2 :: x3 :: some (.int v) :: t) st h = ru 47 23 (x0 :: x1 :: x2 :: x3 :: some (.int v) :: t) (.int v :: st) h) ∧
  (∀ (ls : eL) (st : List Value) (h : eH), ru 47 23 ls st h = ru 47 24 ls (.int (nI 2) :: st) h) ∧
  (∀ (x y : Int32) (ls : eL) (st : List Value) (h : eH), ru 47 24 ls (.int y :: .int x :: st) h = ru 47 25 ls (.int (x + y) :: st) h) ∧
  (∀ (ls : eL) (st : List Value) (h : eH), ru 47 25 ls st h = ru 47 26 ls (.int (nI 3) :: st) h) ∧
  (∀ (x y : Int32) (ls : eL) (st : List Value) (h : eH), ru 47 26 ls (.int y :: .int x :: st) h = if y = 0 then none else ru 47 27 ls (.int (x - x / y * y) :: st) h) ∧
  (∀ (x y : Int32) (ls : eL) (st : List Value) (h : eH), ru 47 27 ls (.int y :: .int x :: st) h = ru 47 28 ls (.int (x + y) :: st) h) ∧
  (∀ (a0 : Nat) (a1 : Int32) (a2 : Int32) (a3 : Int32) (ls : eL) (h : eH), ru 47 28 ls [.int a3, .int a2, .int a1, .ref a0] h = cl (den 27 [.ref a0, .int a1, .int a2, .int a3] h) (fun v h => ru 47 31 ls (v.toList ++ []) h)) ∧
  (∀ (v : Nat) (t : eL) (st : List Value) (h : eH), ru 47 31 (some (.ref v) :: t) st h = ru 47 32 (some (.ref v) :: t) (.ref v :: st) h) ∧
  (∀ (ls : eL) (st : List Value) (h : eH), ru 47 32 ls st h = ru 47 34 ls (.int (nI 7) :: st) h) ∧
  (∀ (x0 x1 : Option Value) (v : Int32) (t : eL) (st : List Value) (h : eH), ru 47 34 (x0 :: x1 :: some (.int v) :: t) st h = ru 47 35 (x0 :: x1 :: some (.int v) :: t) (.int v :: st) h) ∧
  (∀ (x0 x1 x2 x3 : Option Value) (v : Int32) (t : eL) (st : List Value) (h : eH), ru 47 35 (x0 :: x1 :: x2 :: x3 :: some (.int v) :: t) st h = ru 47 37 (x0 :: x1 :: x2 :: x3 :: some (.int v) :: t) (.int v :: st) h) ∧
  (∀ (ls : eL) (st : List Value) (h : eH), ru 47 37 ls st h = ru 47 38 ls (.int (nI 2) :: st) h) ∧
  (∀ (x y : Int32) (ls : eL) (st : List Value) (h : eH), ru 47 38 ls (.int y :: .int x :: st) h = ru 47 39 ls (.int (x + y) :: st) h) ∧
  (∀ (ls : eL) (st : List Value) (h : eH), ru 47 39 ls st h = ru 47 40 ls (.int (nI 3) :: st) h) ∧
  (∀ (x y : Int32) (ls : eL) (st : List Value) (h : eH), ru 47 40 ls (.int y :: .int x :: st) h = if y = 0 then none else ru 47 41 ls (.int (x - x / y * y) :: st) h) ∧
  (∀ (x y : Int32) (ls : eL) (st : List Value) (h : eH), ru 47 41 ls (.int y :: .int x :: st) h = ru 47 42 ls (.int (x + y) :: st) h) ∧
  (∀ (x0 x1 x2 : Option Value) (v : Int32) (t : eL) (st : List Value) (h : eH), ru 47 42 (x0 :: x1 :: x2 :: some (.int v) :: t) st h = ru 47 43 (x0 :: x1 :: x2 :: some (.int v) :: t) (.int v :: st) h) ∧
  (∀ (x0 x1 x2 x3 : Option Value) (v : Int32) (t : eL) (st : List Value) (h : eH), ru 47 43 (x0 :: x1 :: x2 :: x3 :: some (.int v) :: t) st h = ru 47 45 (x0 :: x1 :: x2 :: x3 :: some (.int v) :: t) (.int v :: st) h) ∧
  (∀ (ls : eL) (st : List Value) (h : eH), ru 47 45 ls st h = ru 47 46 ls (.int (nI 1) :: st) h) ∧
  (∀ (x y : Int32) (ls : eL) (st : List Value) (h : eH), ru 47 46 ls (.int y :: .int x :: st) h = ru 47 47 ls (.int (x + y) :: st) h) ∧
  (∀ (ls : eL) (st : List Value) (h : eH), ru 47 47 ls st h = ru 47 48 ls (.int (nI 3) :: st) h) ∧
  (∀ (x y : Int32) (ls : eL) (st : List Value) (h : eH), ru 47 48 ls (.int y :: .int x :: st) h = if y = 0 then none else ru 47 49 ls (.int (x - x / y * y) :: st) h) ∧
  (∀ (x y : Int32) (ls : eL) (st : List Value) (h : eH), ru 47 49 ls (.int y :: .int x :: st) h = ru 47 50 ls (.int (x + y) :: st) h) ∧
  (∀ (a0 : Nat) (a1 : Int32) (a2 : Int32) (a3 : Int32) (ls : eL) (h : eH), ru 47 50 ls [.int a3, .int a2, .int a1, .ref a0] h = cl (den 27 [.ref a0, .int a1, .int a2, .int a3] h) (fun v h => ru 47 53 ls (v.toList ++ []) h)) ∧
  (∀ (v : Nat) (t : eL) (st : List Value) (h : eH), ru 47 53 (some (.ref v) :: t) st h = ru 47 54 (some (.ref v) :: t) (.ref v :: st) h) ∧
  (∀ (ls : eL) (st : List Value) (h : eH), ru 47 54 ls st h = ru 47 56 ls (.int (nI 6) :: st) h) ∧
  (∀ (ls : eL) (st : List Value) (h : eH), ru 47 56 ls st h = ru 47 58 ls (.int (nI 7) :: st) h) ∧
  (∀ (ls : eL) (st : List Value) (h : eH), ru 47 58 ls st h = ru 47 61 ls (.long (-lN 1) :: st) h) ∧
  (∀ (a0 : Nat) (a1 : Int32) (a2 : Int32) (a3 : Int64) (ls : eL) (h : eH), ru 47 61 ls [.long a3, .int a2, .int a1, .ref a0] h = cl (den 15 [.ref a0, .int a1, .int a2, .long a3] h) (fun v h => ru 47 64 ls (v.toList ++ []) h)) ∧
  (∀ (v : Nat) (t : eL) (st : List Value) (h : eH), ru 47 64 (some (.ref v) :: t) st h = ru 47 65 (some (.ref v) :: t) (.ref v :: st) h) ∧
  (∀ (x0 : Option Value) (v : Int32) (t : eL) (st : List Value) (h : eH), ru 47 65 (x0 :: some (.int v) :: t) st h = ru 47 66 (x0 :: some (.int v) :: t) (.int v :: st) h) ∧
  (∀ (x0 x1 x2 x3 : Option Value) (v : Int32) (t : eL) (st : List Value) (h : eH), ru 47 66 (x0 :: x1 :: x2 :: x3 :: some (.int v) :: t) st h = ru 47 68 (x0 :: x1 :: x2 :: x3 :: some (.int v) :: t) (.int v :: st) h) ∧
  (∀ (x y : Int32) (ls : eL) (st : List Value) (h : eH), ru 47 68 ls (.int y :: .int x :: st) h = ru 47 69 ls (.int (x + y) :: st) h) ∧
  (∀ (ls : eL) (st : List Value) (h : eH), ru 47 69 ls st h = ru 47 71 ls (.int (nI 6) :: st) h) ∧
  (∀ (a0 : Nat) (a1 : Int32) (a2 : Int32) (ls : eL) (h : eH), ru 47 71 ls [.int a2, .int a1, .ref a0] h = cl (den 20 [.ref a0, .int a1, .int a2] h) (fun v h => ru 47 74 ls (v.toList ++ []) h)) ∧
  (∀ (x0 x1 x2 x3 : Option Value) (v : Int32) (t : eL) (st : List Value) (h : eH), ru 47 74 (x0 :: x1 :: x2 :: x3 :: some (.int v) :: t) st h = ru 47 77 (x0 :: x1 :: x2 :: eKl x3 :: some (.int (v + 1)) :: t) st h) ∧
  (∀ (ls : eL) (st : List Value) (h : eH), ru 47 77 ls st h = ru 47 3 ls st h) ∧
  (∀ (ls : eL) (h : eH), ru 47 80 ls [] h = some (none, h)) := ⟨fun ls st h => ru_go rfl rfl,
  fun x0 x1 x2 x3 x4 v t st h => ru_go rfl rfl,
  fun ls st h => ru_go rfl rfl,
  fun x y ls st h => ru_if rfl rfl,
  fun v t st h => ru_go rfl rfl,
  fun ls st h => ru_go rfl rfl,
  fun x0 x1 v t st h => ru_go rfl rfl,
  fun x0 x1 x2 x3 v t st h => ru_go rfl rfl,
  fun ls st h => ru_go rfl rfl,
  fun x y ls st h => ru_go rfl rfl,
  fun ls st h => ru_go rfl rfl,
  fun x y ls st h => ru_guard rfl rfl,
  fun x y ls st h => ru_go rfl rfl,
  fun x0 x1 x2 v t st h => ru_go rfl rfl,
  fun x0 x1 x2 x3 v t st h => ru_go rfl rfl,
  fun ls st h => ru_go rfl rfl,
  fun x y ls st h => ru_go rfl rfl,
  fun ls st h => ru_go rfl rfl,
  fun x y ls st h => ru_guard rfl rfl,
  fun x y ls st h => ru_go rfl rfl,
  fun a0 a1 a2 a3 ls h => ru_inv rfl (by decide) rfl (Nat.le_of_ble_eq_true rfl),
  fun v t st h => ru_go rfl rfl,
  fun ls st h => ru_go rfl rfl,
  fun x0 x1 v t st h => ru_go rfl rfl,
  fun x0 x1 x2 x3 v t st h => ru_go rfl rfl,
  fun ls st h => ru_go rfl rfl,
  fun x y ls st h => ru_go rfl rfl,
  fun ls st h => ru_go rfl rfl,
  fun x y ls st h => ru_guard rfl rfl,
  fun x y ls st h => ru_go rfl rfl,
  fun x0 x1 x2 v t st h => ru_go rfl rfl,
  fun x0 x1 x2 x3 v t st h => ru_go rfl rfl,
  fun ls st h => ru_go rfl rfl,
  fun x y ls st h => ru_go rfl rfl,
  fun ls st h => ru_go rfl rfl,
  fun x y ls st h => ru_guard rfl rfl,
  fun x y ls st h => ru_go rfl rfl,
  fun a0 a1 a2 a3 ls h => ru_inv rfl (by decide) rfl (Nat.le_of_ble_eq_true rfl),
  fun v t st h => ru_go rfl rfl,
  fun ls st h => ru_go rfl rfl,
  fun ls st h => ru_go rfl rfl,
  fun ls st h => ru_go rfl rfl,
  fun a0 a1 a2 a3 ls h => ru_inv rfl (by decide) rfl (Nat.le_of_ble_eq_true rfl),
  fun v t st h => ru_go rfl rfl,
  fun x0 v t st h => ru_go rfl rfl,
  fun x0 x1 x2 x3 v t st h => ru_go rfl rfl,
  fun x y ls st h => ru_go rfl rfl,
  fun ls st h => ru_go rfl rfl,
  fun a0 a1 a2 ls h => ru_inv rfl (by decide) rfl (Nat.le_of_ble_eq_true rfl),
  fun x0 x1 x2 x3 v t st h => ru_go rfl rfl,
  fun ls st h => ru_go rfl rfl,
  fun ls h => ru_ret rfl rfl⟩
theorem E47 (a0 : Nat) (a1 : Int32) (a2 : Int32) (a3 : Int32) {h : eH} {fs : List Value} (ha : h.1 a0 = .inr (11, fs)) : den 47 [.ref a0, .int a1, .int a2, .int a3] h = ru 47 0 [some (.ref a0), some (.int a1), some (.int a2), some (.int a3), none] [] h := den_ob (Nat.le_of_ble_eq_true rfl) ha
/-! 48 X11_leftOf -/
set_option maxRecDepth 100000 in
theorem H48_34 : (∀ (x0 x1 x2 x3 x4 x5 : Option Value) (v : Int32) (t : eL) (st : List Value) (h : eH), ru 48 34 (x0 :: x1 :: x2 :: x3 :: x4 :: x5 :: some (.int v) :: t) st h = ru 48 36 (x0 :: x1 :: x2 :: x3 :: x4 :: x5 :: some (.int v) :: t) (.int v :: st) h) := fun x0 x1 x2 x3 x4 x5 v t st h => ru_go rfl rfl
set_option maxRecDepth 100000 in
theorem H48_72 : (∀ (x0 x1 x2 x3 : Option Value) (v : Int64) (t : eL) (st : List Value) (h : eH), ru 48 72 (x0 :: x1 :: x2 :: x3 :: some (.long v) :: t) st h = ru 48 74 (x0 :: x1 :: x2 :: x3 :: some (.long v) :: t) (.long v :: st) h) := fun x0 x1 x2 x3 v t st h => ru_go rfl rfl
set_option maxRecDepth 100000 in
theorem S48 : (∀ (x0 x1 x2 : Option Value) (v : Int32) (t : eL) (st : List Value) (h : eH), ru 48 0 (x0 :: x1 :: x2 :: some (.int v) :: t) st h = ru 48 1 (x0 :: x1 :: x2 :: some (.int v) :: t) (.int v :: st) h) ∧
  (∀ (x : Int32) (ls : eL) (st : List Value) (h : eH), ru 48 1 ls (.int x :: st) h = if x = 0 then ru 48 4 ls st h else ru 48 8 ls st h) ∧
  (∀ (ls : eL) (st : List Value) (h : eH), ru 48 4 ls st h = ru 48 5 ls (.long (lN 0) :: st) h) ∧
  (∀ (ls : eL) (st : List Value) (h : eH), ru 48 5 ls st h = ru 48 29 ls st h) ∧
  (∀ (x0 x1 : Option Value) (v : Int32) (t : eL) (st : List Value) (h : eH), ru 48 8 (x0 :: x1 :: some (.int v) :: t) st h = ru 48 9 (x0 :: x1 :: some (.int v) :: t) (.int v :: st) h) ∧
  (∀ (x : Int32) (ls : eL) (st : List Value) (h : eH), ru 48 9 ls (.int x :: st) h = if x = 0 then ru 48 12 ls st h else ru 48 22 ls st h) ∧
  (∀ (v : Nat) (t : eL) (st : List Value) (h : eH), ru 48 12 (some (.ref v) :: t) st h = ru 48 13 (some (.ref v) :: t) (.ref v :: st) h) ∧
  (∀ (a : Nat) (ls : eL) (st : List Value) (h : eH), ru 48 13 ls (.ref a :: st) h = gF (h.1 a) 11 8 (fun v => ru 48 16 ls (v :: st) h)) ∧
  (∀ (x0 : Option Value) (v : Int32) (t : eL) (st : List Value) (h : eH), ru 48 16 (x0 :: some (.int v) :: t) st h = ru 48 17 (x0 :: some (.int v) :: t) (.int v :: st) h) ∧
  (∀ (i : Int32) (a : Nat) (ls : eL) (st : List Value) (h : eH), ru 48 17 ls (.int i :: .ref a :: st) h = aI (h.1 a) 0 i (fun v => ru 48 18 ls (.int v :: st) h)) ∧
  (∀ (x : Int32) (ls : eL) (st : List Value) (h : eH), ru 48 18 ls (.int x :: st) h = ru 48 19 ls (.long (x.toInt64) :: st) h) ∧
  (∀ (ls : eL) (st : List Value) (h : eH), ru 48 19 ls st h = ru 48 29 ls st h) ∧
  (∀ (v : Nat) (t : eL) (st : List Value) (h : eH), ru 48 22 (some (.ref v) :: t) st h = ru 48 23 (some (.ref v) :: t) (.ref v :: st) h) ∧
  (∀ (a : Nat) (ls : eL) (st : List Value) (h : eH), ru 48 23 ls (.ref a :: st) h = gF (h.1 a) 11 9 (fun v => ru 48 26 ls (v :: st) h)) ∧
  (∀ (x0 : Option Value) (v : Int32) (t : eL) (st : List Value) (h : eH), ru 48 26 (x0 :: some (.int v) :: t) st h = ru 48 27 (x0 :: some (.int v) :: t) (.int v :: st) h) ∧
  (∀ (i : Int32) (a : Nat) (ls : eL) (st : List Value) (h : eH), ru 48 27 ls (.int i :: .ref a :: st) h = aI (h.1 a) 0 i (fun v => ru 48 28 ls (.int v :: st) h)) ∧
  (∀ (x : Int32) (ls : eL) (st : List Value) (h : eH), ru 48 28 ls (.int x :: st) h = ru 48 29 ls (.long (x.toInt64) :: st) h) ∧
  (∀ (x0 x1 x2 x3 x4 x5 : Option Value) (v : Int64) (t : eL) (st : List Value) (h : eH), ru 48 29 (x0 :: x1 :: x2 :: x3 :: x4 :: x5 :: t) (.long v :: st) h = ru 48 31 (x0 :: x1 :: x2 :: eKl x3 :: some (.long v) :: none :: t) st h) ∧
  (∀ (ls : eL) (st : List Value) (h : eH), ru 48 31 ls st h = ru 48 32 ls (.int (nI 0) :: st) h) ∧
  (∀ (x0 x1 x2 x3 x4 x5 x6 : Option Value) (v : Int32) (t : eL) (st : List Value) (h : eH), ru 48 32 (x0 :: x1 :: x2 :: x3 :: x4 :: x5 :: x6 :: t) (.int v :: st) h = ru 48 34 (x0 :: x1 :: x2 :: x3 :: x4 :: eKl x5 :: some (.int v) :: t) st h) ∧
  (∀ (v : Nat) (t : eL) (st : List Value) (h : eH), ru 48 36 (some (.ref v) :: t) st h = ru 48 37 (some (.ref v) :: t) (.ref v :: st) h) ∧
  (∀ (a : Nat) (ls : eL) (st : List Value) (h : eH), ru 48 37 ls (.ref a :: st) h = gF (h.1 a) 11 10 (fun v => ru 48 40 ls (v :: st) h)) ∧
  (∀ (x y : Int32) (ls : eL) (st : List Value) (h : eH), ru 48 40 ls (.int y :: .int x :: st) h = if y ≤ x then ru 48 72 ls st h else ru 48 43 ls st h) ∧
  (∀ (x0 x1 x2 x3 : Option Value) (v : Int64) (t : eL) (st : List Value) (h : eH), ru 48 43 (x0 :: x1 :: x2 :: x3 :: some (.long v) :: t) st h = ru 48 45 (x0 :: x1 :: x2 :: x3 :: some (.long v) :: t) (.long v :: st) h) ∧
  (∀ (v : Nat) (t : eL) (st : List Value) (h : eH), ru 48 45 (some (.ref v) :: t) st h = ru 48 46 (some (.ref v) :: t) (.ref v :: st) h) ∧
  (∀ (a : Nat) (ls : eL) (st : List Value) (h : eH), ru 48 46 ls (.ref a :: st) h = gF (h.1 a) 11 14 (fun v => ru 48 49 ls (v :: st) h)) ∧
  (∀ (x0 x1 x2 x3 x4 x5 : Option Value) (v : Int32) (t : eL) (st : List Value) (h : eH), ru 48 49 (x0 :: x1 :: x2 :: x3 :: x4 :: x5 :: some (.int v) :: t) st h = ru 48 51 (x0 :: x1 :: x2 :: x3 :: x4 :: x5 :: some (.int v) :: t) (.int v :: st) h) ∧
  (∀ (i : Int32) (a : Nat) (ls : eL) (st : List Value) (h : eH), ru 48 51 ls (.int i :: .ref a :: st) h = aI (h.1 a) 0 i (fun v => ru 48 52 ls (.int v :: st) h)) ∧
  (∀ (x : Int32) (ls : eL) (st : List Value) (h : eH), ru 48 52 ls (.int x :: st) h = ru 48 53 ls (.long (x.toInt64) :: st) h) ∧
  (∀ (v : Nat) (t : eL) (st : List Value) (h : eH), ru 48 53 (some (.ref v) :: t) st h = ru 48 54 (some (.ref v) :: t) (.ref v :: st) h) ∧
  (∀ (x0 x1 x2 x3 x4 x5 : Option Value) (v : Int32) (t : eL) (st : List Value) (h : eH), ru 48 54 (x0 :: x1 :: x2 :: x3 :: x4 :: x5 :: some (.int v) :: t) st h = ru 48 56 (x0 :: x1 :: x2 :: x3 :: x4 :: x5 :: some (.int v) :: t) (.int v :: st) h) ∧
  (∀ (x0 : Option Value) (v : Int32) (t : eL) (st : List Value) (h : eH), ru 48 56 (x0 :: some (.int v) :: t) st h = ru 48 57 (x0 :: some (.int v) :: t) (.int v :: st) h) ∧
  (∀ (x0 x1 : Option Value) (v : Int32) (t : eL) (st : List Value) (h : eH), ru 48 57 (x0 :: x1 :: some (.int v) :: t) st h = ru 48 58 (x0 :: x1 :: some (.int v) :: t) (.int v :: st) h) ∧
  (∀ (a0 : Nat) (a1 : Int32) (a2 : Int32) (a3 : Int32) (u0 : Int64) (u1 : Int64) (ls : eL) (h : eH), ru 48 58 ls [.int a3, .int a2, .int a1, .ref a0, .long u0, .long u1] h = cl (den 24 [.ref a0, .int a1, .int a2, .int a3] h) (fun v h => ru 48 61 ls (v.toList ++ [.long u0, .long u1]) h)) ∧
  (∀ (x : Int32) (ls : eL) (st : List Value) (h : eH), ru 48 61 ls (.int x :: st) h = ru 48 62 ls (.long (x.toInt64) :: st) h) ∧
  (∀ (x y : Int64) (ls : eL) (st : List Value) (h : eH), ru 48 62 ls (.long y :: .long x :: st) h = ru 48 63 ls (.long (x * y) :: st) h) ∧
  (∀ (x y : Int64) (ls : eL) (st : List Value) (h : eH), ru 48 63 ls (.long y :: .long x :: st) h = ru 48 64 ls (.long (x + y) :: st) h) ∧
  (∀ (x0 x1 x2 x3 x4 x5 : Option Value) (v : Int64) (t : eL) (st : List Value) (h : eH), ru 48 64 (x0 :: x1 :: x2 :: x3 :: x4 :: x5 :: t) (.long v :: st) h = ru 48 66 (x0 :: x1 :: x2 :: eKl x3 :: some (.long v) :: none :: t) st h) ∧
  (∀ (x0 x1 x2 x3 x4 x5 : Option Value) (v : Int32) (t : eL) (st : List Value) (h : eH), ru 48 66 (x0 :: x1 :: x2 :: x3 :: x4 :: x5 :: some (.int v) :: t) st h = ru 48 69 (x0 :: x1 :: x2 :: x3 :: x4 :: eKl x5 :: some (.int (v + 1)) :: t) st h) ∧
  (∀ (ls : eL) (st : List Value) (h : eH), ru 48 69 ls st h = ru 48 34 ls st h) ∧
  (∀ (x : Int64) (ls : eL) (h : eH), ru 48 74 ls [.long x] h = some (some (.long x), h)) := ⟨fun x0 x1 x2 v t st h => ru_go rfl rfl,
  fun x ls st h => ru_if rfl rfl,
  fun ls st h => ru_go rfl rfl,
  fun ls st h => ru_go rfl rfl,
  fun x0 x1 v t st h => ru_go rfl rfl,
  fun x ls st h => ru_if rfl rfl,
  fun v t st h => ru_go rfl rfl,
  fun a ls st h => ru_getf rfl,
  fun x0 v t st h => ru_go rfl rfl,
  fun i a ls st h => ru_iald rfl,
  fun x ls st h => ru_go rfl rfl,
  fun ls st h => ru_go rfl rfl,
  fun v t st h => ru_go rfl rfl,
  fun a ls st h => ru_getf rfl,
  fun x0 v t st h => ru_go rfl rfl,
  fun i a ls st h => ru_iald rfl,
  fun x ls st h => ru_go rfl rfl,
  fun x0 x1 x2 x3 x4 x5 v t st h => ru_go rfl rfl,
  fun ls st h => ru_go rfl rfl,
  fun x0 x1 x2 x3 x4 x5 x6 v t st h => ru_go rfl rfl,
  fun v t st h => ru_go rfl rfl,
  fun a ls st h => ru_getf rfl,
  fun x y ls st h => ru_if rfl rfl,
  fun x0 x1 x2 x3 v t st h => ru_go rfl rfl,
  fun v t st h => ru_go rfl rfl,
  fun a ls st h => ru_getf rfl,
  fun x0 x1 x2 x3 x4 x5 v t st h => ru_go rfl rfl,
  fun i a ls st h => ru_iald rfl,
  fun x ls st h => ru_go rfl rfl,
  fun v t st h => ru_go rfl rfl,
  fun x0 x1 x2 x3 x4 x5 v t st h => ru_go rfl rfl,
  fun x0 v t st h => ru_go rfl rfl,
  fun x0 x1 v t st h => ru_go rfl rfl,
  fun a0 a1 a2 a3 u0 u1 ls h => ru_inv rfl (by decide) rfl (Nat.le_of_ble_eq_true rfl),
  fun x ls st h => ru_go rfl rfl,
  fun x y ls st h => ru_go rfl rfl,
  fun x y ls st h => ru_go rfl rfl,
  fun x0 x1 x2 x3 x4 x5 v t st h => ru_go rfl rfl,
  fun x0 x1 x2 x3 x4 x5 v t st h => ru_go rfl rfl,
  fun ls st h => ru_go rfl rfl,
  fun x ls h => ru_ret rfl rfl⟩
theorem E48 (a0 : Nat) (a1 : Int32) (a2 : Int32) (a3 : Int32) {h : eH} {fs : List Value} (ha : h.1 a0 = .inr (11, fs)) : den 48 [.ref a0, .int a1, .int a2, .int a3] h = ru 48 0 [some (.ref a0), some (.int a1), some (.int a2), some (.int a3), none, none, none] [] h := den_ob (Nat.le_of_ble_eq_true rfl) ha
/-! 49 X11_isEvenTold -/
set_option maxRecDepth 100000 in
theorem H49_2 : (∀ (x0 x1 : Option Value) (v : Int32) (t : eL) (st : List Value) (h : eH), ru 49 2 (x0 :: x1 :: some (.int v) :: t) st h = ru 49 3 (x0 :: x1 :: some (.int v) :: t) (.int v :: st) h) := fun x0 x1 v t st h => ru_go rfl rfl
set_option maxRecDepth 100000 in
theorem H49_51 : (∀ (ls : eL) (st : List Value) (h : eH), ru 49 51 ls st h = ru 49 52 ls (.int (nI 1) :: st) h) := fun ls st h => ru_go rfl rfl
set_option maxRecDepth 100000 in
theorem S49 : (∀ (ls : eL) (st : List Value) (h : eH), ru 49 0 ls st h = ru 49 1 ls (.int (nI 0) :: st) h) ∧
  (∀ (x0 x1 x2 : Option Value) (v : Int32) (t : eL) (st : List Value) (h : eH), ru 49 1 (x0 :: x1 :: x2 :: t) (.int v :: st) h = ru 49 2 (x0 :: eKl x1 :: some (.int v) :: t) st h) ∧
  (∀ (v : Nat) (t : eL) (st : List Value) (h : eH), ru 49 3 (some (.ref v) :: t) st h = ru 49 4 (some (.ref v) :: t) (.ref v :: st) h) ∧
  (∀ (a : Nat) (ls : eL) (st : List Value) (h : eH), ru 49 4 ls (.ref a :: st) h = gF (h.1 a) 11 4 (fun v => ru 49 7 ls (v :: st) h)) ∧
  (∀ (x y : Int32) (ls : eL) (st : List Value) (h : eH), ru 49 7 ls (.int y :: .int x :: st) h = if y ≤ x then ru 49 51 ls st h else ru 49 10 ls st h) ∧
  (∀ (v : Nat) (t : eL) (st : List Value) (h : eH), ru 49 10 (some (.ref v) :: t) st h = ru 49 11 (some (.ref v) :: t) (.ref v :: st) h) ∧
  (∀ (a : Nat) (ls : eL) (st : List Value) (h : eH), ru 49 11 ls (.ref a :: st) h = gF (h.1 a) 11 7 (fun v => ru 49 14 ls (v :: st) h)) ∧
  (∀ (x0 x1 : Option Value) (v : Int32) (t : eL) (st : List Value) (h : eH), ru 49 14 (x0 :: x1 :: some (.int v) :: t) st h = ru 49 15 (x0 :: x1 :: some (.int v) :: t) (.int v :: st) h) ∧
  (∀ (i : Int32) (a : Nat) (ls : eL) (st : List Value) (h : eH), ru 49 15 ls (.int i :: .ref a :: st) h = aI (h.1 a) 2 i (fun v => ru 49 16 ls (.int v :: st) h)) ∧
  (∀ (x : Int32) (ls : eL) (st : List Value) (h : eH), ru 49 16 ls (.int x :: st) h = if x = 0 then ru 49 19 ls st h else ru 49 45 ls st h) ∧
  (∀ (v : Nat) (t : eL) (st : List Value) (h : eH), ru 49 19 (some (.ref v) :: t) st h = ru 49 20 (some (.ref v) :: t) (.ref v :: st) h) ∧
  (∀ (x0 x1 : Option Value) (v : Int32) (t : eL) (st : List Value) (h : eH), ru 49 20 (x0 :: x1 :: some (.int v) :: t) st h = ru 49 21 (x0 :: x1 :: some (.int v) :: t) (.int v :: st) h) ∧
  (∀ (ls : eL) (st : List Value) (h : eH), ru 49 21 ls st h = ru 49 22 ls (.int (nI 0) :: st) h) ∧
  (∀ (x0 : Option Value) (v : Int32) (t : eL) (st : List Value) (h : eH), ru 49 22 (x0 :: some (.int v) :: t) st h = ru 49 23 (x0 :: some (.int v) :: t) (.int v :: st) h) ∧
  (∀ (a0 : Nat) (a1 : Int32) (a2 : Int32) (a3 : Int32) (ls : eL) (h : eH), ru 49 23 ls [.int a3, .int a2, .int a1, .ref a0] h = cl (den 48 [.ref a0, .int a1, .int a2, .int a3] h) (fun v h => ru 49 26 ls (v.toList ++ []) h)) ∧
  (∀ (ls : eL) (st : List Value) (h : eH), ru 49 26 ls st h = ru 49 27 ls (.long (lN 0) :: st) h) ∧
  (∀ (x y : Int64) (ls : eL) (st : List Value) (h : eH), ru 49 27 ls (.long y :: .long x :: st) h = ru 49 28 ls (.int (lg_cmp x y) :: st) h) ∧
  (∀ (x : Int32) (ls : eL) (st : List Value) (h : eH), ru 49 28 ls (.int x :: st) h = if x = 0 then ru 49 31 ls st h else ru 49 43 ls st h) ∧
  (∀ (v : Nat) (t : eL) (st : List Value) (h : eH), ru 49 31 (some (.ref v) :: t) st h = ru 49 32 (some (.ref v) :: t) (.ref v :: st) h) ∧
  (∀ (x0 x1 : Option Value) (v : Int32) (t : eL) (st : List Value) (h : eH), ru 49 32 (x0 :: x1 :: some (.int v) :: t) st h = ru 49 33 (x0 :: x1 :: some (.int v) :: t) (.int v :: st) h) ∧
  (∀ (ls : eL) (st : List Value) (h : eH), ru 49 33 ls st h = ru 49 34 ls (.int (nI 1) :: st) h) ∧
  (∀ (x0 : Option Value) (v : Int32) (t : eL) (st : List Value) (h : eH), ru 49 34 (x0 :: some (.int v) :: t) st h = ru 49 35 (x0 :: some (.int v) :: t) (.int v :: st) h) ∧
  (∀ (a0 : Nat) (a1 : Int32) (a2 : Int32) (a3 : Int32) (ls : eL) (h : eH), ru 49 35 ls [.int a3, .int a2, .int a1, .ref a0] h = cl (den 48 [.ref a0, .int a1, .int a2, .int a3] h) (fun v h => ru 49 38 ls (v.toList ++ []) h)) ∧
  (∀ (ls : eL) (st : List Value) (h : eH), ru 49 38 ls st h = ru 49 39 ls (.long (lN 0) :: st) h) ∧
  (∀ (x y : Int64) (ls : eL) (st : List Value) (h : eH), ru 49 39 ls (.long y :: .long x :: st) h = ru 49 40 ls (.int (lg_cmp x y) :: st) h) ∧
  (∀ (x : Int32) (ls : eL) (st : List Value) (h : eH), ru 49 40 ls (.int x :: st) h = if x = 0 then ru 49 45 ls st h else ru 49 43 ls st h) ∧
  (∀ (ls : eL) (st : List Value) (h : eH), ru 49 43 ls st h = ru 49 44 ls (.int (nI 0) :: st) h) ∧
  (∀ (x : Int32) (ls : eL) (h : eH), ru 49 44 ls [.int x] h = bo (x == 0 || x == 1) (some (some (.int x), h))) ∧
  (∀ (x0 x1 : Option Value) (v : Int32) (t : eL) (st : List Value) (h : eH), ru 49 45 (x0 :: x1 :: some (.int v) :: t) st h = ru 49 48 (x0 :: eKl x1 :: some (.int (v + 1)) :: t) st h) ∧
  (∀ (ls : eL) (st : List Value) (h : eH), ru 49 48 ls st h = ru 49 2 ls st h) ∧
  (∀ (x : Int32) (ls : eL) (h : eH), ru 49 52 ls [.int x] h = bo (x == 0 || x == 1) (some (some (.int x), h))) := ⟨fun ls st h => ru_go rfl rfl,
  fun x0 x1 x2 v t st h => ru_go rfl rfl,
  fun v t st h => ru_go rfl rfl,
  fun a ls st h => ru_getf rfl,
  fun x y ls st h => ru_if rfl rfl,
  fun v t st h => ru_go rfl rfl,
  fun a ls st h => ru_getf rfl,
  fun x0 x1 v t st h => ru_go rfl rfl,
  fun i a ls st h => ru_zald rfl,
  fun x ls st h => ru_if rfl rfl,
  fun v t st h => ru_go rfl rfl,
  fun x0 x1 v t st h => ru_go rfl rfl,
  fun ls st h => ru_go rfl rfl,
  fun x0 v t st h => ru_go rfl rfl,
  fun a0 a1 a2 a3 ls h => ru_inv rfl (by decide) rfl (Nat.le_of_ble_eq_true rfl),
  fun ls st h => ru_go rfl rfl,
  fun x y ls st h => ru_go rfl rfl,
  fun x ls st h => ru_if rfl rfl,
  fun v t st h => ru_go rfl rfl,
  fun x0 x1 v t st h => ru_go rfl rfl,
  fun ls st h => ru_go rfl rfl,
  fun x0 v t st h => ru_go rfl rfl,
  fun a0 a1 a2 a3 ls h => ru_inv rfl (by decide) rfl (Nat.le_of_ble_eq_true rfl),
  fun ls st h => ru_go rfl rfl,
  fun x y ls st h => ru_go rfl rfl,
  fun x ls st h => ru_if rfl rfl,
  fun ls st h => ru_go rfl rfl,
  fun x ls h => ru_bret rfl rfl,
  fun x0 x1 v t st h => ru_go rfl rfl,
  fun ls st h => ru_go rfl rfl,
  fun x ls h => ru_bret rfl rfl⟩
theorem E49 (a0 : Nat) (a1 : Int32) {h : eH} {fs : List Value} (ha : h.1 a0 = .inr (11, fs)) : den 49 [.ref a0, .int a1] h = ru 49 0 [some (.ref a0), some (.int a1), none] [] h := den_ob (Nat.le_of_ble_eq_true rfl) ha
/-! 50 X11_even -/
set_option maxRecDepth 100000 in
theorem S50 : (∀ (v : Nat) (t : eL) (st : List Value) (h : eH), ru 50 0 (some (.ref v) :: t) st h = ru 50 1 (some (.ref v) :: t) (.ref v :: st) h) ∧
  (∀ (ls : eL) (st : List Value) (h : eH), ru 50 1 ls st h = ru 50 2 ls (.int (nI 1) :: st) h) ∧
  (∀ (a0 : Nat) (a1 : Int32) (ls : eL) (h : eH), ru 50 2 ls [.int a1, .ref a0] h = cl (den 49 [.ref a0, .int a1] h) (fun v h => ru 50 5 ls (v.toList ++ []) h)) ∧
  (∀ (x : Int32) (ls : eL) (h : eH), ru 50 5 ls [.int x] h = bo (x == 0 || x == 1) (some (some (.int x), h))) := ⟨fun v t st h => ru_go rfl rfl,
  fun ls st h => ru_go rfl rfl,
  fun a0 a1 ls h => ru_inv rfl (by decide) rfl (Nat.le_of_ble_eq_true rfl),
  fun x ls h => ru_bret rfl rfl⟩
theorem E50 (a0 : Nat) {h : eH} {fs : List Value} (ha : h.1 a0 = .inr (11, fs)) : den 50 [.ref a0] h = ru 50 0 [some (.ref a0)] [] h := den_ob (Nat.le_of_ble_eq_true rfl) ha
/-! 51 X11_form -/
set_option maxRecDepth 100000 in
theorem S51 : (∀ (ls : eL) (st : List Value) (h : eH), ru 51 0 ls st h = ru 51 3 ls (.int (nI 382) :: st) h) ∧
  (∀ (ls : eL) (st : List Value) (h : eH), ru 51 3 ls st h = ru 51 4 ls (.int (nI 3) :: st) h) ∧
  (∀ (x0 : Option Value) (v : Int32) (t : eL) (st : List Value) (h : eH), ru 51 4 (x0 :: some (.int v) :: t) st h = ru 51 5 (x0 :: some (.int v) :: t) (.int v :: st) h) ∧
  (∀ (x y : Int32) (ls : eL) (st : List Value) (h : eH), ru 51 5 ls (.int y :: .int x :: st) h = ru 51 6 ls (.int (x * y) :: st) h) ∧
  (∀ (x y : Int32) (ls : eL) (st : List Value) (h : eH), ru 51 6 ls (.int y :: .int x :: st) h = ru 51 7 ls (.int (x + y) :: st) h) ∧
  (∀ (x0 x1 : Option Value) (v : Int32) (t : eL) (st : List Value) (h : eH), ru 51 7 (x0 :: x1 :: some (.int v) :: t) st h = ru 51 8 (x0 :: x1 :: some (.int v) :: t) (.int v :: st) h) ∧
  (∀ (x y : Int32) (ls : eL) (st : List Value) (h : eH), ru 51 8 ls (.int y :: .int x :: st) h = ru 51 9 ls (.int (x + y) :: st) h) ∧
  (∀ (x : Int32) (ls : eL) (h : eH), ru 51 9 ls [.int x] h = some (some (.int x), h)) := ⟨fun ls st h => ru_go rfl rfl,
  fun ls st h => ru_go rfl rfl,
  fun x0 v t st h => ru_go rfl rfl,
  fun x y ls st h => ru_go rfl rfl,
  fun x y ls st h => ru_go rfl rfl,
  fun x0 x1 v t st h => ru_go rfl rfl,
  fun x y ls st h => ru_go rfl rfl,
  fun x ls h => ru_ret rfl rfl⟩
theorem E51 (a0 : Nat) (a1 : Int32) (a2 : Int32) {h : eH} {fs : List Value} (ha : h.1 a0 = .inr (11, fs)) : den 51 [.ref a0, .int a1, .int a2] h = ru 51 0 [some (.ref a0), some (.int a1), some (.int a2)] [] h := den_ob (Nat.le_of_ble_eq_true rfl) ha
/-! 52 X11_freeColumn -/
set_option maxRecDepth 100000 in
theorem H52_5 : (∀ (x0 x1 x2 x3 : Option Value) (v : Int32) (t : eL) (st : List Value) (h : eH), ru 52 5 (x0 :: x1 :: x2 :: x3 :: some (.int v) :: t) st h = ru 52 7 (x0 :: x1 :: x2 :: x3 :: some (.int v) :: t) (.int v :: st) h) := fun x0 x1 x2 x3 v t st h => ru_go rfl rfl
set_option maxRecDepth 100000 in
theorem H52_38 : (∀ (ls : eL) (st : List Value) (h : eH), ru 52 38 ls st h = ru 52 39 ls (.int ((-1)) :: st) h) := fun ls st h => ru_go rfl rfl
set_option maxRecDepth 100000 in
theorem S52 : (∀ (x0 x1 : Option Value) (v : Int32) (t : eL) (st : List Value) (h : eH), ru 52 0 (x0 :: x1 :: some (.int v) :: t) st h = ru 52 1 (x0 :: x1 :: some (.int v) :: t) (.int v :: st) h) ∧
  (∀ (x0 x1 x2 x3 : Option Value) (v : Int32) (t : eL) (st : List Value) (h : eH), ru 52 1 (x0 :: x1 :: x2 :: x3 :: t) (.int v :: st) h = ru 52 2 (x0 :: x1 :: eKl x2 :: some (.int v) :: t) st h) ∧
  (∀ (ls : eL) (st : List Value) (h : eH), ru 52 2 ls st h = ru 52 3 ls (.int (nI 0) :: st) h) ∧
  (∀ (x0 x1 x2 x3 x4 : Option Value) (v : Int32) (t : eL) (st : List Value) (h : eH), ru 52 3 (x0 :: x1 :: x2 :: x3 :: x4 :: t) (.int v :: st) h = ru 52 5 (x0 :: x1 :: x2 :: eKl x3 :: some (.int v) :: t) st h) ∧
  (∀ (x0 : Option Value) (v : Int32) (t : eL) (st : List Value) (h : eH), ru 52 7 (x0 :: some (.int v) :: t) st h = ru 52 8 (x0 :: some (.int v) :: t) (.int v :: st) h) ∧
  (∀ (x y : Int32) (ls : eL) (st : List Value) (h : eH), ru 52 8 ls (.int y :: .int x :: st) h = if y ≤ x then ru 52 38 ls st h else ru 52 11 ls st h) ∧
  (∀ (v : Nat) (t : eL) (st : List Value) (h : eH), ru 52 11 (some (.ref v) :: t) st h = ru 52 12 (some (.ref v) :: t) (.ref v :: st) h) ∧
  (∀ (a : Nat) (ls : eL) (st : List Value) (h : eH), ru 52 12 ls (.ref a :: st) h = gF (h.1 a) 11 22 (fun v => ru 52 15 ls (v :: st) h)) ∧
  (∀ (x0 x1 x2 x3 : Option Value) (v : Int32) (t : eL) (st : List Value) (h : eH), ru 52 15 (x0 :: x1 :: x2 :: x3 :: some (.int v) :: t) st h = ru 52 17 (x0 :: x1 :: x2 :: x3 :: some (.int v) :: t) (.int v :: st) h) ∧
  (∀ (i : Int32) (a : Nat) (ls : eL) (st : List Value) (h : eH), ru 52 17 ls (.int i :: .ref a :: st) h = aI (h.1 a) 0 i (fun v => ru 52 18 ls (.int v :: st) h)) ∧
  (∀ (ls : eL) (st : List Value) (h : eH), ru 52 18 ls st h = ru 52 19 ls (.int ((-1)) :: st) h) ∧
  (∀ (x y : Int32) (ls : eL) (st : List Value) (h : eH), ru 52 19 ls (.int y :: .int x :: st) h = if x = y then ru 52 22 ls st h else ru 52 32 ls st h) ∧
  (∀ (x0 x1 x2 : Option Value) (v : Int32) (t : eL) (st : List Value) (h : eH), ru 52 22 (x0 :: x1 :: x2 :: some (.int v) :: t) st h = ru 52 23 (x0 :: x1 :: x2 :: some (.int v) :: t) (.int v :: st) h) ∧
  (∀ (x : Int32) (ls : eL) (st : List Value) (h : eH), ru 52 23 ls (.int x :: st) h = if x = 0 then ru 52 26 ls st h else ru 52 29 ls st h) ∧
  (∀ (x0 x1 x2 x3 : Option Value) (v : Int32) (t : eL) (st : List Value) (h : eH), ru 52 26 (x0 :: x1 :: x2 :: x3 :: some (.int v) :: t) st h = ru 52 28 (x0 :: x1 :: x2 :: x3 :: some (.int v) :: t) (.int v :: st) h) ∧
  (∀ (x : Int32) (ls : eL) (h : eH), ru 52 28 ls [.int x] h = some (some (.int x), h)) ∧
  (∀ (x0 x1 x2 : Option Value) (v : Int32) (t : eL) (st : List Value) (h : eH), ru 52 29 (x0 :: x1 :: x2 :: some (.int v) :: t) st h = ru 52 32 (x0 :: x1 :: eKl x2 :: some (.int (v + (-1))) :: t) st h) ∧
  (∀ (x0 x1 x2 x3 : Option Value) (v : Int32) (t : eL) (st : List Value) (h : eH), ru 52 32 (x0 :: x1 :: x2 :: x3 :: some (.int v) :: t) st h = ru 52 35 (x0 :: x1 :: x2 :: eKl x3 :: some (.int (v + 1)) :: t) st h) ∧
  (∀ (ls : eL) (st : List Value) (h : eH), ru 52 35 ls st h = ru 52 5 ls st h) ∧
  (∀ (x : Int32) (ls : eL) (h : eH), ru 52 39 ls [.int x] h = some (some (.int x), h)) := ⟨fun x0 x1 v t st h => ru_go rfl rfl,
  fun x0 x1 x2 x3 v t st h => ru_go rfl rfl,
  fun ls st h => ru_go rfl rfl,
  fun x0 x1 x2 x3 x4 v t st h => ru_go rfl rfl,
  fun x0 v t st h => ru_go rfl rfl,
  fun x y ls st h => ru_if rfl rfl,
  fun v t st h => ru_go rfl rfl,
  fun a ls st h => ru_getf rfl,
  fun x0 x1 x2 x3 v t st h => ru_go rfl rfl,
  fun i a ls st h => ru_iald rfl,
  fun ls st h => ru_go rfl rfl,
  fun x y ls st h => ru_if rfl rfl,
  fun x0 x1 x2 v t st h => ru_go rfl rfl,
  fun x ls st h => ru_if rfl rfl,
  fun x0 x1 x2 x3 v t st h => ru_go rfl rfl,
  fun x ls h => ru_ret rfl rfl,
  fun x0 x1 x2 v t st h => ru_go rfl rfl,
  fun x0 x1 x2 x3 v t st h => ru_go rfl rfl,
  fun ls st h => ru_go rfl rfl,
  fun x ls h => ru_ret rfl rfl⟩
theorem E52 (a0 : Nat) (a1 : Int32) (a2 : Int32) {h : eH} {fs : List Value} (ha : h.1 a0 = .inr (11, fs)) : den 52 [.ref a0, .int a1, .int a2] h = ru 52 0 [some (.ref a0), some (.int a1), some (.int a2), none, none] [] h := den_ob (Nat.le_of_ble_eq_true rfl) ha
/-! 53 X11_init -/
set_option maxRecDepth 100000 in
theorem S53 : (∀ (v : Nat) (t : eL) (st : List Value) (h : eH), ru 53 0 (some (.ref v) :: t) st h = ru 53 1 (some (.ref v) :: t) (.ref v :: st) h) ∧
  (∀ (a : Nat) (ls : eL) (h : eH), ru 53 1 ls [.ref a] h = ru 53 4 ls [] h) ∧
  (∀ (v : Nat) (t : eL) (st : List Value) (h : eH), ru 53 4 (some (.ref v) :: t) st h = ru 53 5 (some (.ref v) :: t) (.ref v :: st) h) ∧
  (∀ (ls : eL) (st : List Value) (h : eH), ru 53 5 ls st h = ru 53 8 ls (.int (nI 9888) :: st) h) ∧
  (∀ (c : Int32) (ls : eL) (st : List Value) (h : eH), ru 53 8 ls (.int c :: st) h = if c < 0 ∨ 1000000 < c.toNatClampNeg then none else ru 53 10 ls (.ref h.2.1 :: st) (va_up h.1 h.2.1 (.inl (1, c.toNatClampNeg, .inr (.inl (fun _ => 0)))), h.2.1 + 1, h.2.2 + c.toNatClampNeg)) ∧
  (∀ (v : Nat) (a : Nat) (ls : eL) (st : List Value) (h : eH), ru 53 10 ls (.ref v :: .ref a :: st) h = pF (h.1 a) 11 0 (.ref v) (fun e => ru 53 13 ls st (eUp h a e))) ∧
  (∀ (v : Nat) (t : eL) (st : List Value) (h : eH), ru 53 13 (some (.ref v) :: t) st h = ru 53 14 (some (.ref v) :: t) (.ref v :: st) h) ∧
  (∀ (ls : eL) (st : List Value) (h : eH), ru 53 14 ls st h = ru 53 16 ls (.int (nI 8) :: st) h) ∧
  (∀ (c : Int32) (ls : eL) (st : List Value) (h : eH), ru 53 16 ls (.int c :: st) h = if c < 0 ∨ 1000000 < c.toNatClampNeg then none else ru 53 18 ls (.ref h.2.1 :: st) (va_up h.1 h.2.1 (.inl (0, c.toNatClampNeg, .inl (fun _ => 0))), h.2.1 + 1, h.2.2 + c.toNatClampNeg)) ∧
  (∀ (v : Nat) (a : Nat) (ls : eL) (st : List Value) (h : eH), ru 53 18 ls (.ref v :: .ref a :: st) h = pF (h.1 a) 11 1 (.ref v) (fun e => ru 53 21 ls st (eUp h a e))) ∧
  (∀ (v : Nat) (t : eL) (st : List Value) (h : eH), ru 53 21 (some (.ref v) :: t) st h = ru 53 22 (some (.ref v) :: t) (.ref v :: st) h) ∧
  (∀ (ls : eL) (st : List Value) (h : eH), ru 53 22 ls st h = ru 53 24 ls (.int (nI 8) :: st) h) ∧
  (∀ (c : Int32) (ls : eL) (st : List Value) (h : eH), ru 53 24 ls (.int c :: st) h = if c < 0 ∨ 1000000 < c.toNatClampNeg then none else ru 53 26 ls (.ref h.2.1 :: st) (va_up h.1 h.2.1 (.inl (0, c.toNatClampNeg, .inl (fun _ => 0))), h.2.1 + 1, h.2.2 + c.toNatClampNeg)) ∧
  (∀ (v : Nat) (a : Nat) (ls : eL) (st : List Value) (h : eH), ru 53 26 ls (.ref v :: .ref a :: st) h = pF (h.1 a) 11 2 (.ref v) (fun e => ru 53 29 ls st (eUp h a e))) ∧
  (∀ (v : Nat) (t : eL) (st : List Value) (h : eH), ru 53 29 (some (.ref v) :: t) st h = ru 53 30 (some (.ref v) :: t) (.ref v :: st) h) ∧
  (∀ (ls : eL) (st : List Value) (h : eH), ru 53 30 ls st h = ru 53 33 ls (.int (nI 480) :: st) h) ∧
  (∀ (c : Int32) (ls : eL) (st : List Value) (h : eH), ru 53 33 ls (.int c :: st) h = if c < 0 ∨ 1000000 < c.toNatClampNeg then none else ru 53 35 ls (.ref h.2.1 :: st) (va_up h.1 h.2.1 (.inl (1, c.toNatClampNeg, .inr (.inl (fun _ => 0)))), h.2.1 + 1, h.2.2 + c.toNatClampNeg)) ∧
  (∀ (v : Nat) (a : Nat) (ls : eL) (st : List Value) (h : eH), ru 53 35 ls (.ref v :: .ref a :: st) h = pF (h.1 a) 11 3 (.ref v) (fun e => ru 53 38 ls st (eUp h a e))) ∧
  (∀ (v : Nat) (t : eL) (st : List Value) (h : eH), ru 53 38 (some (.ref v) :: t) st h = ru 53 39 (some (.ref v) :: t) (.ref v :: st) h) ∧
  (∀ (ls : eL) (st : List Value) (h : eH), ru 53 39 ls st h = ru 53 40 ls (.int (nI 1) :: st) h) ∧
  (∀ (v : Int32) (a : Nat) (ls : eL) (st : List Value) (h : eH), ru 53 40 ls (.int v :: .ref a :: st) h = pF (h.1 a) 11 4 (.int v) (fun e => ru 53 43 ls st (eUp h a e))) ∧
  (∀ (v : Nat) (t : eL) (st : List Value) (h : eH), ru 53 43 (some (.ref v) :: t) st h = ru 53 44 (some (.ref v) :: t) (.ref v :: st) h) ∧
  (∀ (ls : eL) (st : List Value) (h : eH), ru 53 44 ls st h = ru 53 46 ls (.int (nI 8) :: st) h) ∧
  (∀ (c : Int32) (ls : eL) (st : List Value) (h : eH), ru 53 46 ls (.int c :: st) h = if c < 0 ∨ 1000000 < c.toNatClampNeg then none else ru 53 48 ls (.ref h.2.1 :: st) (va_up h.1 h.2.1 (.inl (0, c.toNatClampNeg, .inl (fun _ => 0))), h.2.1 + 1, h.2.2 + c.toNatClampNeg)) ∧
  (∀ (v : Nat) (a : Nat) (ls : eL) (st : List Value) (h : eH), ru 53 48 ls (.ref v :: .ref a :: st) h = pF (h.1 a) 11 5 (.ref v) (fun e => ru 53 51 ls st (eUp h a e))) ∧
  (∀ (v : Nat) (t : eL) (st : List Value) (h : eH), ru 53 51 (some (.ref v) :: t) st h = ru 53 52 (some (.ref v) :: t) (.ref v :: st) h) ∧
  (∀ (ls : eL) (st : List Value) (h : eH), ru 53 52 ls st h = ru 53 54 ls (.int (nI 8) :: st) h) ∧
  (∀ (c : Int32) (ls : eL) (st : List Value) (h : eH), ru 53 54 ls (.int c :: st) h = if c < 0 ∨ 1000000 < c.toNatClampNeg then none else ru 53 56 ls (.ref h.2.1 :: st) (va_up h.1 h.2.1 (.inl (0, c.toNatClampNeg, .inl (fun _ => 0))), h.2.1 + 1, h.2.2 + c.toNatClampNeg)) ∧
  (∀ (v : Nat) (a : Nat) (ls : eL) (st : List Value) (h : eH), ru 53 56 ls (.ref v :: .ref a :: st) h = pF (h.1 a) 11 6 (.ref v) (fun e => ru 53 59 ls st (eUp h a e))) ∧
  (∀ (v : Nat) (t : eL) (st : List Value) (h : eH), ru 53 59 (some (.ref v) :: t) st h = ru 53 60 (some (.ref v) :: t) (.ref v :: st) h) ∧
  (∀ (ls : eL) (st : List Value) (h : eH), ru 53 60 ls st h = ru 53 62 ls (.int (nI 8) :: st) h) ∧
  (∀ (c : Int32) (ls : eL) (st : List Value) (h : eH), ru 53 62 ls (.int c :: st) h = if c < 0 ∨ 1000000 < c.toNatClampNeg then none else ru 53 64 ls (.ref h.2.1 :: st) (va_up h.1 h.2.1 (.inl (2, c.toNatClampNeg, .inl (fun _ => 0))), h.2.1 + 1, h.2.2 + c.toNatClampNeg)) ∧
  (∀ (v : Nat) (a : Nat) (ls : eL) (st : List Value) (h : eH), ru 53 64 ls (.ref v :: .ref a :: st) h = pF (h.1 a) 11 7 (.ref v) (fun e => ru 53 67 ls st (eUp h a e))) ∧
  (∀ (v : Nat) (t : eL) (st : List Value) (h : eH), ru 53 67 (some (.ref v) :: t) st h = ru 53 68 (some (.ref v) :: t) (.ref v :: st) h) ∧
  (∀ (ls : eL) (st : List Value) (h : eH), ru 53 68 ls st h = ru 53 70 ls (.int (nI 8) :: st) h) ∧
  (∀ (c : Int32) (ls : eL) (st : List Value) (h : eH), ru 53 70 ls (.int c :: st) h = if c < 0 ∨ 1000000 < c.toNatClampNeg then none else ru 53 72 ls (.ref h.2.1 :: st) (va_up h.1 h.2.1 (.inl (0, c.toNatClampNeg, .inl (fun _ => 0))), h.2.1 + 1, h.2.2 + c.toNatClampNeg)) ∧
  (∀ (v : Nat) (a : Nat) (ls : eL) (st : List Value) (h : eH), ru 53 72 ls (.ref v :: .ref a :: st) h = pF (h.1 a) 11 8 (.ref v) (fun e => ru 53 75 ls st (eUp h a e))) ∧
  (∀ (v : Nat) (t : eL) (st : List Value) (h : eH), ru 53 75 (some (.ref v) :: t) st h = ru 53 76 (some (.ref v) :: t) (.ref v :: st) h) ∧
  (∀ (ls : eL) (st : List Value) (h : eH), ru 53 76 ls st h = ru 53 78 ls (.int (nI 8) :: st) h) ∧
  (∀ (c : Int32) (ls : eL) (st : List Value) (h : eH), ru 53 78 ls (.int c :: st) h = if c < 0 ∨ 1000000 < c.toNatClampNeg then none else ru 53 80 ls (.ref h.2.1 :: st) (va_up h.1 h.2.1 (.inl (0, c.toNatClampNeg, .inl (fun _ => 0))), h.2.1 + 1, h.2.2 + c.toNatClampNeg)) ∧
  (∀ (v : Nat) (a : Nat) (ls : eL) (st : List Value) (h : eH), ru 53 80 ls (.ref v :: .ref a :: st) h = pF (h.1 a) 11 9 (.ref v) (fun e => ru 53 83 ls st (eUp h a e))) ∧
  (∀ (v : Nat) (t : eL) (st : List Value) (h : eH), ru 53 83 (some (.ref v) :: t) st h = ru 53 84 (some (.ref v) :: t) (.ref v :: st) h) ∧
  (∀ (ls : eL) (st : List Value) (h : eH), ru 53 84 ls st h = ru 53 86 ls (.int (nI 14) :: st) h) ∧
  (∀ (c : Int32) (ls : eL) (st : List Value) (h : eH), ru 53 86 ls (.int c :: st) h = if c < 0 ∨ 1000000 < c.toNatClampNeg then none else ru 53 88 ls (.ref h.2.1 :: st) (va_up h.1 h.2.1 (.inl (0, c.toNatClampNeg, .inl (fun _ => 0))), h.2.1 + 1, h.2.2 + c.toNatClampNeg)) ∧
  (∀ (v : Nat) (a : Nat) (ls : eL) (st : List Value) (h : eH), ru 53 88 ls (.ref v :: .ref a :: st) h = pF (h.1 a) 11 11 (.ref v) (fun e => ru 53 91 ls st (eUp h a e))) ∧
  (∀ (v : Nat) (t : eL) (st : List Value) (h : eH), ru 53 91 (some (.ref v) :: t) st h = ru 53 92 (some (.ref v) :: t) (.ref v :: st) h) ∧
  (∀ (ls : eL) (st : List Value) (h : eH), ru 53 92 ls st h = ru 53 94 ls (.int (nI 14) :: st) h) ∧
  (∀ (c : Int32) (ls : eL) (st : List Value) (h : eH), ru 53 94 ls (.int c :: st) h = if c < 0 ∨ 1000000 < c.toNatClampNeg then none else ru 53 96 ls (.ref h.2.1 :: st) (va_up h.1 h.2.1 (.inl (0, c.toNatClampNeg, .inl (fun _ => 0))), h.2.1 + 1, h.2.2 + c.toNatClampNeg)) ∧
  (∀ (v : Nat) (a : Nat) (ls : eL) (st : List Value) (h : eH), ru 53 96 ls (.ref v :: .ref a :: st) h = pF (h.1 a) 11 12 (.ref v) (fun e => ru 53 99 ls st (eUp h a e))) ∧
  (∀ (v : Nat) (t : eL) (st : List Value) (h : eH), ru 53 99 (some (.ref v) :: t) st h = ru 53 100 (some (.ref v) :: t) (.ref v :: st) h) ∧
  (∀ (ls : eL) (st : List Value) (h : eH), ru 53 100 ls st h = ru 53 102 ls (.int (nI 14) :: st) h) ∧
  (∀ (c : Int32) (ls : eL) (st : List Value) (h : eH), ru 53 102 ls (.int c :: st) h = if c < 0 ∨ 1000000 < c.toNatClampNeg then none else ru 53 104 ls (.ref h.2.1 :: st) (va_up h.1 h.2.1 (.inl (0, c.toNatClampNeg, .inl (fun _ => 0))), h.2.1 + 1, h.2.2 + c.toNatClampNeg)) ∧
  (∀ (v : Nat) (a : Nat) (ls : eL) (st : List Value) (h : eH), ru 53 104 ls (.ref v :: .ref a :: st) h = pF (h.1 a) 11 13 (.ref v) (fun e => ru 53 107 ls st (eUp h a e))) ∧
  (∀ (v : Nat) (t : eL) (st : List Value) (h : eH), ru 53 107 (some (.ref v) :: t) st h = ru 53 108 (some (.ref v) :: t) (.ref v :: st) h) ∧
  (∀ (ls : eL) (st : List Value) (h : eH), ru 53 108 ls st h = ru 53 110 ls (.int (nI 14) :: st) h) ∧
  (∀ (c : Int32) (ls : eL) (st : List Value) (h : eH), ru 53 110 ls (.int c :: st) h = if c < 0 ∨ 1000000 < c.toNatClampNeg then none else ru 53 112 ls (.ref h.2.1 :: st) (va_up h.1 h.2.1 (.inl (0, c.toNatClampNeg, .inl (fun _ => 0))), h.2.1 + 1, h.2.2 + c.toNatClampNeg)) ∧
  (∀ (v : Nat) (a : Nat) (ls : eL) (st : List Value) (h : eH), ru 53 112 ls (.ref v :: .ref a :: st) h = pF (h.1 a) 11 14 (.ref v) (fun e => ru 53 115 ls st (eUp h a e))) ∧
  (∀ (v : Nat) (t : eL) (st : List Value) (h : eH), ru 53 115 (some (.ref v) :: t) st h = ru 53 116 (some (.ref v) :: t) (.ref v :: st) h) ∧
  (∀ (ls : eL) (st : List Value) (h : eH), ru 53 116 ls st h = ru 53 118 ls (.int (nI 24) :: st) h) ∧
  (∀ (c : Int32) (ls : eL) (st : List Value) (h : eH), ru 53 118 ls (.int c :: st) h = if c < 0 ∨ 1000000 < c.toNatClampNeg then none else ru 53 120 ls (.ref h.2.1 :: st) (va_up h.1 h.2.1 (.inl (1, c.toNatClampNeg, .inr (.inl (fun _ => 0)))), h.2.1 + 1, h.2.2 + c.toNatClampNeg)) ∧
  (∀ (v : Nat) (a : Nat) (ls : eL) (st : List Value) (h : eH), ru 53 120 ls (.ref v :: .ref a :: st) h = pF (h.1 a) 11 15 (.ref v) (fun e => ru 53 123 ls st (eUp h a e))) ∧
  (∀ (v : Nat) (t : eL) (st : List Value) (h : eH), ru 53 123 (some (.ref v) :: t) st h = ru 53 124 (some (.ref v) :: t) (.ref v :: st) h) ∧
  (∀ (ls : eL) (st : List Value) (h : eH), ru 53 124 ls st h = ru 53 126 ls (.int (nI 24) :: st) h) ∧
  (∀ (c : Int32) (ls : eL) (st : List Value) (h : eH), ru 53 126 ls (.int c :: st) h = if c < 0 ∨ 1000000 < c.toNatClampNeg then none else ru 53 128 ls (.ref h.2.1 :: st) (va_up h.1 h.2.1 (.inl (1, c.toNatClampNeg, .inr (.inl (fun _ => 0)))), h.2.1 + 1, h.2.2 + c.toNatClampNeg)) ∧
  (∀ (v : Nat) (a : Nat) (ls : eL) (st : List Value) (h : eH), ru 53 128 ls (.ref v :: .ref a :: st) h = pF (h.1 a) 11 16 (.ref v) (fun e => ru 53 131 ls st (eUp h a e))) ∧
  (∀ (v : Nat) (t : eL) (st : List Value) (h : eH), ru 53 131 (some (.ref v) :: t) st h = ru 53 132 (some (.ref v) :: t) (.ref v :: st) h) ∧
  (∀ (ls : eL) (st : List Value) (h : eH), ru 53 132 ls st h = ru 53 134 ls (.int (nI 24) :: st) h) ∧
  (∀ (c : Int32) (ls : eL) (st : List Value) (h : eH), ru 53 134 ls (.int c :: st) h = if c < 0 ∨ 1000000 < c.toNatClampNeg then none else ru 53 136 ls (.ref h.2.1 :: st) (va_up h.1 h.2.1 (.inl (1, c.toNatClampNeg, .inr (.inl (fun _ => 0)))), h.2.1 + 1, h.2.2 + c.toNatClampNeg)) ∧
  (∀ (v : Nat) (a : Nat) (ls : eL) (st : List Value) (h : eH), ru 53 136 ls (.ref v :: .ref a :: st) h = pF (h.1 a) 11 17 (.ref v) (fun e => ru 53 139 ls st (eUp h a e))) ∧
  (∀ (v : Nat) (t : eL) (st : List Value) (h : eH), ru 53 139 (some (.ref v) :: t) st h = ru 53 140 (some (.ref v) :: t) (.ref v :: st) h) ∧
  (∀ (ls : eL) (st : List Value) (h : eH), ru 53 140 ls st h = ru 53 142 ls (.int (nI 60) :: st) h) ∧
  (∀ (c : Int32) (ls : eL) (st : List Value) (h : eH), ru 53 142 ls (.int c :: st) h = if c < 0 ∨ 1000000 < c.toNatClampNeg then none else ru 53 144 ls (.ref h.2.1 :: st) (va_up h.1 h.2.1 (.inl (0, c.toNatClampNeg, .inl (fun _ => 0))), h.2.1 + 1, h.2.2 + c.toNatClampNeg)) ∧
  (∀ (v : Nat) (a : Nat) (ls : eL) (st : List Value) (h : eH), ru 53 144 ls (.ref v :: .ref a :: st) h = pF (h.1 a) 11 18 (.ref v) (fun e => ru 53 147 ls st (eUp h a e))) ∧
  (∀ (v : Nat) (t : eL) (st : List Value) (h : eH), ru 53 147 (some (.ref v) :: t) st h = ru 53 148 (some (.ref v) :: t) (.ref v :: st) h) ∧
  (∀ (ls : eL) (st : List Value) (h : eH), ru 53 148 ls st h = ru 53 150 ls (.int (nI 17) :: st) h) ∧
  (∀ (c : Int32) (ls : eL) (st : List Value) (h : eH), ru 53 150 ls (.int c :: st) h = if c < 0 ∨ 1000000 < c.toNatClampNeg then none else ru 53 152 ls (.ref h.2.1 :: st) (va_up h.1 h.2.1 (.inl (0, c.toNatClampNeg, .inl (fun _ => 0))), h.2.1 + 1, h.2.2 + c.toNatClampNeg)) ∧
  (∀ (v : Nat) (a : Nat) (ls : eL) (st : List Value) (h : eH), ru 53 152 ls (.ref v :: .ref a :: st) h = pF (h.1 a) 11 22 (.ref v) (fun e => ru 53 155 ls st (eUp h a e))) ∧
  (∀ (v : Nat) (t : eL) (st : List Value) (h : eH), ru 53 155 (some (.ref v) :: t) st h = ru 53 156 (some (.ref v) :: t) (.ref v :: st) h) ∧
  (∀ (ls : eL) (st : List Value) (h : eH), ru 53 156 ls st h = ru 53 157 ls (.int (nI 0) :: st) h) ∧
  (∀ (ls : eL) (st : List Value) (h : eH), ru 53 157 ls st h = ru 53 158 ls (.long (lN 0) :: st) h) ∧
  (∀ (a0 : Nat) (a1 : Int32) (a2 : Int64) (ls : eL) (h : eH), ru 53 158 ls [.long a2, .int a1, .ref a0] h = cl (den 12 [.ref a0, .int a1, .long a2] h) (fun v h => ru 53 161 ls (v.toList ++ []) h)) ∧
  (∀ (v : Nat) (t : eL) (st : List Value) (h : eH), ru 53 161 (some (.ref v) :: t) st h = ru 53 162 (some (.ref v) :: t) (.ref v :: st) h) ∧
  (∀ (ls : eL) (st : List Value) (h : eH), ru 53 162 ls st h = ru 53 163 ls (.int (nI 1) :: st) h) ∧
  (∀ (ls : eL) (st : List Value) (h : eH), ru 53 163 ls st h = ru 53 164 ls (.long (lN 1) :: st) h) ∧
  (∀ (a0 : Nat) (a1 : Int32) (a2 : Int64) (ls : eL) (h : eH), ru 53 164 ls [.long a2, .int a1, .ref a0] h = cl (den 12 [.ref a0, .int a1, .long a2] h) (fun v h => ru 53 167 ls (v.toList ++ []) h)) ∧
  (∀ (ls : eL) (h : eH), ru 53 167 ls [] h = some (none, h)) := ⟨fun v t st h => ru_go rfl rfl,
  fun a ls h => ru_go rfl rfl,
  fun v t st h => ru_go rfl rfl,
  fun ls st h => ru_go rfl rfl,
  fun c ls st h => ru_guard rfl rfl,
  fun v a ls st h => ru_putf rfl,
  fun v t st h => ru_go rfl rfl,
  fun ls st h => ru_go rfl rfl,
  fun c ls st h => ru_guard rfl rfl,
  fun v a ls st h => ru_putf rfl,
  fun v t st h => ru_go rfl rfl,
  fun ls st h => ru_go rfl rfl,
  fun c ls st h => ru_guard rfl rfl,
  fun v a ls st h => ru_putf rfl,
  fun v t st h => ru_go rfl rfl,
  fun ls st h => ru_go rfl rfl,
  fun c ls st h => ru_guard rfl rfl,
  fun v a ls st h => ru_putf rfl,
  fun v t st h => ru_go rfl rfl,
  fun ls st h => ru_go rfl rfl,
  fun v a ls st h => ru_putf rfl,
  fun v t st h => ru_go rfl rfl,
  fun ls st h => ru_go rfl rfl,
  fun c ls st h => ru_guard rfl rfl,
  fun v a ls st h => ru_putf rfl,
  fun v t st h => ru_go rfl rfl,
  fun ls st h => ru_go rfl rfl,
  fun c ls st h => ru_guard rfl rfl,
  fun v a ls st h => ru_putf rfl,
  fun v t st h => ru_go rfl rfl,
  fun ls st h => ru_go rfl rfl,
  fun c ls st h => ru_guard rfl rfl,
  fun v a ls st h => ru_putf rfl,
  fun v t st h => ru_go rfl rfl,
  fun ls st h => ru_go rfl rfl,
  fun c ls st h => ru_guard rfl rfl,
  fun v a ls st h => ru_putf rfl,
  fun v t st h => ru_go rfl rfl,
  fun ls st h => ru_go rfl rfl,
  fun c ls st h => ru_guard rfl rfl,
  fun v a ls st h => ru_putf rfl,
  fun v t st h => ru_go rfl rfl,
  fun ls st h => ru_go rfl rfl,
  fun c ls st h => ru_guard rfl rfl,
  fun v a ls st h => ru_putf rfl,
  fun v t st h => ru_go rfl rfl,
  fun ls st h => ru_go rfl rfl,
  fun c ls st h => ru_guard rfl rfl,
  fun v a ls st h => ru_putf rfl,
  fun v t st h => ru_go rfl rfl,
  fun ls st h => ru_go rfl rfl,
  fun c ls st h => ru_guard rfl rfl,
  fun v a ls st h => ru_putf rfl,
  fun v t st h => ru_go rfl rfl,
  fun ls st h => ru_go rfl rfl,
  fun c ls st h => ru_guard rfl rfl,
  fun v a ls st h => ru_putf rfl,
  fun v t st h => ru_go rfl rfl,
  fun ls st h => ru_go rfl rfl,
  fun c ls st h => ru_guard rfl rfl,
  fun v a ls st h => ru_putf rfl,
  fun v t st h => ru_go rfl rfl,
  fun ls st h => ru_go rfl rfl,
  fun c ls st h => ru_guard rfl rfl,
  fun v a ls st h => ru_putf rfl,
  fun v t st h => ru_go rfl rfl,
  fun ls st h => ru_go rfl rfl,
  fun c ls st h => ru_guard rfl rfl,
  fun v a ls st h => ru_putf rfl,
  fun v t st h => ru_go rfl rfl,
  fun ls st h => ru_go rfl rfl,
  fun c ls st h => ru_guard rfl rfl,
  fun v a ls st h => ru_putf rfl,
  fun v t st h => ru_go rfl rfl,
  fun ls st h => ru_go rfl rfl,
  fun c ls st h => ru_guard rfl rfl,
  fun v a ls st h => ru_putf rfl,
  fun v t st h => ru_go rfl rfl,
  fun ls st h => ru_go rfl rfl,
  fun ls st h => ru_go rfl rfl,
  fun a0 a1 a2 ls h => ru_inv rfl (by decide) rfl (Nat.le_of_ble_eq_true rfl),
  fun v t st h => ru_go rfl rfl,
  fun ls st h => ru_go rfl rfl,
  fun ls st h => ru_go rfl rfl,
  fun a0 a1 a2 ls h => ru_inv rfl (by decide) rfl (Nat.le_of_ble_eq_true rfl),
  fun ls h => ru_ret rfl rfl⟩
theorem E53 (a0 : Nat) {h : eH} {fs : List Value} (ha : h.1 a0 = .inr (11, fs)) : den 53 [.ref a0] h = ru 53 0 [some (.ref a0)] [] h := den_ob (Nat.le_of_ble_eq_true rfl) ha
