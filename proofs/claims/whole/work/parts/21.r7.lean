/-! 164 X6_readJoints -/
set_option maxRecDepth 100000 in
theorem H164_18 : (∀ (x0 x1 : Option Value) (v : Int32) (t : eL) (st : List Value) (h : eH), ru 164 18 (x0 :: x1 :: some (.int v) :: t) st h = ru 164 19 (x0 :: x1 :: some (.int v) :: t) (.int v :: st) h) := fun x0 x1 v t st h => ru_go rfl rfl
set_option maxRecDepth 100000 in
theorem S164 : (∀ (v : Nat) (t : eL) (st : List Value) (h : eH), ru 164 0 (some (.ref v) :: t) st h = ru 164 1 (some (.ref v) :: t) (.ref v :: st) h) ∧
  (∀ (x0 : Option Value) (v : Nat) (t : eL) (st : List Value) (h : eH), ru 164 1 (x0 :: some (.ref v) :: t) st h = ru 164 2 (x0 :: some (.ref v) :: t) (.ref v :: st) h) ∧
  (∀ (ls : eL) (st : List Value) (h : eH), ru 164 2 ls st h = ru 164 3 ls (.int (nI 1) :: st) h) ∧
  (∀ (ls : eL) (st : List Value) (h : eH), ru 164 3 ls st h = ru 164 5 ls (.int (nI 8) :: st) h) ∧
  (∀ (a0 : Nat) (a1 : Int32) (a2 : Int32) (u0 : Nat) (ls : eL) (h : eH), ru 164 5 ls [.int a2, .int a1, .ref a0, .ref u0] h = cl (den 163 [.ref a0, .int a1, .int a2] h) (fun v h => ru 164 8 ls (v.toList ++ [.ref u0]) h)) ∧
  (∀ (v : Int32) (a : Nat) (ls : eL) (st : List Value) (h : eH), ru 164 8 ls (.int v :: .ref a :: st) h = pF (h.1 a) 6 0 (.int v) (fun e => ru 164 11 ls st (eUp h a e))) ∧
  (∀ (v : Nat) (t : eL) (st : List Value) (h : eH), ru 164 11 (some (.ref v) :: t) st h = ru 164 12 (some (.ref v) :: t) (.ref v :: st) h) ∧
  (∀ (ls : eL) (st : List Value) (h : eH), ru 164 12 ls st h = ru 164 13 ls (.int (nI 0) :: st) h) ∧
  (∀ (v : Int32) (a : Nat) (ls : eL) (st : List Value) (h : eH), ru 164 13 ls (.int v :: .ref a :: st) h = pF (h.1 a) 6 1 (.int v) (fun e => ru 164 16 ls st (eUp h a e))) ∧
  (∀ (ls : eL) (st : List Value) (h : eH), ru 164 16 ls st h = ru 164 17 ls (.int (nI 0) :: st) h) ∧
  (∀ (x0 x1 x2 : Option Value) (v : Int32) (t : eL) (st : List Value) (h : eH), ru 164 17 (x0 :: x1 :: x2 :: t) (.int v :: st) h = ru 164 18 (x0 :: eKl x1 :: some (.int v) :: t) st h) ∧
  (∀ (v : Nat) (t : eL) (st : List Value) (h : eH), ru 164 19 (some (.ref v) :: t) st h = ru 164 20 (some (.ref v) :: t) (.ref v :: st) h) ∧
  (∀ (a : Nat) (ls : eL) (st : List Value) (h : eH), ru 164 20 ls (.ref a :: st) h = gF (h.1 a) 6 0 (fun v => ru 164 23 ls (v :: st) h)) ∧
  (∀ (x y : Int32) (ls : eL) (st : List Value) (h : eH), ru 164 23 ls (.int y :: .int x :: st) h = if y ≤ x then ru 164 116 ls st h else ru 164 26 ls st h) ∧
  (∀ (v : Nat) (t : eL) (st : List Value) (h : eH), ru 164 26 (some (.ref v) :: t) st h = ru 164 27 (some (.ref v) :: t) (.ref v :: st) h) ∧
  (∀ (a : Nat) (ls : eL) (st : List Value) (h : eH), ru 164 27 ls (.ref a :: st) h = gF (h.1 a) 6 3 (fun v => ru 164 30 ls (v :: st) h)) ∧
  (∀ (ls : eL) (st : List Value) (h : eH), ru 164 30 ls st h = ru 164 31 ls (.int (nI 0) :: st) h) ∧
  (∀ (i : Int32) (a : Nat) (ls : eL) (st : List Value) (h : eH), ru 164 31 ls (.int i :: .ref a :: st) h = aQ (h.1 a) i (fun v => ru 164 32 ls (.ref v :: st) h)) ∧
  (∀ (x0 x1 : Option Value) (v : Int32) (t : eL) (st : List Value) (h : eH), ru 164 32 (x0 :: x1 :: some (.int v) :: t) st h = ru 164 33 (x0 :: x1 :: some (.int v) :: t) (.int v :: st) h) ∧
  (∀ (x0 : Option Value) (v : Nat) (t : eL) (st : List Value) (h : eH), ru 164 33 (x0 :: some (.ref v) :: t) st h = ru 164 34 (x0 :: some (.ref v) :: t) (.ref v :: st) h) ∧
  (∀ (ls : eL) (st : List Value) (h : eH), ru 164 34 ls st h = ru 164 36 ls (.int ((-20)) :: st) h) ∧
  (∀ (ls : eL) (st : List Value) (h : eH), ru 164 36 ls st h = ru 164 38 ls (.int (nI 20) :: st) h) ∧
  (∀ (a0 : Nat) (a1 : Int32) (a2 : Int32) (u0 : Int32) (u1 : Nat) (ls : eL) (h : eH), ru 164 38 ls [.int a2, .int a1, .ref a0, .int u0, .ref u1] h = cl (den 163 [.ref a0, .int a1, .int a2] h) (fun v h => ru 164 41 ls (v.toList ++ [.int u0, .ref u1]) h)) ∧
  (∀ (x : Int32) (i : Int32) (a : Nat) (ls : eL) (st : List Value) (h : eH), ru 164 41 ls (.int x :: .int i :: .ref a :: st) h = wI (h.1 a) i x (fun e => ru 164 42 ls st (eUp h a e))) ∧
  (∀ (v : Nat) (t : eL) (st : List Value) (h : eH), ru 164 42 (some (.ref v) :: t) st h = ru 164 43 (some (.ref v) :: t) (.ref v :: st) h) ∧
  (∀ (a : Nat) (ls : eL) (st : List Value) (h : eH), ru 164 43 ls (.ref a :: st) h = gF (h.1 a) 6 3 (fun v => ru 164 46 ls (v :: st) h)) ∧
  (∀ (ls : eL) (st : List Value) (h : eH), ru 164 46 ls st h = ru 164 47 ls (.int (nI 1) :: st) h) ∧
  (∀ (i : Int32) (a : Nat) (ls : eL) (st : List Value) (h : eH), ru 164 47 ls (.int i :: .ref a :: st) h = aQ (h.1 a) i (fun v => ru 164 48 ls (.ref v :: st) h)) ∧
  (∀ (x0 x1 : Option Value) (v : Int32) (t : eL) (st : List Value) (h : eH), ru 164 48 (x0 :: x1 :: some (.int v) :: t) st h = ru 164 49 (x0 :: x1 :: some (.int v) :: t) (.int v :: st) h) ∧
  (∀ (x0 : Option Value) (v : Nat) (t : eL) (st : List Value) (h : eH), ru 164 49 (x0 :: some (.ref v) :: t) st h = ru 164 50 (x0 :: some (.ref v) :: t) (.ref v :: st) h) ∧
  (∀ (ls : eL) (st : List Value) (h : eH), ru 164 50 ls st h = ru 164 52 ls (.int ((-20)) :: st) h) ∧
  (∀ (ls : eL) (st : List Value) (h : eH), ru 164 52 ls st h = ru 164 54 ls (.int (nI 20) :: st) h) ∧
  (∀ (a0 : Nat) (a1 : Int32) (a2 : Int32) (u0 : Int32) (u1 : Nat) (ls : eL) (h : eH), ru 164 54 ls [.int a2, .int a1, .ref a0, .int u0, .ref u1] h = cl (den 163 [.ref a0, .int a1, .int a2] h) (fun v h => ru 164 57 ls (v.toList ++ [.int u0, .ref u1]) h)) ∧
  (∀ (x : Int32) (i : Int32) (a : Nat) (ls : eL) (st : List Value) (h : eH), ru 164 57 ls (.int x :: .int i :: .ref a :: st) h = wI (h.1 a) i x (fun e => ru 164 58 ls st (eUp h a e))) ∧
  (∀ (x0 : Option Value) (v : Nat) (t : eL) (st : List Value) (h : eH), ru 164 58 (x0 :: some (.ref v) :: t) st h = ru 164 59 (x0 :: some (.ref v) :: t) (.ref v :: st) h) ∧
  (∀ (ls : eL) (st : List Value) (h : eH), ru 164 59 ls st h = ru 164 60 ls (.int (nI 0) :: st) h) ∧
  (∀ (ls : eL) (st : List Value) (h : eH), ru 164 60 ls st h = ru 164 61 ls (.int (nI 1) :: st) h) ∧
  (∀ (a0 : Nat) (a1 : Int32) (a2 : Int32) (ls : eL) (h : eH), ru 164 61 ls [.int a2, .int a1, .ref a0] h = cl (den 163 [.ref a0, .int a1, .int a2] h) (fun v h => ru 164 64 ls (v.toList ++ []) h)) ∧
  (∀ (ls : eL) (st : List Value) (h : eH), ru 164 64 ls st h = ru 164 65 ls (.int (nI 1) :: st) h) ∧
  (∀ (x y : Int32) (ls : eL) (st : List Value) (h : eH), ru 164 65 ls (.int y :: .int x :: st) h = if x = y then ru 164 68 ls st h else ru 164 72 ls st h) ∧
  (∀ (ls : eL) (st : List Value) (h : eH), ru 164 68 ls st h = ru 164 69 ls (.int (nI 1) :: st) h) ∧
  (∀ (ls : eL) (st : List Value) (h : eH), ru 164 69 ls st h = ru 164 73 ls st h) ∧
  (∀ (ls : eL) (st : List Value) (h : eH), ru 164 72 ls st h = ru 164 73 ls (.int (nI 0) :: st) h) ∧
  (∀ (x0 x1 x2 x3 : Option Value) (v : Int32) (t : eL) (st : List Value) (h : eH), ru 164 73 (x0 :: x1 :: x2 :: x3 :: t) (.int v :: st) h = ru 164 74 (x0 :: x1 :: eKl x2 :: some (.int v) :: t) st h) ∧
  (∀ (v : Nat) (t : eL) (st : List Value) (h : eH), ru 164 74 (some (.ref v) :: t) st h = ru 164 75 (some (.ref v) :: t) (.ref v :: st) h) ∧
  (∀ (a : Nat) (ls : eL) (st : List Value) (h : eH), ru 164 75 ls (.ref a :: st) h = gF (h.1 a) 6 5 (fun v => ru 164 78 ls (v :: st) h)) ∧
  (∀ (x0 x1 : Option Value) (v : Int32) (t : eL) (st : List Value) (h : eH), ru 164 78 (x0 :: x1 :: some (.int v) :: t) st h = ru 164 79 (x0 :: x1 :: some (.int v) :: t) (.int v :: st) h) ∧
  (∀ (x0 x1 x2 : Option Value) (v : Int32) (t : eL) (st : List Value) (h : eH), ru 164 79 (x0 :: x1 :: x2 :: some (.int v) :: t) st h = ru 164 80 (x0 :: x1 :: x2 :: some (.int v) :: t) (.int v :: st) h) ∧
  (∀ (x : Int32) (ls : eL) (st : List Value) (h : eH), ru 164 80 ls (.int x :: st) h = if x = 0 then ru 164 87 ls st h else ru 164 83 ls st h) ∧
  (∀ (ls : eL) (st : List Value) (h : eH), ru 164 83 ls st h = ru 164 84 ls (.int ((-1)) :: st) h) ∧
  (∀ (ls : eL) (st : List Value) (h : eH), ru 164 84 ls st h = ru 164 91 ls st h) ∧
  (∀ (v : Nat) (t : eL) (st : List Value) (h : eH), ru 164 87 (some (.ref v) :: t) st h = ru 164 88 (some (.ref v) :: t) (.ref v :: st) h) ∧
  (∀ (a : Nat) (ls : eL) (st : List Value) (h : eH), ru 164 88 ls (.ref a :: st) h = gF (h.1 a) 6 1 (fun v => ru 164 91 ls (v :: st) h)) ∧
  (∀ (x : Int32) (i : Int32) (a : Nat) (ls : eL) (st : List Value) (h : eH), ru 164 91 ls (.int x :: .int i :: .ref a :: st) h = wI (h.1 a) i x (fun e => ru 164 92 ls st (eUp h a e))) ∧
  (∀ (v : Nat) (t : eL) (st : List Value) (h : eH), ru 164 92 (some (.ref v) :: t) st h = ru 164 93 (some (.ref v) :: t) (.ref v :: st) h) ∧
  (∀ (x : Nat) (ls : eL) (st : List Value) (h : eH), ru 164 93 ls (.ref x :: st) h = ru 164 94 ls (.ref x :: .ref x :: st) h) ∧
  (∀ (a : Nat) (ls : eL) (st : List Value) (h : eH), ru 164 94 ls (.ref a :: st) h = gF (h.1 a) 6 1 (fun v => ru 164 97 ls (v :: st) h)) ∧
  (∀ (x0 x1 x2 : Option Value) (v : Int32) (t : eL) (st : List Value) (h : eH), ru 164 97 (x0 :: x1 :: x2 :: some (.int v) :: t) st h = ru 164 98 (x0 :: x1 :: x2 :: some (.int v) :: t) (.int v :: st) h) ∧
  (∀ (x : Int32) (ls : eL) (st : List Value) (h : eH), ru 164 98 ls (.int x :: st) h = if x = 0 then ru 164 105 ls st h else ru 164 101 ls st h) ∧
  (∀ (ls : eL) (st : List Value) (h : eH), ru 164 101 ls st h = ru 164 102 ls (.int (nI 0) :: st) h) ∧
  (∀ (ls : eL) (st : List Value) (h : eH), ru 164 102 ls st h = ru 164 106 ls st h) ∧
  (∀ (ls : eL) (st : List Value) (h : eH), ru 164 105 ls st h = ru 164 106 ls (.int (nI 1) :: st) h) ∧
  (∀ (x y : Int32) (ls : eL) (st : List Value) (h : eH), ru 164 106 ls (.int y :: .int x :: st) h = ru 164 107 ls (.int (x + y) :: st) h) ∧
  (∀ (v : Int32) (a : Nat) (ls : eL) (st : List Value) (h : eH), ru 164 107 ls (.int v :: .ref a :: st) h = pF (h.1 a) 6 1 (.int v) (fun e => ru 164 110 ls st (eUp h a e))) ∧
  (∀ (x0 x1 : Option Value) (v : Int32) (t : eL) (st : List Value) (h : eH), ru 164 110 (x0 :: x1 :: some (.int v) :: t) st h = ru 164 113 (x0 :: eKl x1 :: some (.int (v + 1)) :: t) st h) ∧
  (∀ (ls : eL) (st : List Value) (h : eH), ru 164 113 ls st h = ru 164 18 ls st h) ∧
  (∀ (ls : eL) (h : eH), ru 164 116 ls [] h = some (none, h)) := ⟨fun v t st h => ru_go rfl rfl,
  fun x0 v t st h => ru_go rfl rfl,
  fun ls st h => ru_go rfl rfl,
  fun ls st h => ru_go rfl rfl,
  fun a0 a1 a2 u0 ls h => ru_inv rfl (by decide) rfl (Nat.le_of_ble_eq_true rfl),
  fun v a ls st h => ru_putf rfl,
  fun v t st h => ru_go rfl rfl,
  fun ls st h => ru_go rfl rfl,
  fun v a ls st h => ru_putf rfl,
  fun ls st h => ru_go rfl rfl,
  fun x0 x1 x2 v t st h => ru_go rfl rfl,
  fun v t st h => ru_go rfl rfl,
  fun a ls st h => ru_getf rfl,
  fun x y ls st h => ru_if rfl rfl,
  fun v t st h => ru_go rfl rfl,
  fun a ls st h => ru_getf rfl,
  fun ls st h => ru_go rfl rfl,
  fun i a ls st h => ru_aald rfl,
  fun x0 x1 v t st h => ru_go rfl rfl,
  fun x0 v t st h => ru_go rfl rfl,
  fun ls st h => ru_go rfl rfl,
  fun ls st h => ru_go rfl rfl,
  fun a0 a1 a2 u0 u1 ls h => ru_inv rfl (by decide) rfl (Nat.le_of_ble_eq_true rfl),
  fun x i a ls st h => ru_iast rfl,
  fun v t st h => ru_go rfl rfl,
  fun a ls st h => ru_getf rfl,
  fun ls st h => ru_go rfl rfl,
  fun i a ls st h => ru_aald rfl,
  fun x0 x1 v t st h => ru_go rfl rfl,
  fun x0 v t st h => ru_go rfl rfl,
  fun ls st h => ru_go rfl rfl,
  fun ls st h => ru_go rfl rfl,
  fun a0 a1 a2 u0 u1 ls h => ru_inv rfl (by decide) rfl (Nat.le_of_ble_eq_true rfl),
  fun x i a ls st h => ru_iast rfl,
  fun x0 v t st h => ru_go rfl rfl,
  fun ls st h => ru_go rfl rfl,
  fun ls st h => ru_go rfl rfl,
  fun a0 a1 a2 ls h => ru_inv rfl (by decide) rfl (Nat.le_of_ble_eq_true rfl),
  fun ls st h => ru_go rfl rfl,
  fun x y ls st h => ru_if rfl rfl,
  fun ls st h => ru_go rfl rfl,
  fun ls st h => ru_go rfl rfl,
  fun ls st h => ru_go rfl rfl,
  fun x0 x1 x2 x3 v t st h => ru_go rfl rfl,
  fun v t st h => ru_go rfl rfl,
  fun a ls st h => ru_getf rfl,
  fun x0 x1 v t st h => ru_go rfl rfl,
  fun x0 x1 x2 v t st h => ru_go rfl rfl,
  fun x ls st h => ru_if rfl rfl,
  fun ls st h => ru_go rfl rfl,
  fun ls st h => ru_go rfl rfl,
  fun v t st h => ru_go rfl rfl,
  fun a ls st h => ru_getf rfl,
  fun x i a ls st h => ru_iast rfl,
  fun v t st h => ru_go rfl rfl,
  fun x ls st h => ru_go rfl rfl,
  fun a ls st h => ru_getf rfl,
  fun x0 x1 x2 v t st h => ru_go rfl rfl,
  fun x ls st h => ru_if rfl rfl,
  fun ls st h => ru_go rfl rfl,
  fun ls st h => ru_go rfl rfl,
  fun ls st h => ru_go rfl rfl,
  fun x y ls st h => ru_go rfl rfl,
  fun v a ls st h => ru_putf rfl,
  fun x0 x1 v t st h => ru_go rfl rfl,
  fun ls st h => ru_go rfl rfl,
  fun ls h => ru_ret rfl rfl⟩
theorem E164 (a0 : Nat) (a1 : Nat) {h : eH} {fs : List Value} (ha : h.1 a0 = .inr (6, fs)) : den 164 [.ref a0, .ref a1] h = ru 164 0 [some (.ref a0), some (.ref a1), none, none] [] h := den_ob (Nat.le_of_ble_eq_true rfl) ha
/-! 165 X7_refuse -/
set_option maxRecDepth 100000 in
theorem S165 : (∀ (v : Nat) (t : eL) (st : List Value) (h : eH), ru 165 0 (some (.ref v) :: t) st h = ru 165 1 (some (.ref v) :: t) (.ref v :: st) h) ∧
  (∀ (a : Nat) (ls : eL) (st : List Value) (h : eH), ru 165 1 ls (.ref a :: st) h = gF (h.1 a) 7 5 (fun v => ru 165 4 ls (v :: st) h)) ∧
  (∀ (x : Int32) (ls : eL) (st : List Value) (h : eH), ru 165 4 ls (.int x :: st) h = if x = 0 then ru 165 7 ls st h else ru 165 13 ls st h) ∧
  (∀ (v : Nat) (t : eL) (st : List Value) (h : eH), ru 165 7 (some (.ref v) :: t) st h = ru 165 8 (some (.ref v) :: t) (.ref v :: st) h) ∧
  (∀ (ls : eL) (st : List Value) (h : eH), ru 165 8 ls st h = ru 165 10 ls (.int ((-4)) :: st) h) ∧
  (∀ (v : Int32) (a : Nat) (ls : eL) (st : List Value) (h : eH), ru 165 10 ls (.int v :: .ref a :: st) h = pF (h.1 a) 7 5 (.int v) (fun e => ru 165 13 ls st (eUp h a e))) ∧
  (∀ (ls : eL) (h : eH), ru 165 13 ls [] h = some (none, h)) := ⟨fun v t st h => ru_go rfl rfl,
  fun a ls st h => ru_getf rfl,
  fun x ls st h => ru_if rfl rfl,
  fun v t st h => ru_go rfl rfl,
  fun ls st h => ru_go rfl rfl,
  fun v a ls st h => ru_putf rfl,
  fun ls h => ru_ret rfl rfl⟩
theorem E165 (a0 : Nat) {h : eH} {fs : List Value} (ha : h.1 a0 = .inr (7, fs)) : den 165 [.ref a0] h = ru 165 0 [some (.ref a0)] [] h := den_ob (Nat.le_of_ble_eq_true rfl) ha
/-! 166 X6_readMembers -/
set_option maxRecDepth 100000 in
theorem H166_13 : (∀ (x0 x1 : Option Value) (v : Int32) (t : eL) (st : List Value) (h : eH), ru 166 13 (x0 :: x1 :: some (.int v) :: t) st h = ru 166 14 (x0 :: x1 :: some (.int v) :: t) (.int v :: st) h) := fun x0 x1 v t st h => ru_go rfl rfl
set_option maxRecDepth 100000 in
theorem S166 : (∀ (v : Nat) (t : eL) (st : List Value) (h : eH), ru 166 0 (some (.ref v) :: t) st h = ru 166 1 (some (.ref v) :: t) (.ref v :: st) h) ∧
  (∀ (x0 : Option Value) (v : Nat) (t : eL) (st : List Value) (h : eH), ru 166 1 (x0 :: some (.ref v) :: t) st h = ru 166 2 (x0 :: some (.ref v) :: t) (.ref v :: st) h) ∧
  (∀ (ls : eL) (st : List Value) (h : eH), ru 166 2 ls st h = ru 166 3 ls (.int (nI 0) :: st) h) ∧
  (∀ (ls : eL) (st : List Value) (h : eH), ru 166 3 ls st h = ru 166 5 ls (.int (nI 14) :: st) h) ∧
  (∀ (a0 : Nat) (a1 : Int32) (a2 : Int32) (u0 : Nat) (ls : eL) (h : eH), ru 166 5 ls [.int a2, .int a1, .ref a0, .ref u0] h = cl (den 163 [.ref a0, .int a1, .int a2] h) (fun v h => ru 166 8 ls (v.toList ++ [.ref u0]) h)) ∧
  (∀ (v : Int32) (a : Nat) (ls : eL) (st : List Value) (h : eH), ru 166 8 ls (.int v :: .ref a :: st) h = pF (h.1 a) 6 2 (.int v) (fun e => ru 166 11 ls st (eUp h a e))) ∧
  (∀ (ls : eL) (st : List Value) (h : eH), ru 166 11 ls st h = ru 166 12 ls (.int (nI 0) :: st) h) ∧
  (∀ (x0 x1 x2 : Option Value) (v : Int32) (t : eL) (st : List Value) (h : eH), ru 166 12 (x0 :: x1 :: x2 :: t) (.int v :: st) h = ru 166 13 (x0 :: eKl x1 :: some (.int v) :: t) st h) ∧
  (∀ (v : Nat) (t : eL) (st : List Value) (h : eH), ru 166 14 (some (.ref v) :: t) st h = ru 166 15 (some (.ref v) :: t) (.ref v :: st) h) ∧
  (∀ (a : Nat) (ls : eL) (st : List Value) (h : eH), ru 166 15 ls (.ref a :: st) h = gF (h.1 a) 6 2 (fun v => ru 166 18 ls (v :: st) h)) ∧
  (∀ (x y : Int32) (ls : eL) (st : List Value) (h : eH), ru 166 18 ls (.int y :: .int x :: st) h = if y ≤ x then ru 166 95 ls st h else ru 166 21 ls st h) ∧
  (∀ (v : Nat) (t : eL) (st : List Value) (h : eH), ru 166 21 (some (.ref v) :: t) st h = ru 166 22 (some (.ref v) :: t) (.ref v :: st) h) ∧
  (∀ (a : Nat) (ls : eL) (st : List Value) (h : eH), ru 166 22 ls (.ref a :: st) h = gF (h.1 a) 6 6 (fun v => ru 166 25 ls (v :: st) h)) ∧
  (∀ (x0 x1 : Option Value) (v : Int32) (t : eL) (st : List Value) (h : eH), ru 166 25 (x0 :: x1 :: some (.int v) :: t) st h = ru 166 26 (x0 :: x1 :: some (.int v) :: t) (.int v :: st) h) ∧
  (∀ (x0 : Option Value) (v : Nat) (t : eL) (st : List Value) (h : eH), ru 166 26 (x0 :: some (.ref v) :: t) st h = ru 166 27 (x0 :: some (.ref v) :: t) (.ref v :: st) h) ∧
  (∀ (ls : eL) (st : List Value) (h : eH), ru 166 27 ls st h = ru 166 28 ls (.int (nI 0) :: st) h) ∧
  (∀ (v : Nat) (t : eL) (st : List Value) (h : eH), ru 166 28 (some (.ref v) :: t) st h = ru 166 29 (some (.ref v) :: t) (.ref v :: st) h) ∧
  (∀ (a : Nat) (ls : eL) (st : List Value) (h : eH), ru 166 29 ls (.ref a :: st) h = gF (h.1 a) 6 0 (fun v => ru 166 32 ls (v :: st) h)) ∧
  (∀ (ls : eL) (st : List Value) (h : eH), ru 166 32 ls st h = ru 166 33 ls (.int (nI 1) :: st) h) ∧
  (∀ (x y : Int32) (ls : eL) (st : List Value) (h : eH), ru 166 33 ls (.int y :: .int x :: st) h = ru 166 34 ls (.int (x - y) :: st) h) ∧
  (∀ (a0 : Nat) (a1 : Int32) (a2 : Int32) (u0 : Int32) (u1 : Nat) (ls : eL) (h : eH), ru 166 34 ls [.int a2, .int a1, .ref a0, .int u0, .ref u1] h = cl (den 163 [.ref a0, .int a1, .int a2] h) (fun v h => ru 166 37 ls (v.toList ++ [.int u0, .ref u1]) h)) ∧
  (∀ (x : Int32) (i : Int32) (a : Nat) (ls : eL) (st : List Value) (h : eH), ru 166 37 ls (.int x :: .int i :: .ref a :: st) h = wI (h.1 a) i x (fun e => ru 166 38 ls st (eUp h a e))) ∧
  (∀ (v : Nat) (t : eL) (st : List Value) (h : eH), ru 166 38 (some (.ref v) :: t) st h = ru 166 39 (some (.ref v) :: t) (.ref v :: st) h) ∧
  (∀ (a : Nat) (ls : eL) (st : List Value) (h : eH), ru 166 39 ls (.ref a :: st) h = gF (h.1 a) 6 7 (fun v => ru 166 42 ls (v :: st) h)) ∧
  (∀ (x0 x1 : Option Value) (v : Int32) (t : eL) (st : List Value) (h : eH), ru 166 42 (x0 :: x1 :: some (.int v) :: t) st h = ru 166 43 (x0 :: x1 :: some (.int v) :: t) (.int v :: st) h) ∧
  (∀ (x0 : Option Value) (v : Nat) (t : eL) (st : List Value) (h : eH), ru 166 43 (x0 :: some (.ref v) :: t) st h = ru 166 44 (x0 :: some (.ref v) :: t) (.ref v :: st) h) ∧
  (∀ (ls : eL) (st : List Value) (h : eH), ru 166 44 ls st h = ru 166 45 ls (.int (nI 0) :: st) h) ∧
  (∀ (v : Nat) (t : eL) (st : List Value) (h : eH), ru 166 45 (some (.ref v) :: t) st h = ru 166 46 (some (.ref v) :: t) (.ref v :: st) h) ∧
  (∀ (a : Nat) (ls : eL) (st : List Value) (h : eH), ru 166 46 ls (.ref a :: st) h = gF (h.1 a) 6 0 (fun v => ru 166 49 ls (v :: st) h)) ∧
  (∀ (ls : eL) (st : List Value) (h : eH), ru 166 49 ls st h = ru 166 50 ls (.int (nI 1) :: st) h) ∧
  (∀ (x y : Int32) (ls : eL) (st : List Value) (h : eH), ru 166 50 ls (.int y :: .int x :: st) h = ru 166 51 ls (.int (x - y) :: st) h) ∧
  (∀ (a0 : Nat) (a1 : Int32) (a2 : Int32) (u0 : Int32) (u1 : Nat) (ls : eL) (h : eH), ru 166 51 ls [.int a2, .int a1, .ref a0, .int u0, .ref u1] h = cl (den 163 [.ref a0, .int a1, .int a2] h) (fun v h => ru 166 54 ls (v.toList ++ [.int u0, .ref u1]) h)) ∧
  (∀ (x : Int32) (i : Int32) (a : Nat) (ls : eL) (st : List Value) (h : eH), ru 166 54 ls (.int x :: .int i :: .ref a :: st) h = wI (h.1 a) i x (fun e => ru 166 55 ls st (eUp h a e))) ∧
  (∀ (v : Nat) (t : eL) (st : List Value) (h : eH), ru 166 55 (some (.ref v) :: t) st h = ru 166 56 (some (.ref v) :: t) (.ref v :: st) h) ∧
  (∀ (x0 x1 : Option Value) (v : Int32) (t : eL) (st : List Value) (h : eH), ru 166 56 (x0 :: x1 :: some (.int v) :: t) st h = ru 166 57 (x0 :: x1 :: some (.int v) :: t) (.int v :: st) h) ∧
  (∀ (ls : eL) (st : List Value) (h : eH), ru 166 57 ls st h = ru 166 58 ls (.int (nI 0) :: st) h) ∧
  (∀ (a0 : Nat) (a1 : Int32) (a2 : Int32) (ls : eL) (h : eH), ru 166 58 ls [.int a2, .int a1, .ref a0] h = cl (den 109 [.ref a0, .int a1, .int a2] h) (fun v h => ru 166 61 ls (v.toList ++ []) h)) ∧
  (∀ (x : Int32) (ls : eL) (st : List Value) (h : eH), ru 166 61 ls (.int x :: st) h = if x = 0 then ru 166 64 ls st h else ru 166 77 ls st h) ∧
  (∀ (v : Nat) (t : eL) (st : List Value) (h : eH), ru 166 64 (some (.ref v) :: t) st h = ru 166 65 (some (.ref v) :: t) (.ref v :: st) h) ∧
  (∀ (x0 x1 : Option Value) (v : Int32) (t : eL) (st : List Value) (h : eH), ru 166 65 (x0 :: x1 :: some (.int v) :: t) st h = ru 166 66 (x0 :: x1 :: some (.int v) :: t) (.int v :: st) h) ∧
  (∀ (ls : eL) (st : List Value) (h : eH), ru 166 66 ls st h = ru 166 67 ls (.int (nI 1) :: st) h) ∧
  (∀ (a0 : Nat) (a1 : Int32) (a2 : Int32) (ls : eL) (h : eH), ru 166 67 ls [.int a2, .int a1, .ref a0] h = cl (den 109 [.ref a0, .int a1, .int a2] h) (fun v h => ru 166 70 ls (v.toList ++ []) h)) ∧
  (∀ (x : Int32) (ls : eL) (st : List Value) (h : eH), ru 166 70 ls (.int x :: st) h = if x = 0 then ru 166 73 ls st h else ru 166 77 ls st h) ∧
  (∀ (x0 : Option Value) (v : Nat) (t : eL) (st : List Value) (h : eH), ru 166 73 (x0 :: some (.ref v) :: t) st h = ru 166 74 (x0 :: some (.ref v) :: t) (.ref v :: st) h) ∧
  (∀ (a0 : Nat) (ls : eL) (h : eH), ru 166 74 ls [.ref a0] h = cl (den 165 [.ref a0] h) (fun v h => ru 166 77 ls (v.toList ++ []) h)) ∧
  (∀ (v : Nat) (t : eL) (st : List Value) (h : eH), ru 166 77 (some (.ref v) :: t) st h = ru 166 78 (some (.ref v) :: t) (.ref v :: st) h) ∧
  (∀ (a : Nat) (ls : eL) (st : List Value) (h : eH), ru 166 78 ls (.ref a :: st) h = gF (h.1 a) 6 8 (fun v => ru 166 81 ls (v :: st) h)) ∧
  (∀ (x0 x1 : Option Value) (v : Int32) (t : eL) (st : List Value) (h : eH), ru 166 81 (x0 :: x1 :: some (.int v) :: t) st h = ru 166 82 (x0 :: x1 :: some (.int v) :: t) (.int v :: st) h) ∧
  (∀ (x0 : Option Value) (v : Nat) (t : eL) (st : List Value) (h : eH), ru 166 82 (x0 :: some (.ref v) :: t) st h = ru 166 83 (x0 :: some (.ref v) :: t) (.ref v :: st) h) ∧
  (∀ (ls : eL) (st : List Value) (h : eH), ru 166 83 ls st h = ru 166 84 ls (.int (nI 0) :: st) h) ∧
  (∀ (ls : eL) (st : List Value) (h : eH), ru 166 84 ls st h = ru 166 85 ls (.int (nI 2) :: st) h) ∧
  (∀ (a0 : Nat) (a1 : Int32) (a2 : Int32) (u0 : Int32) (u1 : Nat) (ls : eL) (h : eH), ru 166 85 ls [.int a2, .int a1, .ref a0, .int u0, .ref u1] h = cl (den 163 [.ref a0, .int a1, .int a2] h) (fun v h => ru 166 88 ls (v.toList ++ [.int u0, .ref u1]) h)) ∧
  (∀ (x : Int32) (i : Int32) (a : Nat) (ls : eL) (st : List Value) (h : eH), ru 166 88 ls (.int x :: .int i :: .ref a :: st) h = wI (h.1 a) i x (fun e => ru 166 89 ls st (eUp h a e))) ∧
  (∀ (x0 x1 : Option Value) (v : Int32) (t : eL) (st : List Value) (h : eH), ru 166 89 (x0 :: x1 :: some (.int v) :: t) st h = ru 166 92 (x0 :: eKl x1 :: some (.int (v + 1)) :: t) st h) ∧
  (∀ (ls : eL) (st : List Value) (h : eH), ru 166 92 ls st h = ru 166 13 ls st h) ∧
  (∀ (ls : eL) (h : eH), ru 166 95 ls [] h = some (none, h)) := ⟨fun v t st h => ru_go rfl rfl,
  fun x0 v t st h => ru_go rfl rfl,
  fun ls st h => ru_go rfl rfl,
  fun ls st h => ru_go rfl rfl,
  fun a0 a1 a2 u0 ls h => ru_inv rfl (by decide) rfl (Nat.le_of_ble_eq_true rfl),
  fun v a ls st h => ru_putf rfl,
  fun ls st h => ru_go rfl rfl,
  fun x0 x1 x2 v t st h => ru_go rfl rfl,
  fun v t st h => ru_go rfl rfl,
  fun a ls st h => ru_getf rfl,
  fun x y ls st h => ru_if rfl rfl,
  fun v t st h => ru_go rfl rfl,
  fun a ls st h => ru_getf rfl,
  fun x0 x1 v t st h => ru_go rfl rfl,
  fun x0 v t st h => ru_go rfl rfl,
  fun ls st h => ru_go rfl rfl,
  fun v t st h => ru_go rfl rfl,
  fun a ls st h => ru_getf rfl,
  fun ls st h => ru_go rfl rfl,
  fun x y ls st h => ru_go rfl rfl,
  fun a0 a1 a2 u0 u1 ls h => ru_inv rfl (by decide) rfl (Nat.le_of_ble_eq_true rfl),
  fun x i a ls st h => ru_iast rfl,
  fun v t st h => ru_go rfl rfl,
  fun a ls st h => ru_getf rfl,
  fun x0 x1 v t st h => ru_go rfl rfl,
  fun x0 v t st h => ru_go rfl rfl,
  fun ls st h => ru_go rfl rfl,
  fun v t st h => ru_go rfl rfl,
  fun a ls st h => ru_getf rfl,
  fun ls st h => ru_go rfl rfl,
  fun x y ls st h => ru_go rfl rfl,
  fun a0 a1 a2 u0 u1 ls h => ru_inv rfl (by decide) rfl (Nat.le_of_ble_eq_true rfl),
  fun x i a ls st h => ru_iast rfl,
  fun v t st h => ru_go rfl rfl,
  fun x0 x1 v t st h => ru_go rfl rfl,
  fun ls st h => ru_go rfl rfl,
  fun a0 a1 a2 ls h => ru_inv rfl (by decide) rfl (Nat.le_of_ble_eq_true rfl),
  fun x ls st h => ru_if rfl rfl,
  fun v t st h => ru_go rfl rfl,
  fun x0 x1 v t st h => ru_go rfl rfl,
  fun ls st h => ru_go rfl rfl,
  fun a0 a1 a2 ls h => ru_inv rfl (by decide) rfl (Nat.le_of_ble_eq_true rfl),
  fun x ls st h => ru_if rfl rfl,
  fun x0 v t st h => ru_go rfl rfl,
  fun a0 ls h => ru_inv rfl (by decide) rfl (Nat.le_of_ble_eq_true rfl),
  fun v t st h => ru_go rfl rfl,
  fun a ls st h => ru_getf rfl,
  fun x0 x1 v t st h => ru_go rfl rfl,
  fun x0 v t st h => ru_go rfl rfl,
  fun ls st h => ru_go rfl rfl,
  fun ls st h => ru_go rfl rfl,
  fun a0 a1 a2 u0 u1 ls h => ru_inv rfl (by decide) rfl (Nat.le_of_ble_eq_true rfl),
  fun x i a ls st h => ru_iast rfl,
  fun x0 x1 v t st h => ru_go rfl rfl,
  fun ls st h => ru_go rfl rfl,
  fun ls h => ru_ret rfl rfl⟩
theorem E166 (a0 : Nat) (a1 : Nat) {h : eH} {fs : List Value} (ha : h.1 a0 = .inr (6, fs)) : den 166 [.ref a0, .ref a1] h = ru 166 0 [some (.ref a0), some (.ref a1), none] [] h := den_ob (Nat.le_of_ble_eq_true rfl) ha
/-! 167 X6_readFrom -/
set_option maxRecDepth 100000 in
theorem S167 : (∀ (v : Nat) (t : eL) (st : List Value) (h : eH), ru 167 0 (some (.ref v) :: t) st h = ru 167 1 (some (.ref v) :: t) (.ref v :: st) h) ∧
  (∀ (x0 : Option Value) (v : Nat) (t : eL) (st : List Value) (h : eH), ru 167 1 (x0 :: some (.ref v) :: t) st h = ru 167 2 (x0 :: some (.ref v) :: t) (.ref v :: st) h) ∧
  (∀ (a0 : Nat) (a1 : Nat) (ls : eL) (h : eH), ru 167 2 ls [.ref a1, .ref a0] h = cl (den 164 [.ref a0, .ref a1] h) (fun v h => ru 167 5 ls (v.toList ++ []) h)) ∧
  (∀ (v : Nat) (t : eL) (st : List Value) (h : eH), ru 167 5 (some (.ref v) :: t) st h = ru 167 6 (some (.ref v) :: t) (.ref v :: st) h) ∧
  (∀ (x0 : Option Value) (v : Nat) (t : eL) (st : List Value) (h : eH), ru 167 6 (x0 :: some (.ref v) :: t) st h = ru 167 7 (x0 :: some (.ref v) :: t) (.ref v :: st) h) ∧
  (∀ (a0 : Nat) (a1 : Nat) (ls : eL) (h : eH), ru 167 7 ls [.ref a1, .ref a0] h = cl (den 166 [.ref a0, .ref a1] h) (fun v h => ru 167 10 ls (v.toList ++ []) h)) ∧
  (∀ (v : Nat) (t : eL) (st : List Value) (h : eH), ru 167 10 (some (.ref v) :: t) st h = ru 167 11 (some (.ref v) :: t) (.ref v :: st) h) ∧
  (∀ (a : Nat) (ls : eL) (st : List Value) (h : eH), ru 167 11 ls (.ref a :: st) h = gF (h.1 a) 6 4 (fun v => ru 167 14 ls (v :: st) h)) ∧
  (∀ (ls : eL) (st : List Value) (h : eH), ru 167 14 ls st h = ru 167 15 ls (.int (nI 0) :: st) h) ∧
  (∀ (i : Int32) (a : Nat) (ls : eL) (st : List Value) (h : eH), ru 167 15 ls (.int i :: .ref a :: st) h = aQ (h.1 a) i (fun v => ru 167 16 ls (.ref v :: st) h)) ∧
  (∀ (ls : eL) (st : List Value) (h : eH), ru 167 16 ls st h = ru 167 17 ls (.int (nI 0) :: st) h) ∧
  (∀ (a0 : Nat) (a1 : Int32) (ls : eL) (h : eH), ru 167 17 ls [.int a1, .ref a0] h = cl (den 1 [.ref a0, .int a1] h) (fun v h => ru 167 20 ls (v.toList ++ []) h)) ∧
  (∀ (v : Nat) (t : eL) (st : List Value) (h : eH), ru 167 20 (some (.ref v) :: t) st h = ru 167 21 (some (.ref v) :: t) (.ref v :: st) h) ∧
  (∀ (a : Nat) (ls : eL) (st : List Value) (h : eH), ru 167 21 ls (.ref a :: st) h = gF (h.1 a) 6 4 (fun v => ru 167 24 ls (v :: st) h)) ∧
  (∀ (ls : eL) (st : List Value) (h : eH), ru 167 24 ls st h = ru 167 25 ls (.int (nI 1) :: st) h) ∧
  (∀ (i : Int32) (a : Nat) (ls : eL) (st : List Value) (h : eH), ru 167 25 ls (.int i :: .ref a :: st) h = aQ (h.1 a) i (fun v => ru 167 26 ls (.ref v :: st) h)) ∧
  (∀ (ls : eL) (st : List Value) (h : eH), ru 167 26 ls st h = ru 167 27 ls (.int (nI 0) :: st) h) ∧
  (∀ (a0 : Nat) (a1 : Int32) (ls : eL) (h : eH), ru 167 27 ls [.int a1, .ref a0] h = cl (den 1 [.ref a0, .int a1] h) (fun v h => ru 167 30 ls (v.toList ++ []) h)) ∧
  (∀ (v : Nat) (t : eL) (st : List Value) (h : eH), ru 167 30 (some (.ref v) :: t) st h = ru 167 31 (some (.ref v) :: t) (.ref v :: st) h) ∧
  (∀ (a : Nat) (ls : eL) (st : List Value) (h : eH), ru 167 31 ls (.ref a :: st) h = gF (h.1 a) 6 9 (fun v => ru 167 34 ls (v :: st) h)) ∧
  (∀ (ls : eL) (st : List Value) (h : eH), ru 167 34 ls st h = ru 167 35 ls (.int (nI 0) :: st) h) ∧
  (∀ (a0 : Nat) (a1 : Int32) (ls : eL) (h : eH), ru 167 35 ls [.int a1, .ref a0] h = cl (den 1 [.ref a0, .int a1] h) (fun v h => ru 167 38 ls (v.toList ++ []) h)) ∧
  (∀ (ls : eL) (h : eH), ru 167 38 ls [] h = some (none, h)) := ⟨fun v t st h => ru_go rfl rfl,
  fun x0 v t st h => ru_go rfl rfl,
  fun a0 a1 ls h => ru_inv rfl (by decide) rfl (Nat.le_of_ble_eq_true rfl),
  fun v t st h => ru_go rfl rfl,
  fun x0 v t st h => ru_go rfl rfl,
  fun a0 a1 ls h => ru_inv rfl (by decide) rfl (Nat.le_of_ble_eq_true rfl),
  fun v t st h => ru_go rfl rfl,
  fun a ls st h => ru_getf rfl,
  fun ls st h => ru_go rfl rfl,
  fun i a ls st h => ru_aald rfl,
  fun ls st h => ru_go rfl rfl,
  fun a0 a1 ls h => ru_inv rfl (by decide) rfl (Nat.le_of_ble_eq_true rfl),
  fun v t st h => ru_go rfl rfl,
  fun a ls st h => ru_getf rfl,
  fun ls st h => ru_go rfl rfl,
  fun i a ls st h => ru_aald rfl,
  fun ls st h => ru_go rfl rfl,
  fun a0 a1 ls h => ru_inv rfl (by decide) rfl (Nat.le_of_ble_eq_true rfl),
  fun v t st h => ru_go rfl rfl,
  fun a ls st h => ru_getf rfl,
  fun ls st h => ru_go rfl rfl,
  fun a0 a1 ls h => ru_inv rfl (by decide) rfl (Nat.le_of_ble_eq_true rfl),
  fun ls h => ru_ret rfl rfl⟩
theorem E167 (a0 : Nat) (a1 : Nat) {h : eH} {fs : List Value} (ha : h.1 a0 = .inr (6, fs)) : den 167 [.ref a0, .ref a1] h = ru 167 0 [some (.ref a0), some (.ref a1)] [] h := den_ob (Nat.le_of_ble_eq_true rfl) ha
/-! 168 X10_net -/
set_option maxRecDepth 100000 in
theorem S168 : (∀ (x0 : Option Value) (v : Int32) (t : eL) (st : List Value) (h : eH), ru 168 0 (x0 :: some (.int v) :: t) st h = ru 168 1 (x0 :: some (.int v) :: t) (.int v :: st) h) ∧
  (∀ (a0 : Int32) (ls : eL) (h : eH), ru 168 1 ls [.int a0] h = cl (den 150 [.int a0] h) (fun v h => ru 168 4 ls (v.toList ++ []) h)) ∧
  (∀ (x : Int32) (ls : eL) (st : List Value) (h : eH), ru 168 4 ls (.int x :: st) h = if x = 0 then ru 168 7 ls st h else ru 168 10 ls st h) ∧
  (∀ (ls : eL) (st : List Value) (h : eH), ru 168 7 ls st h = ru 168 9 ls (.int ((-2)) :: st) h) ∧
  (∀ (x : Int32) (ls : eL) (h : eH), ru 168 9 ls [.int x] h = some (some (.int x), h)) ∧
  (∀ (v : Nat) (t : eL) (st : List Value) (h : eH), ru 168 10 (some (.ref v) :: t) st h = ru 168 11 (some (.ref v) :: t) (.ref v :: st) h) ∧
  (∀ (a : Nat) (ls : eL) (st : List Value) (h : eH), ru 168 11 ls (.ref a :: st) h = gF (h.1 a) 10 0 (fun v => ru 168 14 ls (v :: st) h)) ∧
  (∀ (x0 : Option Value) (v : Int32) (t : eL) (st : List Value) (h : eH), ru 168 14 (x0 :: some (.int v) :: t) st h = ru 168 15 (x0 :: some (.int v) :: t) (.int v :: st) h) ∧
  (∀ (a0 : Nat) (a1 : Int32) (ls : eL) (h : eH), ru 168 15 ls [.int a1, .ref a0] h = cl (den 134 [.ref a0, .int a1] h) (fun v h => ru 168 18 ls (v.toList ++ []) h)) ∧
  (∀ (x : Int32) (ls : eL) (st : List Value) (h : eH), ru 168 18 ls (.int x :: st) h = if x = 0 then ru 168 21 ls st h else ru 168 24 ls st h) ∧
  (∀ (ls : eL) (st : List Value) (h : eH), ru 168 21 ls st h = ru 168 23 ls (.int ((-5)) :: st) h) ∧
  (∀ (x : Int32) (ls : eL) (h : eH), ru 168 23 ls [.int x] h = some (some (.int x), h)) ∧
  (∀ (v : Nat) (t : eL) (st : List Value) (h : eH), ru 168 24 (some (.ref v) :: t) st h = ru 168 25 (some (.ref v) :: t) (.ref v :: st) h) ∧
  (∀ (a : Nat) (ls : eL) (st : List Value) (h : eH), ru 168 25 ls (.ref a :: st) h = gF (h.1 a) 10 0 (fun v => ru 168 28 ls (v :: st) h)) ∧
  (∀ (x0 : Option Value) (v : Int32) (t : eL) (st : List Value) (h : eH), ru 168 28 (x0 :: some (.int v) :: t) st h = ru 168 29 (x0 :: some (.int v) :: t) (.int v :: st) h) ∧
  (∀ (a0 : Nat) (a1 : Int32) (ls : eL) (h : eH), ru 168 29 ls [.int a1, .ref a0] h = cl (den 162 [.ref a0, .int a1] h) (fun v h => ru 168 32 ls (v.toList ++ []) h)) ∧
  (∀ (v : Nat) (t : eL) (st : List Value) (h : eH), ru 168 32 (some (.ref v) :: t) st h = ru 168 33 (some (.ref v) :: t) (.ref v :: st) h) ∧
  (∀ (a : Nat) (ls : eL) (st : List Value) (h : eH), ru 168 33 ls (.ref a :: st) h = gF (h.1 a) 10 10 (fun v => ru 168 36 ls (v :: st) h)) ∧
  (∀ (v : Nat) (t : eL) (st : List Value) (h : eH), ru 168 36 (some (.ref v) :: t) st h = ru 168 37 (some (.ref v) :: t) (.ref v :: st) h) ∧
  (∀ (a : Nat) (ls : eL) (st : List Value) (h : eH), ru 168 37 ls (.ref a :: st) h = gF (h.1 a) 10 0 (fun v => ru 168 40 ls (v :: st) h)) ∧
  (∀ (a0 : Nat) (a1 : Nat) (ls : eL) (h : eH), ru 168 40 ls [.ref a1, .ref a0] h = cl (den 167 [.ref a0, .ref a1] h) (fun v h => ru 168 43 ls (v.toList ++ []) h)) ∧
  (∀ (v : Nat) (t : eL) (st : List Value) (h : eH), ru 168 43 (some (.ref v) :: t) st h = ru 168 44 (some (.ref v) :: t) (.ref v :: st) h) ∧
  (∀ (a : Nat) (ls : eL) (st : List Value) (h : eH), ru 168 44 ls (.ref a :: st) h = gF (h.1 a) 10 0 (fun v => ru 168 47 ls (v :: st) h)) ∧
  (∀ (a : Nat) (ls : eL) (st : List Value) (h : eH), ru 168 47 ls (.ref a :: st) h = gF (h.1 a) 7 5 (fun v => ru 168 50 ls (v :: st) h)) ∧
  (∀ (x : Int32) (ls : eL) (st : List Value) (h : eH), ru 168 50 ls (.int x :: st) h = if x = 0 then ru 168 61 ls st h else ru 168 53 ls st h) ∧
  (∀ (v : Nat) (t : eL) (st : List Value) (h : eH), ru 168 53 (some (.ref v) :: t) st h = ru 168 54 (some (.ref v) :: t) (.ref v :: st) h) ∧
  (∀ (a : Nat) (ls : eL) (st : List Value) (h : eH), ru 168 54 ls (.ref a :: st) h = gF (h.1 a) 10 0 (fun v => ru 168 57 ls (v :: st) h)) ∧
  (∀ (a : Nat) (ls : eL) (st : List Value) (h : eH), ru 168 57 ls (.ref a :: st) h = gF (h.1 a) 7 5 (fun v => ru 168 60 ls (v :: st) h)) ∧
  (∀ (x : Int32) (ls : eL) (h : eH), ru 168 60 ls [.int x] h = some (some (.int x), h)) ∧
  (∀ (v : Nat) (t : eL) (st : List Value) (h : eH), ru 168 61 (some (.ref v) :: t) st h = ru 168 62 (some (.ref v) :: t) (.ref v :: st) h) ∧
  (∀ (a : Nat) (ls : eL) (st : List Value) (h : eH), ru 168 62 ls (.ref a :: st) h = gF (h.1 a) 10 9 (fun v => ru 168 65 ls (v :: st) h)) ∧
  (∀ (x0 x1 x2 : Option Value) (v : Nat) (t : eL) (st : List Value) (h : eH), ru 168 65 (x0 :: x1 :: x2 :: t) (.ref v :: st) h = ru 168 66 (x0 :: eKl x1 :: some (.ref v) :: t) st h) ∧
  (∀ (v : Nat) (t : eL) (st : List Value) (h : eH), ru 168 66 (some (.ref v) :: t) st h = ru 168 67 (some (.ref v) :: t) (.ref v :: st) h) ∧
  (∀ (v : Nat) (t : eL) (st : List Value) (h : eH), ru 168 67 (some (.ref v) :: t) st h = ru 168 68 (some (.ref v) :: t) (.ref v :: st) h) ∧
  (∀ (a : Nat) (ls : eL) (st : List Value) (h : eH), ru 168 68 ls (.ref a :: st) h = gF (h.1 a) 10 10 (fun v => ru 168 71 ls (v :: st) h)) ∧
  (∀ (v : Nat) (a : Nat) (ls : eL) (st : List Value) (h : eH), ru 168 71 ls (.ref v :: .ref a :: st) h = pF (h.1 a) 10 9 (.ref v) (fun e => ru 168 74 ls st (eUp h a e))) ∧
  (∀ (v : Nat) (t : eL) (st : List Value) (h : eH), ru 168 74 (some (.ref v) :: t) st h = ru 168 75 (some (.ref v) :: t) (.ref v :: st) h) ∧
  (∀ (x0 x1 : Option Value) (v : Nat) (t : eL) (st : List Value) (h : eH), ru 168 75 (x0 :: x1 :: some (.ref v) :: t) st h = ru 168 76 (x0 :: x1 :: some (.ref v) :: t) (.ref v :: st) h) ∧
  (∀ (v : Nat) (a : Nat) (ls : eL) (st : List Value) (h : eH), ru 168 76 ls (.ref v :: .ref a :: st) h = pF (h.1 a) 10 10 (.ref v) (fun e => ru 168 79 ls st (eUp h a e))) ∧
  (∀ (v : Nat) (t : eL) (st : List Value) (h : eH), ru 168 79 (some (.ref v) :: t) st h = ru 168 80 (some (.ref v) :: t) (.ref v :: st) h) ∧
  (∀ (a0 : Nat) (ls : eL) (h : eH), ru 168 80 ls [.ref a0] h = cl (den 140 [.ref a0] h) (fun v h => ru 168 83 ls (v.toList ++ []) h)) ∧
  (∀ (v : Nat) (t : eL) (st : List Value) (h : eH), ru 168 83 (some (.ref v) :: t) st h = ru 168 84 (some (.ref v) :: t) (.ref v :: st) h) ∧
  (∀ (a : Nat) (ls : eL) (st : List Value) (h : eH), ru 168 84 ls (.ref a :: st) h = gF (h.1 a) 10 9 (fun v => ru 168 87 ls (v :: st) h)) ∧
  (∀ (a : Nat) (ls : eL) (st : List Value) (h : eH), ru 168 87 ls (.ref a :: st) h = gF (h.1 a) 6 2 (fun v => ru 168 90 ls (v :: st) h)) ∧
  (∀ (x : Int32) (ls : eL) (h : eH), ru 168 90 ls [.int x] h = some (some (.int x), h)) := ⟨fun x0 v t st h => ru_go rfl rfl,
  fun a0 ls h => ru_inv rfl (by decide) rfl (Nat.le_of_ble_eq_true rfl),
  fun x ls st h => ru_if rfl rfl,
  fun ls st h => ru_go rfl rfl,
  fun x ls h => ru_ret rfl rfl,
  fun v t st h => ru_go rfl rfl,
  fun a ls st h => ru_getf rfl,
  fun x0 v t st h => ru_go rfl rfl,
  fun a0 a1 ls h => ru_inv rfl (by decide) rfl (Nat.le_of_ble_eq_true rfl),
  fun x ls st h => ru_if rfl rfl,
  fun ls st h => ru_go rfl rfl,
  fun x ls h => ru_ret rfl rfl,
  fun v t st h => ru_go rfl rfl,
  fun a ls st h => ru_getf rfl,
  fun x0 v t st h => ru_go rfl rfl,
  fun a0 a1 ls h => ru_inv rfl (by decide) rfl (Nat.le_of_ble_eq_true rfl),
  fun v t st h => ru_go rfl rfl,
  fun a ls st h => ru_getf rfl,
  fun v t st h => ru_go rfl rfl,
  fun a ls st h => ru_getf rfl,
  fun a0 a1 ls h => ru_inv rfl (by decide) rfl (Nat.le_of_ble_eq_true rfl),
  fun v t st h => ru_go rfl rfl,
  fun a ls st h => ru_getf rfl,
  fun a ls st h => ru_getf rfl,
  fun x ls st h => ru_if rfl rfl,
  fun v t st h => ru_go rfl rfl,
  fun a ls st h => ru_getf rfl,
  fun a ls st h => ru_getf rfl,
  fun x ls h => ru_ret rfl rfl,
  fun v t st h => ru_go rfl rfl,
  fun a ls st h => ru_getf rfl,
  fun x0 x1 x2 v t st h => ru_go rfl rfl,
  fun v t st h => ru_go rfl rfl,
  fun v t st h => ru_go rfl rfl,
  fun a ls st h => ru_getf rfl,
  fun v a ls st h => ru_putf rfl,
  fun v t st h => ru_go rfl rfl,
  fun x0 x1 v t st h => ru_go rfl rfl,
  fun v a ls st h => ru_putf rfl,
  fun v t st h => ru_go rfl rfl,
  fun a0 ls h => ru_inv rfl (by decide) rfl (Nat.le_of_ble_eq_true rfl),
  fun v t st h => ru_go rfl rfl,
  fun a ls st h => ru_getf rfl,
  fun a ls st h => ru_getf rfl,
  fun x ls h => ru_ret rfl rfl⟩
theorem E168 (a0 : Nat) (a1 : Int32) {h : eH} {fs : List Value} (ha : h.1 a0 = .inr (10, fs)) : den 168 [.ref a0, .int a1] h = ru 168 0 [some (.ref a0), some (.int a1), none] [] h := den_ob (Nat.le_of_ble_eq_true rfl) ha
/-! 169 X10_part -/
set_option maxRecDepth 100000 in
theorem S169 : (∀ (x0 : Option Value) (v : Int32) (t : eL) (st : List Value) (h : eH), ru 169 0 (x0 :: some (.int v) :: t) st h = ru 169 1 (x0 :: some (.int v) :: t) (.int v :: st) h) ∧
  (∀ (x : Int32) (ls : eL) (st : List Value) (h : eH), ru 169 1 ls (.int x :: st) h = if x = 0 then ru 169 18 ls st h else ru 169 4 ls st h) ∧
  (∀ (v : Nat) (t : eL) (st : List Value) (h : eH), ru 169 4 (some (.ref v) :: t) st h = ru 169 5 (some (.ref v) :: t) (.ref v :: st) h) ∧
  (∀ (a : Nat) (ls : eL) (st : List Value) (h : eH), ru 169 5 ls (.ref a :: st) h = gF (h.1 a) 10 1 (fun v => ru 169 8 ls (v :: st) h)) ∧
  (∀ (a : Nat) (ls : eL) (st : List Value) (h : eH), ru 169 8 ls (.ref a :: st) h = gF (h.1 a) 4 1 (fun v => ru 169 11 ls (v :: st) h)) ∧
  (∀ (x0 x1 : Option Value) (v : Int32) (t : eL) (st : List Value) (h : eH), ru 169 11 (x0 :: x1 :: some (.int v) :: t) st h = ru 169 12 (x0 :: x1 :: some (.int v) :: t) (.int v :: st) h) ∧
  (∀ (a0 : Nat) (a1 : Int32) (ls : eL) (h : eH), ru 169 12 ls [.int a1, .ref a0] h = cl (den 98 [.ref a0, .int a1] h) (fun v h => ru 169 15 ls (v.toList ++ []) h)) ∧
  (∀ (ls : eL) (st : List Value) (h : eH), ru 169 15 ls st h = ru 169 29 ls st h) ∧
  (∀ (v : Nat) (t : eL) (st : List Value) (h : eH), ru 169 18 (some (.ref v) :: t) st h = ru 169 19 (some (.ref v) :: t) (.ref v :: st) h) ∧
  (∀ (a : Nat) (ls : eL) (st : List Value) (h : eH), ru 169 19 ls (.ref a :: st) h = gF (h.1 a) 10 1 (fun v => ru 169 22 ls (v :: st) h)) ∧
  (∀ (a : Nat) (ls : eL) (st : List Value) (h : eH), ru 169 22 ls (.ref a :: st) h = gF (h.1 a) 4 0 (fun v => ru 169 25 ls (v :: st) h)) ∧
  (∀ (x0 x1 : Option Value) (v : Int32) (t : eL) (st : List Value) (h : eH), ru 169 25 (x0 :: x1 :: some (.int v) :: t) st h = ru 169 26 (x0 :: x1 :: some (.int v) :: t) (.int v :: st) h) ∧
  (∀ (a0 : Nat) (a1 : Int32) (ls : eL) (h : eH), ru 169 26 ls [.int a1, .ref a0] h = cl (den 98 [.ref a0, .int a1] h) (fun v h => ru 169 29 ls (v.toList ++ []) h)) ∧
  (∀ (x : Int32) (ls : eL) (h : eH), ru 169 29 ls [.int x] h = some (some (.int x), h)) := ⟨fun x0 v t st h => ru_go rfl rfl,
  fun x ls st h => ru_if rfl rfl,
  fun v t st h => ru_go rfl rfl,
  fun a ls st h => ru_getf rfl,
  fun a ls st h => ru_getf rfl,
  fun x0 x1 v t st h => ru_go rfl rfl,
  fun a0 a1 ls h => ru_inv rfl (by decide) rfl (Nat.le_of_ble_eq_true rfl),
  fun ls st h => ru_go rfl rfl,
  fun v t st h => ru_go rfl rfl,
  fun a ls st h => ru_getf rfl,
  fun a ls st h => ru_getf rfl,
  fun x0 x1 v t st h => ru_go rfl rfl,
  fun a0 a1 ls h => ru_inv rfl (by decide) rfl (Nat.le_of_ble_eq_true rfl),
  fun x ls h => ru_ret rfl rfl⟩
theorem E169 (a0 : Nat) (a1 : Int32) (a2 : Int32) {h : eH} {fs : List Value} (ha : h.1 a0 = .inr (10, fs)) : den 169 [.ref a0, .int a1, .int a2] h = ru 169 0 [some (.ref a0), some (.int a1), some (.int a2)] [] h := den_ob (Nat.le_of_ble_eq_true rfl) ha
/-! 170 X10_pull -/
set_option maxRecDepth 100000 in
theorem S170 : (∀ (v : Nat) (t : eL) (st : List Value) (h : eH), ru 170 0 (some (.ref v) :: t) st h = ru 170 1 (some (.ref v) :: t) (.ref v :: st) h) ∧
  (∀ (a : Nat) (ls : eL) (st : List Value) (h : eH), ru 170 1 ls (.ref a :: st) h = gF (h.1 a) 10 9 (fun v => ru 170 4 ls (v :: st) h)) ∧
  (∀ (x0 : Option Value) (v : Int32) (t : eL) (st : List Value) (h : eH), ru 170 4 (x0 :: some (.int v) :: t) st h = ru 170 5 (x0 :: some (.int v) :: t) (.int v :: st) h) ∧
  (∀ (a0 : Nat) (a1 : Int32) (ls : eL) (h : eH), ru 170 5 ls [.int a1, .ref a0] h = cl (den 124 [.ref a0, .int a1] h) (fun v h => ru 170 8 ls (v.toList ++ []) h)) ∧
  (∀ (x : Int32) (ls : eL) (st : List Value) (h : eH), ru 170 8 ls (.int x :: st) h = if x = 0 then ru 170 11 ls st h else ru 170 14 ls st h) ∧
  (∀ (ls : eL) (st : List Value) (h : eH), ru 170 11 ls st h = ru 170 13 ls (.int ((-2)) :: st) h) ∧
  (∀ (x : Int32) (ls : eL) (h : eH), ru 170 13 ls [.int x] h = some (some (.int x), h)) ∧
  (∀ (x0 x1 : Option Value) (v : Int32) (t : eL) (st : List Value) (h : eH), ru 170 14 (x0 :: x1 :: some (.int v) :: t) st h = ru 170 15 (x0 :: x1 :: some (.int v) :: t) (.int v :: st) h) ∧
  (∀ (a0 : Int32) (ls : eL) (h : eH), ru 170 15 ls [.int a0] h = cl (den 151 [.int a0] h) (fun v h => ru 170 18 ls (v.toList ++ []) h)) ∧
  (∀ (x : Int32) (ls : eL) (st : List Value) (h : eH), ru 170 18 ls (.int x :: st) h = if x = 0 then ru 170 21 ls st h else ru 170 24 ls st h) ∧
  (∀ (ls : eL) (st : List Value) (h : eH), ru 170 21 ls st h = ru 170 23 ls (.int ((-4)) :: st) h) ∧
  (∀ (x : Int32) (ls : eL) (h : eH), ru 170 23 ls [.int x] h = some (some (.int x), h)) ∧
  (∀ (v : Nat) (t : eL) (st : List Value) (h : eH), ru 170 24 (some (.ref v) :: t) st h = ru 170 25 (some (.ref v) :: t) (.ref v :: st) h) ∧
  (∀ (a : Nat) (ls : eL) (st : List Value) (h : eH), ru 170 25 ls (.ref a :: st) h = gF (h.1 a) 10 9 (fun v => ru 170 28 ls (v :: st) h)) ∧
  (∀ (a : Nat) (ls : eL) (st : List Value) (h : eH), ru 170 28 ls (.ref a :: st) h = gF (h.1 a) 6 9 (fun v => ru 170 31 ls (v :: st) h)) ∧
  (∀ (x0 : Option Value) (v : Int32) (t : eL) (st : List Value) (h : eH), ru 170 31 (x0 :: some (.int v) :: t) st h = ru 170 32 (x0 :: some (.int v) :: t) (.int v :: st) h) ∧
  (∀ (x0 x1 : Option Value) (v : Int32) (t : eL) (st : List Value) (h : eH), ru 170 32 (x0 :: x1 :: some (.int v) :: t) st h = ru 170 33 (x0 :: x1 :: some (.int v) :: t) (.int v :: st) h) ∧
  (∀ (x : Int32) (i : Int32) (a : Nat) (ls : eL) (st : List Value) (h : eH), ru 170 33 ls (.int x :: .int i :: .ref a :: st) h = wI (h.1 a) i x (fun e => ru 170 34 ls st (eUp h a e))) ∧
  (∀ (v : Nat) (t : eL) (st : List Value) (h : eH), ru 170 34 (some (.ref v) :: t) st h = ru 170 35 (some (.ref v) :: t) (.ref v :: st) h) ∧
  (∀ (ls : eL) (st : List Value) (h : eH), ru 170 35 ls st h = ru 170 36 ls (.int (nI 0) :: st) h) ∧
  (∀ (v : Int32) (a : Nat) (ls : eL) (st : List Value) (h : eH), ru 170 36 ls (.int v :: .ref a :: st) h = pF (h.1 a) 10 14 (.int v) (fun e => ru 170 39 ls st (eUp h a e))) ∧
  (∀ (ls : eL) (st : List Value) (h : eH), ru 170 39 ls st h = ru 170 40 ls (.int (nI 0) :: st) h) ∧
  (∀ (x : Int32) (ls : eL) (h : eH), ru 170 40 ls [.int x] h = some (some (.int x), h)) := ⟨fun v t st h => ru_go rfl rfl,
  fun a ls st h => ru_getf rfl,
  fun x0 v t st h => ru_go rfl rfl,
  fun a0 a1 ls h => ru_inv rfl (by decide) rfl (Nat.le_of_ble_eq_true rfl),
  fun x ls st h => ru_if rfl rfl,
  fun ls st h => ru_go rfl rfl,
  fun x ls h => ru_ret rfl rfl,
  fun x0 x1 v t st h => ru_go rfl rfl,
  fun a0 ls h => ru_inv rfl (by decide) rfl (Nat.le_of_ble_eq_true rfl),
  fun x ls st h => ru_if rfl rfl,
  fun ls st h => ru_go rfl rfl,
  fun x ls h => ru_ret rfl rfl,
  fun v t st h => ru_go rfl rfl,
  fun a ls st h => ru_getf rfl,
  fun a ls st h => ru_getf rfl,
  fun x0 v t st h => ru_go rfl rfl,
  fun x0 x1 v t st h => ru_go rfl rfl,
  fun x i a ls st h => ru_iast rfl,
  fun v t st h => ru_go rfl rfl,
  fun ls st h => ru_go rfl rfl,
  fun v a ls st h => ru_putf rfl,
  fun ls st h => ru_go rfl rfl,
  fun x ls h => ru_ret rfl rfl⟩
theorem E170 (a0 : Nat) (a1 : Int32) (a2 : Int32) {h : eH} {fs : List Value} (ha : h.1 a0 = .inr (10, fs)) : den 170 [.ref a0, .int a1, .int a2] h = ru 170 0 [some (.ref a0), some (.int a1), some (.int a2)] [] h := den_ob (Nat.le_of_ble_eq_true rfl) ha
/-! 171 X7_make -/
set_option maxRecDepth 100000 in
theorem S171 : (∀ (v : Nat) (t : eL) (st : List Value) (h : eH), ru 171 0 (some (.ref v) :: t) st h = ru 171 1 (some (.ref v) :: t) (.ref v :: st) h) ∧
  (∀ (a : Nat) (ls : eL) (st : List Value) (h : eH), ru 171 1 ls (.ref a :: st) h = gF (h.1 a) 7 0 (fun v => ru 171 4 ls (v :: st) h)) ∧
  (∀ (x0 : Option Value) (v : Int32) (t : eL) (st : List Value) (h : eH), ru 171 4 (x0 :: some (.int v) :: t) st h = ru 171 5 (x0 :: some (.int v) :: t) (.int v :: st) h) ∧
  (∀ (i : Int32) (a : Nat) (ls : eL) (st : List Value) (h : eH), ru 171 5 ls (.int i :: .ref a :: st) h = aQ (h.1 a) i (fun v => ru 171 6 ls (.ref v :: st) h)) ∧
  (∀ (ls : eL) (st : List Value) (h : eH), ru 171 6 ls st h = ru 171 7 ls (.long (lN 0) :: st) h) ∧
  (∀ (a0 : Nat) (a1 : Int64) (ls : eL) (h : eH), ru 171 7 ls [.long a1, .ref a0] h = cl (den 2 [.ref a0, .long a1] h) (fun v h => ru 171 10 ls (v.toList ++ []) h)) ∧
  (∀ (v : Nat) (t : eL) (st : List Value) (h : eH), ru 171 10 (some (.ref v) :: t) st h = ru 171 11 (some (.ref v) :: t) (.ref v :: st) h) ∧
  (∀ (a : Nat) (ls : eL) (st : List Value) (h : eH), ru 171 11 ls (.ref a :: st) h = gF (h.1 a) 7 1 (fun v => ru 171 14 ls (v :: st) h)) ∧
  (∀ (x0 : Option Value) (v : Int32) (t : eL) (st : List Value) (h : eH), ru 171 14 (x0 :: some (.int v) :: t) st h = ru 171 15 (x0 :: some (.int v) :: t) (.int v :: st) h) ∧
  (∀ (x0 x1 : Option Value) (v : Int32) (t : eL) (st : List Value) (h : eH), ru 171 15 (x0 :: x1 :: some (.int v) :: t) st h = ru 171 16 (x0 :: x1 :: some (.int v) :: t) (.int v :: st) h) ∧
  (∀ (x : Int32) (i : Int32) (a : Nat) (ls : eL) (st : List Value) (h : eH), ru 171 16 ls (.int x :: .int i :: .ref a :: st) h = wI (h.1 a) i x (fun e => ru 171 17 ls st (eUp h a e))) ∧
  (∀ (v : Nat) (t : eL) (st : List Value) (h : eH), ru 171 17 (some (.ref v) :: t) st h = ru 171 18 (some (.ref v) :: t) (.ref v :: st) h) ∧
  (∀ (a : Nat) (ls : eL) (st : List Value) (h : eH), ru 171 18 ls (.ref a :: st) h = gF (h.1 a) 7 2 (fun v => ru 171 21 ls (v :: st) h)) ∧
  (∀ (x0 : Option Value) (v : Int32) (t : eL) (st : List Value) (h : eH), ru 171 21 (x0 :: some (.int v) :: t) st h = ru 171 22 (x0 :: some (.int v) :: t) (.int v :: st) h) ∧
  (∀ (x0 x1 x2 : Option Value) (v : Int32) (t : eL) (st : List Value) (h : eH), ru 171 22 (x0 :: x1 :: x2 :: some (.int v) :: t) st h = ru 171 23 (x0 :: x1 :: x2 :: some (.int v) :: t) (.int v :: st) h) ∧
  (∀ (x : Int32) (i : Int32) (a : Nat) (ls : eL) (st : List Value) (h : eH), ru 171 23 ls (.int x :: .int i :: .ref a :: st) h = wI (h.1 a) i x (fun e => ru 171 24 ls st (eUp h a e))) ∧
  (∀ (ls : eL) (h : eH), ru 171 24 ls [] h = some (none, h)) := ⟨fun v t st h => ru_go rfl rfl,
  fun a ls st h => ru_getf rfl,
  fun x0 v t st h => ru_go rfl rfl,
  fun i a ls st h => ru_aald rfl,
  fun ls st h => ru_go rfl rfl,
  fun a0 a1 ls h => ru_inv rfl (by decide) rfl (Nat.le_of_ble_eq_true rfl),
  fun v t st h => ru_go rfl rfl,
  fun a ls st h => ru_getf rfl,
  fun x0 v t st h => ru_go rfl rfl,
  fun x0 x1 v t st h => ru_go rfl rfl,
  fun x i a ls st h => ru_iast rfl,
  fun v t st h => ru_go rfl rfl,
  fun a ls st h => ru_getf rfl,
  fun x0 v t st h => ru_go rfl rfl,
  fun x0 x1 x2 v t st h => ru_go rfl rfl,
  fun x i a ls st h => ru_iast rfl,
  fun ls h => ru_ret rfl rfl⟩
theorem E171 (a0 : Nat) (a1 : Int32) (a2 : Int32) (a3 : Int32) {h : eH} {fs : List Value} (ha : h.1 a0 = .inr (7, fs)) : den 171 [.ref a0, .int a1, .int a2, .int a3] h = ru 171 0 [some (.ref a0), some (.int a1), some (.int a2), some (.int a3)] [] h := den_ob (Nat.le_of_ble_eq_true rfl) ha
/-! 172 X10_row -/
set_option maxRecDepth 100000 in
theorem S172 : (∀ (x0 : Option Value) (v : Int32) (t : eL) (st : List Value) (h : eH), ru 172 0 (x0 :: some (.int v) :: t) st h = ru 172 1 (x0 :: some (.int v) :: t) (.int v :: st) h) ∧
  (∀ (a0 : Int32) (ls : eL) (h : eH), ru 172 1 ls [.int a0] h = cl (den 150 [.int a0] h) (fun v h => ru 172 4 ls (v.toList ++ []) h)) ∧
  (∀ (x : Int32) (ls : eL) (st : List Value) (h : eH), ru 172 4 ls (.int x :: st) h = if x = 0 then ru 172 22 ls st h else ru 172 7 ls st h) ∧
  (∀ (x0 x1 : Option Value) (v : Int32) (t : eL) (st : List Value) (h : eH), ru 172 7 (x0 :: x1 :: some (.int v) :: t) st h = ru 172 8 (x0 :: x1 :: some (.int v) :: t) (.int v :: st) h) ∧
  (∀ (x : Int32) (ls : eL) (st : List Value) (h : eH), ru 172 8 ls (.int x :: st) h = if x < 0 then ru 172 22 ls st h else ru 172 11 ls st h) ∧
  (∀ (x0 x1 : Option Value) (v : Int32) (t : eL) (st : List Value) (h : eH), ru 172 11 (x0 :: x1 :: some (.int v) :: t) st h = ru 172 12 (x0 :: x1 :: some (.int v) :: t) (.int v :: st) h) ∧
  (∀ (ls : eL) (st : List Value) (h : eH), ru 172 12 ls st h = ru 172 13 ls (.int (nI 4) :: st) h) ∧
  (∀ (x y : Int32) (ls : eL) (st : List Value) (h : eH), ru 172 13 ls (.int y :: .int x :: st) h = if y ≤ x then ru 172 22 ls st h else ru 172 16 ls st h) ∧
  (∀ (x0 x1 x2 : Option Value) (v : Int32) (t : eL) (st : List Value) (h : eH), ru 172 16 (x0 :: x1 :: x2 :: some (.int v) :: t) st h = ru 172 17 (x0 :: x1 :: x2 :: some (.int v) :: t) (.int v :: st) h) ∧
  (∀ (ls : eL) (st : List Value) (h : eH), ru 172 17 ls st h = ru 172 19 ls (.int (nI 60) :: st) h) ∧
  (∀ (x y : Int32) (ls : eL) (st : List Value) (h : eH), ru 172 19 ls (.int y :: .int x :: st) h = if x ≤ y then ru 172 25 ls st h else ru 172 22 ls st h) ∧
  (∀ (ls : eL) (st : List Value) (h : eH), ru 172 22 ls st h = ru 172 24 ls (.int ((-2)) :: st) h) ∧
  (∀ (x : Int32) (ls : eL) (h : eH), ru 172 24 ls [.int x] h = some (some (.int x), h)) ∧
  (∀ (x0 x1 x2 : Option Value) (v : Int32) (t : eL) (st : List Value) (h : eH), ru 172 25 (x0 :: x1 :: x2 :: some (.int v) :: t) st h = ru 172 26 (x0 :: x1 :: x2 :: some (.int v) :: t) (.int v :: st) h) ∧
  (∀ (x : Int32) (ls : eL) (st : List Value) (h : eH), ru 172 26 ls (.int x :: st) h = if 0 ≤ x then ru 172 32 ls st h else ru 172 29 ls st h) ∧
  (∀ (ls : eL) (st : List Value) (h : eH), ru 172 29 ls st h = ru 172 31 ls (.int ((-3)) :: st) h) ∧
  (∀ (x : Int32) (ls : eL) (h : eH), ru 172 31 ls [.int x] h = some (some (.int x), h)) ∧
  (∀ (v : Nat) (t : eL) (st : List Value) (h : eH), ru 172 32 (some (.ref v) :: t) st h = ru 172 33 (some (.ref v) :: t) (.ref v :: st) h) ∧
  (∀ (a : Nat) (ls : eL) (st : List Value) (h : eH), ru 172 33 ls (.ref a :: st) h = gF (h.1 a) 10 0 (fun v => ru 172 36 ls (v :: st) h)) ∧
  (∀ (x0 : Option Value) (v : Int32) (t : eL) (st : List Value) (h : eH), ru 172 36 (x0 :: some (.int v) :: t) st h = ru 172 37 (x0 :: some (.int v) :: t) (.int v :: st) h) ∧
  (∀ (x0 x1 : Option Value) (v : Int32) (t : eL) (st : List Value) (h : eH), ru 172 37 (x0 :: x1 :: some (.int v) :: t) st h = ru 172 38 (x0 :: x1 :: some (.int v) :: t) (.int v :: st) h) ∧
  (∀ (x0 x1 x2 : Option Value) (v : Int32) (t : eL) (st : List Value) (h : eH), ru 172 38 (x0 :: x1 :: x2 :: some (.int v) :: t) st h = ru 172 39 (x0 :: x1 :: x2 :: some (.int v) :: t) (.int v :: st) h) ∧
  (∀ (a0 : Nat) (a1 : Int32) (a2 : Int32) (a3 : Int32) (ls : eL) (h : eH), ru 172 39 ls [.int a3, .int a2, .int a1, .ref a0] h = cl (den 171 [.ref a0, .int a1, .int a2, .int a3] h) (fun v h => ru 172 42 ls (v.toList ++ []) h)) ∧
  (∀ (ls : eL) (st : List Value) (h : eH), ru 172 42 ls st h = ru 172 43 ls (.int (nI 0) :: st) h) ∧
  (∀ (x : Int32) (ls : eL) (h : eH), ru 172 43 ls [.int x] h = some (some (.int x), h)) := ⟨fun x0 v t st h => ru_go rfl rfl,
  fun a0 ls h => ru_inv rfl (by decide) rfl (Nat.le_of_ble_eq_true rfl),
  fun x ls st h => ru_if rfl rfl,
  fun x0 x1 v t st h => ru_go rfl rfl,
  fun x ls st h => ru_if rfl rfl,
  fun x0 x1 v t st h => ru_go rfl rfl,
  fun ls st h => ru_go rfl rfl,
  fun x y ls st h => ru_if rfl rfl,
  fun x0 x1 x2 v t st h => ru_go rfl rfl,
  fun ls st h => ru_go rfl rfl,
  fun x y ls st h => ru_if rfl rfl,
  fun ls st h => ru_go rfl rfl,
  fun x ls h => ru_ret rfl rfl,
  fun x0 x1 x2 v t st h => ru_go rfl rfl,
  fun x ls st h => ru_if rfl rfl,
  fun ls st h => ru_go rfl rfl,
  fun x ls h => ru_ret rfl rfl,
  fun v t st h => ru_go rfl rfl,
  fun a ls st h => ru_getf rfl,
  fun x0 v t st h => ru_go rfl rfl,
  fun x0 x1 v t st h => ru_go rfl rfl,
  fun x0 x1 x2 v t st h => ru_go rfl rfl,
  fun a0 a1 a2 a3 ls h => ru_inv rfl (by decide) rfl (Nat.le_of_ble_eq_true rfl),
  fun ls st h => ru_go rfl rfl,
  fun x ls h => ru_ret rfl rfl⟩
theorem E172 (a0 : Nat) (a1 : Int32) (a2 : Int32) (a3 : Int32) {h : eH} {fs : List Value} (ha : h.1 a0 = .inr (10, fs)) : den 172 [.ref a0, .int a1, .int a2, .int a3] h = ru 172 0 [some (.ref a0), some (.int a1), some (.int a2), some (.int a3)] [] h := den_ob (Nat.le_of_ble_eq_true rfl) ha
/-! 173 X10_shape -/
set_option maxRecDepth 100000 in
theorem S173 : (∀ (v : Nat) (t : eL) (st : List Value) (h : eH), ru 173 0 (some (.ref v) :: t) st h = ru 173 1 (some (.ref v) :: t) (.ref v :: st) h) ∧
  (∀ (a0 : Nat) (ls : eL) (h : eH), ru 173 1 ls [.ref a0] h = cl (den 156 [.ref a0] h) (fun v h => ru 173 4 ls (v.toList ++ []) h)) ∧
  (∀ (v : Nat) (t : eL) (st : List Value) (h : eH), ru 173 4 (some (.ref v) :: t) st h = ru 173 5 (some (.ref v) :: t) (.ref v :: st) h) ∧
  (∀ (a : Nat) (ls : eL) (st : List Value) (h : eH), ru 173 5 ls (.ref a :: st) h = gF (h.1 a) 10 5 (fun v => ru 173 8 ls (v :: st) h)) ∧
  (∀ (a0 : Nat) (ls : eL) (h : eH), ru 173 8 ls [.ref a0] h = cl (den 132 [.ref a0] h) (fun v h => ru 173 11 ls (v.toList ++ []) h)) ∧
  (∀ (x : Int32) (ls : eL) (st : List Value) (h : eH), ru 173 11 ls (.int x :: st) h = if x = 0 then ru 173 14 ls st h else ru 173 32 ls st h) ∧
  (∀ (v : Nat) (t : eL) (st : List Value) (h : eH), ru 173 14 (some (.ref v) :: t) st h = ru 173 15 (some (.ref v) :: t) (.ref v :: st) h) ∧
  (∀ (a : Nat) (ls : eL) (st : List Value) (h : eH), ru 173 15 ls (.ref a :: st) h = gF (h.1 a) 10 9 (fun v => ru 173 18 ls (v :: st) h)) ∧
  (∀ (x0 : Option Value) (v : Int32) (t : eL) (st : List Value) (h : eH), ru 173 18 (x0 :: some (.int v) :: t) st h = ru 173 19 (x0 :: some (.int v) :: t) (.int v :: st) h) ∧
  (∀ (a0 : Nat) (a1 : Int32) (ls : eL) (h : eH), ru 173 19 ls [.int a1, .ref a0] h = cl (den 157 [.ref a0, .int a1] h) (fun v h => ru 173 22 ls (v.toList ++ []) h)) ∧
  (∀ (x : Int32) (ls : eL) (st : List Value) (h : eH), ru 173 22 ls (.int x :: st) h = if x = 0 then ru 173 32 ls st h else ru 173 25 ls st h) ∧
  (∀ (x0 x1 : Option Value) (v : Int32) (t : eL) (st : List Value) (h : eH), ru 173 25 (x0 :: x1 :: some (.int v) :: t) st h = ru 173 26 (x0 :: x1 :: some (.int v) :: t) (.int v :: st) h) ∧
  (∀ (a0 : Int32) (ls : eL) (h : eH), ru 173 26 ls [.int a0] h = cl (den 149 [.int a0] h) (fun v h => ru 173 29 ls (v.toList ++ []) h)) ∧
  (∀ (x : Int32) (ls : eL) (st : List Value) (h : eH), ru 173 29 ls (.int x :: st) h = if x = 0 then ru 173 32 ls st h else ru 173 34 ls st h) ∧
  (∀ (ls : eL) (st : List Value) (h : eH), ru 173 32 ls st h = ru 173 33 ls (.int (nI 0) :: st) h) ∧
  (∀ (x : Int32) (ls : eL) (h : eH), ru 173 33 ls [.int x] h = bo (x == 0 || x == 1) (some (some (.int x), h))) ∧
  (∀ (v : Nat) (t : eL) (st : List Value) (h : eH), ru 173 34 (some (.ref v) :: t) st h = ru 173 35 (some (.ref v) :: t) (.ref v :: st) h) ∧
  (∀ (a : Nat) (ls : eL) (st : List Value) (h : eH), ru 173 35 ls (.ref a :: st) h = gF (h.1 a) 10 9 (fun v => ru 173 38 ls (v :: st) h)) ∧
  (∀ (x0 : Option Value) (v : Int32) (t : eL) (st : List Value) (h : eH), ru 173 38 (x0 :: some (.int v) :: t) st h = ru 173 39 (x0 :: some (.int v) :: t) (.int v :: st) h) ∧
  (∀ (a0 : Nat) (a1 : Int32) (ls : eL) (h : eH), ru 173 39 ls [.int a1, .ref a0] h = cl (den 107 [.ref a0, .int a1] h) (fun v h => ru 173 42 ls (v.toList ++ []) h)) ∧
  (∀ (x : Int32) (ls : eL) (st : List Value) (h : eH), ru 173 42 ls (.int x :: st) h = if x = 0 then ru 173 65 ls st h else ru 173 45 ls st h) ∧
  (∀ (v : Nat) (t : eL) (st : List Value) (h : eH), ru 173 45 (some (.ref v) :: t) st h = ru 173 46 (some (.ref v) :: t) (.ref v :: st) h) ∧
  (∀ (a : Nat) (ls : eL) (st : List Value) (h : eH), ru 173 46 ls (.ref a :: st) h = gF (h.1 a) 10 1 (fun v => ru 173 49 ls (v :: st) h)) ∧
  (∀ (v : Nat) (t : eL) (st : List Value) (h : eH), ru 173 49 (some (.ref v) :: t) st h = ru 173 50 (some (.ref v) :: t) (.ref v :: st) h) ∧
  (∀ (a : Nat) (ls : eL) (st : List Value) (h : eH), ru 173 50 ls (.ref a :: st) h = gF (h.1 a) 10 9 (fun v => ru 173 53 ls (v :: st) h)) ∧
  (∀ (a : Nat) (ls : eL) (st : List Value) (h : eH), ru 173 53 ls (.ref a :: st) h = gF (h.1 a) 6 3 (fun v => ru 173 56 ls (v :: st) h)) ∧
  (∀ (x0 x1 : Option Value) (v : Int32) (t : eL) (st : List Value) (h : eH), ru 173 56 (x0 :: x1 :: some (.int v) :: t) st h = ru 173 57 (x0 :: x1 :: some (.int v) :: t) (.int v :: st) h) ∧
  (∀ (i : Int32) (a : Nat) (ls : eL) (st : List Value) (h : eH), ru 173 57 ls (.int i :: .ref a :: st) h = aQ (h.1 a) i (fun v => ru 173 58 ls (.ref v :: st) h)) ∧
  (∀ (x0 : Option Value) (v : Int32) (t : eL) (st : List Value) (h : eH), ru 173 58 (x0 :: some (.int v) :: t) st h = ru 173 59 (x0 :: some (.int v) :: t) (.int v :: st) h) ∧
  (∀ (i : Int32) (a : Nat) (ls : eL) (st : List Value) (h : eH), ru 173 59 ls (.int i :: .ref a :: st) h = aI (h.1 a) 0 i (fun v => ru 173 60 ls (.int v :: st) h)) ∧
  (∀ (a0 : Nat) (a1 : Int32) (ls : eL) (h : eH), ru 173 60 ls [.int a1, .ref a0] h = cl (den 158 [.ref a0, .int a1] h) (fun v h => ru 173 63 ls (v.toList ++ []) h)) ∧
  (∀ (ls : eL) (st : List Value) (h : eH), ru 173 63 ls st h = ru 173 64 ls (.int (nI 1) :: st) h) ∧
  (∀ (x : Int32) (ls : eL) (h : eH), ru 173 64 ls [.int x] h = bo (x == 0 || x == 1) (some (some (.int x), h))) ∧
  (∀ (v : Nat) (t : eL) (st : List Value) (h : eH), ru 173 65 (some (.ref v) :: t) st h = ru 173 66 (some (.ref v) :: t) (.ref v :: st) h) ∧
  (∀ (a : Nat) (ls : eL) (st : List Value) (h : eH), ru 173 66 ls (.ref a :: st) h = gF (h.1 a) 10 5 (fun v => ru 173 69 ls (v :: st) h)) ∧
  (∀ (v : Nat) (t : eL) (st : List Value) (h : eH), ru 173 69 (some (.ref v) :: t) st h = ru 173 70 (some (.ref v) :: t) (.ref v :: st) h) ∧
  (∀ (a : Nat) (ls : eL) (st : List Value) (h : eH), ru 173 70 ls (.ref a :: st) h = gF (h.1 a) 10 8 (fun v => ru 173 73 ls (v :: st) h)) ∧
  (∀ (v : Nat) (t : eL) (st : List Value) (h : eH), ru 173 73 (some (.ref v) :: t) st h = ru 173 74 (some (.ref v) :: t) (.ref v :: st) h) ∧
  (∀ (a : Nat) (ls : eL) (st : List Value) (h : eH), ru 173 74 ls (.ref a :: st) h = gF (h.1 a) 10 9 (fun v => ru 173 77 ls (v :: st) h)) ∧
  (∀ (a : Nat) (ls : eL) (st : List Value) (h : eH), ru 173 77 ls (.ref a :: st) h = gF (h.1 a) 6 5 (fun v => ru 173 80 ls (v :: st) h)) ∧
  (∀ (x0 : Option Value) (v : Int32) (t : eL) (st : List Value) (h : eH), ru 173 80 (x0 :: some (.int v) :: t) st h = ru 173 81 (x0 :: some (.int v) :: t) (.int v :: st) h) ∧
  (∀ (i : Int32) (a : Nat) (ls : eL) (st : List Value) (h : eH), ru 173 81 ls (.int i :: .ref a :: st) h = aI (h.1 a) 0 i (fun v => ru 173 82 ls (.int v :: st) h)) ∧
  (∀ (v : Nat) (t : eL) (st : List Value) (h : eH), ru 173 82 (some (.ref v) :: t) st h = ru 173 83 (some (.ref v) :: t) (.ref v :: st) h) ∧
  (∀ (a : Nat) (ls : eL) (st : List Value) (h : eH), ru 173 83 ls (.ref a :: st) h = gF (h.1 a) 10 9 (fun v => ru 173 86 ls (v :: st) h)) ∧
  (∀ (a : Nat) (ls : eL) (st : List Value) (h : eH), ru 173 86 ls (.ref a :: st) h = gF (h.1 a) 6 1 (fun v => ru 173 89 ls (v :: st) h)) ∧
  (∀ (x0 x1 : Option Value) (v : Int32) (t : eL) (st : List Value) (h : eH), ru 173 89 (x0 :: x1 :: some (.int v) :: t) st h = ru 173 90 (x0 :: x1 :: some (.int v) :: t) (.int v :: st) h) ∧
  (∀ (x y : Int32) (ls : eL) (st : List Value) (h : eH), ru 173 90 ls (.int y :: .int x :: st) h = ru 173 91 ls (.int (x + y) :: st) h) ∧
  (∀ (a0 : Nat) (a1 : Nat) (a2 : Int32) (a3 : Int32) (ls : eL) (h : eH), ru 173 91 ls [.int a3, .int a2, .ref a1, .ref a0] h = cl (den 126 [.ref a0, .ref a1, .int a2, .int a3] h) (fun v h => ru 173 94 ls (v.toList ++ []) h)) ∧
  (∀ (v : Nat) (t : eL) (st : List Value) (h : eH), ru 173 94 (some (.ref v) :: t) st h = ru 173 95 (some (.ref v) :: t) (.ref v :: st) h) ∧
  (∀ (a : Nat) (ls : eL) (st : List Value) (h : eH), ru 173 95 ls (.ref a :: st) h = gF (h.1 a) 10 1 (fun v => ru 173 98 ls (v :: st) h)) ∧
  (∀ (v : Nat) (t : eL) (st : List Value) (h : eH), ru 173 98 (some (.ref v) :: t) st h = ru 173 99 (some (.ref v) :: t) (.ref v :: st) h) ∧
  (∀ (a : Nat) (ls : eL) (st : List Value) (h : eH), ru 173 99 ls (.ref a :: st) h = gF (h.1 a) 10 8 (fun v => ru 173 102 ls (v :: st) h)) ∧
  (∀ (v : Nat) (t : eL) (st : List Value) (h : eH), ru 173 102 (some (.ref v) :: t) st h = ru 173 103 (some (.ref v) :: t) (.ref v :: st) h) ∧
  (∀ (a : Nat) (ls : eL) (st : List Value) (h : eH), ru 173 103 ls (.ref a :: st) h = gF (h.1 a) 10 5 (fun v => ru 173 106 ls (v :: st) h)) ∧
  (∀ (a : Nat) (ls : eL) (st : List Value) (h : eH), ru 173 106 ls (.ref a :: st) h = gF (h.1 a) 5 11 (fun v => ru 173 109 ls (v :: st) h)) ∧
  (∀ (v : Nat) (t : eL) (st : List Value) (h : eH), ru 173 109 (some (.ref v) :: t) st h = ru 173 110 (some (.ref v) :: t) (.ref v :: st) h) ∧
  (∀ (a : Nat) (ls : eL) (st : List Value) (h : eH), ru 173 110 ls (.ref a :: st) h = gF (h.1 a) 10 2 (fun v => ru 173 113 ls (v :: st) h)) ∧
  (∀ (a : Nat) (ls : eL) (st : List Value) (h : eH), ru 173 113 ls (.ref a :: st) h = gF (h.1 a) 1 0 (fun v => ru 173 116 ls (v :: st) h)) ∧
  (∀ (a0 : Nat) (a1 : Nat) (a2 : Nat) (a3 : Nat) (ls : eL) (h : eH), ru 173 116 ls [.ref a3, .ref a2, .ref a1, .ref a0] h = cl (den 130 [.ref a0, .ref a1, .ref a2, .ref a3] h) (fun v h => ru 173 119 ls (v.toList ++ []) h)) ∧
  (∀ (ls : eL) (st : List Value) (h : eH), ru 173 119 ls st h = ru 173 120 ls (.int (nI 1) :: st) h) ∧
  (∀ (x : Int32) (ls : eL) (h : eH), ru 173 120 ls [.int x] h = bo (x == 0 || x == 1) (some (some (.int x), h))) := ⟨fun v t st h => ru_go rfl rfl,
  fun a0 ls h => ru_inv rfl (by decide) rfl (Nat.le_of_ble_eq_true rfl),
  fun v t st h => ru_go rfl rfl,
  fun a ls st h => ru_getf rfl,
  fun a0 ls h => ru_inv rfl (by decide) rfl (Nat.le_of_ble_eq_true rfl),
  fun x ls st h => ru_if rfl rfl,
  fun v t st h => ru_go rfl rfl,
  fun a ls st h => ru_getf rfl,
  fun x0 v t st h => ru_go rfl rfl,
  fun a0 a1 ls h => ru_inv rfl (by decide) rfl (Nat.le_of_ble_eq_true rfl),
  fun x ls st h => ru_if rfl rfl,
  fun x0 x1 v t st h => ru_go rfl rfl,
  fun a0 ls h => ru_inv rfl (by decide) rfl (Nat.le_of_ble_eq_true rfl),
  fun x ls st h => ru_if rfl rfl,
  fun ls st h => ru_go rfl rfl,
  fun x ls h => ru_bret rfl rfl,
  fun v t st h => ru_go rfl rfl,
  fun a ls st h => ru_getf rfl,
  fun x0 v t st h => ru_go rfl rfl,
  fun a0 a1 ls h => ru_inv rfl (by decide) rfl (Nat.le_of_ble_eq_true rfl),
  fun x ls st h => ru_if rfl rfl,
  fun v t st h => ru_go rfl rfl,
  fun a ls st h => ru_getf rfl,
  fun v t st h => ru_go rfl rfl,
  fun a ls st h => ru_getf rfl,
  fun a ls st h => ru_getf rfl,
  fun x0 x1 v t st h => ru_go rfl rfl,
  fun i a ls st h => ru_aald rfl,
  fun x0 v t st h => ru_go rfl rfl,
  fun i a ls st h => ru_iald rfl,
  fun a0 a1 ls h => ru_inv rfl (by decide) rfl (Nat.le_of_ble_eq_true rfl),
  fun ls st h => ru_go rfl rfl,
  fun x ls h => ru_bret rfl rfl,
  fun v t st h => ru_go rfl rfl,
  fun a ls st h => ru_getf rfl,
  fun v t st h => ru_go rfl rfl,
  fun a ls st h => ru_getf rfl,
  fun v t st h => ru_go rfl rfl,
  fun a ls st h => ru_getf rfl,
  fun a ls st h => ru_getf rfl,
  fun x0 v t st h => ru_go rfl rfl,
  fun i a ls st h => ru_iald rfl,
  fun v t st h => ru_go rfl rfl,
  fun a ls st h => ru_getf rfl,
  fun a ls st h => ru_getf rfl,
  fun x0 x1 v t st h => ru_go rfl rfl,
  fun x y ls st h => ru_go rfl rfl,
  fun a0 a1 a2 a3 ls h => ru_inv rfl (by decide) rfl (Nat.le_of_ble_eq_true rfl),
  fun v t st h => ru_go rfl rfl,
  fun a ls st h => ru_getf rfl,
  fun v t st h => ru_go rfl rfl,
  fun a ls st h => ru_getf rfl,
  fun v t st h => ru_go rfl rfl,
  fun a ls st h => ru_getf rfl,
  fun a ls st h => ru_getf rfl,
  fun v t st h => ru_go rfl rfl,
  fun a ls st h => ru_getf rfl,
  fun a ls st h => ru_getf rfl,
  fun a0 a1 a2 a3 ls h => ru_inv rfl (by decide) rfl (Nat.le_of_ble_eq_true rfl),
  fun ls st h => ru_go rfl rfl,
  fun x ls h => ru_bret rfl rfl⟩
theorem E173 (a0 : Nat) (a1 : Int32) (a2 : Int32) {h : eH} {fs : List Value} (ha : h.1 a0 = .inr (10, fs)) : den 173 [.ref a0, .int a1, .int a2] h = ru 173 0 [some (.ref a0), some (.int a1), some (.int a2)] [] h := den_ob (Nat.le_of_ble_eq_true rfl) ha
/-! 174 X10_shaped -/
set_option maxRecDepth 100000 in
theorem S174 : (∀ (v : Nat) (t : eL) (st : List Value) (h : eH), ru 174 0 (some (.ref v) :: t) st h = ru 174 1 (some (.ref v) :: t) (.ref v :: st) h) ∧
  (∀ (a0 : Nat) (ls : eL) (h : eH), ru 174 1 ls [.ref a0] h = cl (den 156 [.ref a0] h) (fun v h => ru 174 4 ls (v.toList ++ []) h)) ∧
  (∀ (v : Nat) (t : eL) (st : List Value) (h : eH), ru 174 4 (some (.ref v) :: t) st h = ru 174 5 (some (.ref v) :: t) (.ref v :: st) h) ∧
  (∀ (a : Nat) (ls : eL) (st : List Value) (h : eH), ru 174 5 ls (.ref a :: st) h = gF (h.1 a) 10 5 (fun v => ru 174 8 ls (v :: st) h)) ∧
  (∀ (a0 : Nat) (ls : eL) (h : eH), ru 174 8 ls [.ref a0] h = cl (den 132 [.ref a0] h) (fun v h => ru 174 11 ls (v.toList ++ []) h)) ∧
  (∀ (x : Int32) (ls : eL) (st : List Value) (h : eH), ru 174 11 ls (.int x :: st) h = if x = 0 then ru 174 14 ls st h else ru 174 18 ls st h) ∧
  (∀ (ls : eL) (st : List Value) (h : eH), ru 174 14 ls st h = ru 174 15 ls (.int (nI 1) :: st) h) ∧
  (∀ (ls : eL) (st : List Value) (h : eH), ru 174 15 ls st h = ru 174 19 ls st h) ∧
  (∀ (ls : eL) (st : List Value) (h : eH), ru 174 18 ls st h = ru 174 19 ls (.int (nI 0) :: st) h) ∧
  (∀ (x : Int32) (ls : eL) (h : eH), ru 174 19 ls [.int x] h = bo (x == 0 || x == 1) (some (some (.int x), h))) := ⟨fun v t st h => ru_go rfl rfl,
  fun a0 ls h => ru_inv rfl (by decide) rfl (Nat.le_of_ble_eq_true rfl),
  fun v t st h => ru_go rfl rfl,
  fun a ls st h => ru_getf rfl,
  fun a0 ls h => ru_inv rfl (by decide) rfl (Nat.le_of_ble_eq_true rfl),
  fun x ls st h => ru_if rfl rfl,
  fun ls st h => ru_go rfl rfl,
  fun ls st h => ru_go rfl rfl,
  fun ls st h => ru_go rfl rfl,
  fun x ls h => ru_bret rfl rfl⟩
theorem E174 (a0 : Nat) {h : eH} {fs : List Value} (ha : h.1 a0 = .inr (10, fs)) : den 174 [.ref a0] h = ru 174 0 [some (.ref a0)] [] h := den_ob (Nat.le_of_ble_eq_true rfl) ha
/-! 175 X3_fetchGap -/
set_option maxRecDepth 100000 in
theorem S175 : (∀ (x0 x1 : Option Value) (v : Nat) (t : eL) (st : List Value) (h : eH), ru 175 0 (x0 :: x1 :: some (.ref v) :: t) st h = ru 175 1 (x0 :: x1 :: some (.ref v) :: t) (.ref v :: st) h) ∧
  (∀ (x0 : Option Value) (v : Nat) (t : eL) (st : List Value) (h : eH), ru 175 1 (x0 :: some (.ref v) :: t) st h = ru 175 2 (x0 :: some (.ref v) :: t) (.ref v :: st) h) ∧
  (∀ (x0 x1 x2 : Option Value) (v : Int32) (t : eL) (st : List Value) (h : eH), ru 175 2 (x0 :: x1 :: x2 :: some (.int v) :: t) st h = ru 175 3 (x0 :: x1 :: x2 :: some (.int v) :: t) (.int v :: st) h) ∧
  (∀ (x0 x1 x2 x3 : Option Value) (v : Int32) (t : eL) (st : List Value) (h : eH), ru 175 3 (x0 :: x1 :: x2 :: x3 :: some (.int v) :: t) st h = ru 175 5 (x0 :: x1 :: x2 :: x3 :: some (.int v) :: t) (.int v :: st) h) ∧
  (∀ (a0 : Nat) (a1 : Nat) (a2 : Int32) (a3 : Int32) (ls : eL) (h : eH), ru 175 5 ls [.int a3, .int a2, .ref a1, .ref a0] h = cl (den 88 [.ref a0, .ref a1, .int a2, .int a3] h) (fun v h => ru 175 8 ls (v.toList ++ []) h)) ∧
  (∀ (x0 x1 : Option Value) (v : Nat) (t : eL) (st : List Value) (h : eH), ru 175 8 (x0 :: x1 :: some (.ref v) :: t) st h = ru 175 9 (x0 :: x1 :: some (.ref v) :: t) (.ref v :: st) h) ∧
  (∀ (v : Nat) (t : eL) (st : List Value) (h : eH), ru 175 9 (some (.ref v) :: t) st h = ru 175 10 (some (.ref v) :: t) (.ref v :: st) h) ∧
  (∀ (a : Nat) (ls : eL) (st : List Value) (h : eH), ru 175 10 ls (.ref a :: st) h = gF (h.1 a) 3 2 (fun v => ru 175 13 ls (v :: st) h)) ∧
  (∀ (x0 x1 x2 : Option Value) (v : Int32) (t : eL) (st : List Value) (h : eH), ru 175 13 (x0 :: x1 :: x2 :: some (.int v) :: t) st h = ru 175 14 (x0 :: x1 :: x2 :: some (.int v) :: t) (.int v :: st) h) ∧
  (∀ (x0 x1 x2 x3 x4 : Option Value) (v : Int32) (t : eL) (st : List Value) (h : eH), ru 175 14 (x0 :: x1 :: x2 :: x3 :: x4 :: some (.int v) :: t) st h = ru 175 16 (x0 :: x1 :: x2 :: x3 :: x4 :: some (.int v) :: t) (.int v :: st) h) ∧
  (∀ (a0 : Nat) (a1 : Nat) (a2 : Int32) (a3 : Int32) (ls : eL) (h : eH), ru 175 16 ls [.int a3, .int a2, .ref a1, .ref a0] h = cl (den 88 [.ref a0, .ref a1, .int a2, .int a3] h) (fun v h => ru 175 19 ls (v.toList ++ []) h)) ∧
  (∀ (x0 : Option Value) (v : Nat) (t : eL) (st : List Value) (h : eH), ru 175 19 (x0 :: some (.ref v) :: t) st h = ru 175 20 (x0 :: some (.ref v) :: t) (.ref v :: st) h) ∧
  (∀ (v : Nat) (t : eL) (st : List Value) (h : eH), ru 175 20 (some (.ref v) :: t) st h = ru 175 21 (some (.ref v) :: t) (.ref v :: st) h) ∧
  (∀ (a : Nat) (ls : eL) (st : List Value) (h : eH), ru 175 21 ls (.ref a :: st) h = gF (h.1 a) 3 2 (fun v => ru 175 24 ls (v :: st) h)) ∧
  (∀ (ls : eL) (st : List Value) (h : eH), ru 175 24 ls st h = ru 175 25 ls (.int (nI 1) :: st) h) ∧
  (∀ (a0 : Nat) (a1 : Nat) (a2 : Int32) (ls : eL) (h : eH), ru 175 25 ls [.int a2, .ref a1, .ref a0] h = cl (den 99 [.ref a0, .ref a1, .int a2] h) (fun v h => ru 175 28 ls (v.toList ++ []) h)) ∧
  (∀ (ls : eL) (h : eH), ru 175 28 ls [] h = some (none, h)) := ⟨fun x0 x1 v t st h => ru_go rfl rfl,
  fun x0 v t st h => ru_go rfl rfl,
  fun x0 x1 x2 v t st h => ru_go rfl rfl,
  fun x0 x1 x2 x3 v t st h => ru_go rfl rfl,
  fun a0 a1 a2 a3 ls h => ru_inv rfl (by decide) rfl (Nat.le_of_ble_eq_true rfl),
  fun x0 x1 v t st h => ru_go rfl rfl,
  fun v t st h => ru_go rfl rfl,
  fun a ls st h => ru_getf rfl,
  fun x0 x1 x2 v t st h => ru_go rfl rfl,
  fun x0 x1 x2 x3 x4 v t st h => ru_go rfl rfl,
  fun a0 a1 a2 a3 ls h => ru_inv rfl (by decide) rfl (Nat.le_of_ble_eq_true rfl),
  fun x0 v t st h => ru_go rfl rfl,
  fun v t st h => ru_go rfl rfl,
  fun a ls st h => ru_getf rfl,
  fun ls st h => ru_go rfl rfl,
  fun a0 a1 a2 ls h => ru_inv rfl (by decide) rfl (Nat.le_of_ble_eq_true rfl),
  fun ls h => ru_ret rfl rfl⟩
theorem E175 (a0 : Nat) (a1 : Nat) (a2 : Nat) (a3 : Int32) (a4 : Int32) (a5 : Int32) {h : eH} {fs : List Value} (ha : h.1 a0 = .inr (3, fs)) : den 175 [.ref a0, .ref a1, .ref a2, .int a3, .int a4, .int a5] h = ru 175 0 [some (.ref a0), some (.ref a1), some (.ref a2), some (.int a3), some (.int a4), some (.int a5)] [] h := den_ob (Nat.le_of_ble_eq_true rfl) ha
/-! 176 X3_addUp -/
set_option maxRecDepth 100000 in
theorem H176_10 : (∀ (x0 x1 x2 x3 x4 : Option Value) (v : Int32) (t : eL) (st : List Value) (h : eH), ru 176 10 (x0 :: x1 :: x2 :: x3 :: x4 :: some (.int v) :: t) st h = ru 176 12 (x0 :: x1 :: x2 :: x3 :: x4 :: some (.int v) :: t) (.int v :: st) h) := fun x0 x1 x2 x3 x4 v t st h => ru_go rfl rfl
set_option maxRecDepth 100000 in
theorem H176_36 : (∀ (x0 x1 x2 x3 x4 x5 : Option Value) (v : Int32) (t : eL) (st : List Value) (h : eH), ru 176 36 (x0 :: x1 :: x2 :: x3 :: x4 :: x5 :: some (.int v) :: t) st h = ru 176 38 (x0 :: x1 :: x2 :: x3 :: x4 :: x5 :: some (.int v) :: t) (.int v :: st) h) := fun x0 x1 x2 x3 x4 x5 v t st h => ru_go rfl rfl
set_option maxRecDepth 100000 in
theorem H176_159 : (∀ (x0 x1 x2 x3 x4 : Option Value) (v : Int32) (t : eL) (st : List Value) (h : eH), ru 176 159 (x0 :: x1 :: x2 :: x3 :: x4 :: some (.int v) :: t) st h = ru 176 162 (x0 :: x1 :: x2 :: x3 :: eKl x4 :: some (.int (v + 1)) :: t) st h) := fun x0 x1 x2 x3 x4 v t st h => ru_go rfl rfl
set_option maxRecDepth 100000 in
theorem S176 : (∀ (v : Nat) (t : eL) (st : List Value) (h : eH), ru 176 0 (some (.ref v) :: t) st h = ru 176 1 (some (.ref v) :: t) (.ref v :: st) h) ∧
  (∀ (a : Nat) (ls : eL) (st : List Value) (h : eH), ru 176 1 ls (.ref a :: st) h = gF (h.1 a) 3 1 (fun v => ru 176 4 ls (v :: st) h)) ∧
  (∀ (a0 : Nat) (ls : eL) (h : eH), ru 176 4 ls [.ref a0] h = cl (den 82 [.ref a0] h) (fun v h => ru 176 7 ls (v.toList ++ []) h)) ∧
  (∀ (ls : eL) (st : List Value) (h : eH), ru 176 7 ls st h = ru 176 8 ls (.int (nI 0) :: st) h) ∧
  (∀ (x0 x1 x2 x3 x4 x5 : Option Value) (v : Int32) (t : eL) (st : List Value) (h : eH), ru 176 8 (x0 :: x1 :: x2 :: x3 :: x4 :: x5 :: t) (.int v :: st) h = ru 176 10 (x0 :: x1 :: x2 :: x3 :: eKl x4 :: some (.int v) :: t) st h) ∧
  (∀ (x0 : Option Value) (v : Nat) (t : eL) (st : List Value) (h : eH), ru 176 12 (x0 :: some (.ref v) :: t) st h = ru 176 13 (x0 :: some (.ref v) :: t) (.ref v :: st) h) ∧
  (∀ (a : Nat) (ls : eL) (st : List Value) (h : eH), ru 176 13 ls (.ref a :: st) h = gF (h.1 a) 6 2 (fun v => ru 176 16 ls (v :: st) h)) ∧
  (∀ (x y : Int32) (ls : eL) (st : List Value) (h : eH), ru 176 16 ls (.int y :: .int x :: st) h = if y ≤ x then ru 176 165 ls st h else ru 176 19 ls st h) ∧
  (∀ (v : Nat) (t : eL) (st : List Value) (h : eH), ru 176 19 (some (.ref v) :: t) st h = ru 176 20 (some (.ref v) :: t) (.ref v :: st) h) ∧
  (∀ (a : Nat) (ls : eL) (st : List Value) (h : eH), ru 176 20 ls (.ref a :: st) h = gF (h.1 a) 3 5 (fun v => ru 176 23 ls (v :: st) h)) ∧
  (∀ (x0 : Option Value) (v : Nat) (t : eL) (st : List Value) (h : eH), ru 176 23 (x0 :: some (.ref v) :: t) st h = ru 176 24 (x0 :: some (.ref v) :: t) (.ref v :: st) h) ∧
  (∀ (a : Nat) (ls : eL) (st : List Value) (h : eH), ru 176 24 ls (.ref a :: st) h = gF (h.1 a) 6 9 (fun v => ru 176 27 ls (v :: st) h)) ∧
  (∀ (x0 x1 x2 x3 x4 : Option Value) (v : Int32) (t : eL) (st : List Value) (h : eH), ru 176 27 (x0 :: x1 :: x2 :: x3 :: x4 :: some (.int v) :: t) st h = ru 176 29 (x0 :: x1 :: x2 :: x3 :: x4 :: some (.int v) :: t) (.int v :: st) h) ∧
  (∀ (i : Int32) (a : Nat) (ls : eL) (st : List Value) (h : eH), ru 176 29 ls (.int i :: .ref a :: st) h = aI (h.1 a) 0 i (fun v => ru 176 30 ls (.int v :: st) h)) ∧
  (∀ (a0 : Nat) (a1 : Int32) (ls : eL) (h : eH), ru 176 30 ls [.int a1, .ref a0] h = cl (den 112 [.ref a0, .int a1] h) (fun v h => ru 176 33 ls (v.toList ++ []) h)) ∧
  (∀ (ls : eL) (st : List Value) (h : eH), ru 176 33 ls st h = ru 176 34 ls (.int (nI 0) :: st) h) ∧
  (∀ (x0 x1 x2 x3 x4 x5 x6 : Option Value) (v : Int32) (t : eL) (st : List Value) (h : eH), ru 176 34 (x0 :: x1 :: x2 :: x3 :: x4 :: x5 :: x6 :: t) (.int v :: st) h = ru 176 36 (x0 :: x1 :: x2 :: x3 :: x4 :: eKl x5 :: some (.int v) :: t) st h) ∧
  (∀ (ls : eL) (st : List Value) (h : eH), ru 176 38 ls st h = ru 176 39 ls (.int (nI 2) :: st) h) ∧
  (∀ (x y : Int32) (ls : eL) (st : List Value) (h : eH), ru 176 39 ls (.int y :: .int x :: st) h = if y ≤ x then ru 176 159 ls st h else ru 176 42 ls st h) ∧
  (∀ (v : Nat) (t : eL) (st : List Value) (h : eH), ru 176 42 (some (.ref v) :: t) st h = ru 176 43 (some (.ref v) :: t) (.ref v :: st) h) ∧
  (∀ (a : Nat) (ls : eL) (st : List Value) (h : eH), ru 176 43 ls (.ref a :: st) h = gF (h.1 a) 3 5 (fun v => ru 176 46 ls (v :: st) h)) ∧
  (∀ (a : Nat) (ls : eL) (st : List Value) (h : eH), ru 176 46 ls (.ref a :: st) h = gF (h.1 a) 9 1 (fun v => ru 176 49 ls (v :: st) h)) ∧
  (∀ (x : Int32) (ls : eL) (st : List Value) (h : eH), ru 176 49 ls (.int x :: st) h = if x ≤ 0 then ru 176 159 ls st h else ru 176 52 ls st h) ∧
  (∀ (x0 : Option Value) (v : Nat) (t : eL) (st : List Value) (h : eH), ru 176 52 (x0 :: some (.ref v) :: t) st h = ru 176 53 (x0 :: some (.ref v) :: t) (.ref v :: st) h) ∧
  (∀ (x0 : Option Value) (v : Nat) (t : eL) (st : List Value) (h : eH), ru 176 53 (x0 :: some (.ref v) :: t) st h = ru 176 54 (x0 :: some (.ref v) :: t) (.ref v :: st) h) ∧
  (∀ (a : Nat) (ls : eL) (st : List Value) (h : eH), ru 176 54 ls (.ref a :: st) h = gF (h.1 a) 6 6 (fun v => ru 176 57 ls (v :: st) h)) ∧
  (∀ (x0 x1 x2 x3 x4 : Option Value) (v : Int32) (t : eL) (st : List Value) (h : eH), ru 176 57 (x0 :: x1 :: x2 :: x3 :: x4 :: some (.int v) :: t) st h = ru 176 59 (x0 :: x1 :: x2 :: x3 :: x4 :: some (.int v) :: t) (.int v :: st) h) ∧
  (∀ (i : Int32) (a : Nat) (ls : eL) (st : List Value) (h : eH), ru 176 59 ls (.int i :: .ref a :: st) h = aI (h.1 a) 0 i (fun v => ru 176 60 ls (.int v :: st) h)) ∧
  (∀ (x0 x1 x2 x3 x4 x5 : Option Value) (v : Int32) (t : eL) (st : List Value) (h : eH), ru 176 60 (x0 :: x1 :: x2 :: x3 :: x4 :: x5 :: some (.int v) :: t) st h = ru 176 62 (x0 :: x1 :: x2 :: x3 :: x4 :: x5 :: some (.int v) :: t) (.int v :: st) h) ∧
  (∀ (a0 : Nat) (a1 : Int32) (a2 : Int32) (ls : eL) (h : eH), ru 176 62 ls [.int a2, .int a1, .ref a0] h = cl (den 108 [.ref a0, .int a1, .int a2] h) (fun v h => ru 176 65 ls (v.toList ++ []) h)) ∧
  (∀ (x0 x1 x2 x3 x4 x5 x6 x7 : Option Value) (v : Int32) (t : eL) (st : List Value) (h : eH), ru 176 65 (x0 :: x1 :: x2 :: x3 :: x4 :: x5 :: x6 :: x7 :: t) (.int v :: st) h = ru 176 67 (x0 :: x1 :: x2 :: x3 :: x4 :: x5 :: eKl x6 :: some (.int v) :: t) st h) ∧
  (∀ (x0 : Option Value) (v : Nat) (t : eL) (st : List Value) (h : eH), ru 176 67 (x0 :: some (.ref v) :: t) st h = ru 176 68 (x0 :: some (.ref v) :: t) (.ref v :: st) h) ∧
  (∀ (x0 : Option Value) (v : Nat) (t : eL) (st : List Value) (h : eH), ru 176 68 (x0 :: some (.ref v) :: t) st h = ru 176 69 (x0 :: some (.ref v) :: t) (.ref v :: st) h) ∧
  (∀ (a : Nat) (ls : eL) (st : List Value) (h : eH), ru 176 69 ls (.ref a :: st) h = gF (h.1 a) 6 7 (fun v => ru 176 72 ls (v :: st) h)) ∧
  (∀ (x0 x1 x2 x3 x4 : Option Value) (v : Int32) (t : eL) (st : List Value) (h : eH), ru 176 72 (x0 :: x1 :: x2 :: x3 :: x4 :: some (.int v) :: t) st h = ru 176 74 (x0 :: x1 :: x2 :: x3 :: x4 :: some (.int v) :: t) (.int v :: st) h) ∧
  (∀ (i : Int32) (a : Nat) (ls : eL) (st : List Value) (h : eH), ru 176 74 ls (.int i :: .ref a :: st) h = aI (h.1 a) 0 i (fun v => ru 176 75 ls (.int v :: st) h)) ∧
  (∀ (x0 x1 x2 x3 x4 x5 : Option Value) (v : Int32) (t : eL) (st : List Value) (h : eH), ru 176 75 (x0 :: x1 :: x2 :: x3 :: x4 :: x5 :: some (.int v) :: t) st h = ru 176 77 (x0 :: x1 :: x2 :: x3 :: x4 :: x5 :: some (.int v) :: t) (.int v :: st) h) ∧
  (∀ (a0 : Nat) (a1 : Int32) (a2 : Int32) (ls : eL) (h : eH), ru 176 77 ls [.int a2, .int a1, .ref a0] h = cl (den 108 [.ref a0, .int a1, .int a2] h) (fun v h => ru 176 80 ls (v.toList ++ []) h)) ∧
  (∀ (x0 x1 x2 x3 x4 x5 x6 x7 x8 : Option Value) (v : Int32) (t : eL) (st : List Value) (h : eH), ru 176 80 (x0 :: x1 :: x2 :: x3 :: x4 :: x5 :: x6 :: x7 :: x8 :: t) (.int v :: st) h = ru 176 82 (x0 :: x1 :: x2 :: x3 :: x4 :: x5 :: x6 :: eKl x7 :: some (.int v) :: t) st h) ∧
  (∀ (v : Nat) (t : eL) (st : List Value) (h : eH), ru 176 82 (some (.ref v) :: t) st h = ru 176 83 (some (.ref v) :: t) (.ref v :: st) h) ∧
  (∀ (v : Nat) (t : eL) (st : List Value) (h : eH), ru 176 83 (some (.ref v) :: t) st h = ru 176 84 (some (.ref v) :: t) (.ref v :: st) h) ∧
  (∀ (a : Nat) (ls : eL) (st : List Value) (h : eH), ru 176 84 ls (.ref a :: st) h = gF (h.1 a) 3 3 (fun v => ru 176 87 ls (v :: st) h)) ∧
  (∀ (x0 x1 : Option Value) (v : Nat) (t : eL) (st : List Value) (h : eH), ru 176 87 (x0 :: x1 :: some (.ref v) :: t) st h = ru 176 88 (x0 :: x1 :: some (.ref v) :: t) (.ref v :: st) h) ∧
  (∀ (x0 x1 x2 : Option Value) (v : Int32) (t : eL) (st : List Value) (h : eH), ru 176 88 (x0 :: x1 :: x2 :: some (.int v) :: t) st h = ru 176 89 (x0 :: x1 :: x2 :: some (.int v) :: t) (.int v :: st) h) ∧
  (∀ (x0 x1 x2 x3 x4 x5 x6 : Option Value) (v : Int32) (t : eL) (st : List Value) (h : eH), ru 176 89 (x0 :: x1 :: x2 :: x3 :: x4 :: x5 :: x6 :: some (.int v) :: t) st h = ru 176 91 (x0 :: x1 :: x2 :: x3 :: x4 :: x5 :: x6 :: some (.int v) :: t) (.int v :: st) h) ∧
  (∀ (x0 x1 x2 x3 x4 x5 x6 x7 : Option Value) (v : Int32) (t : eL) (st : List Value) (h : eH), ru 176 91 (x0 :: x1 :: x2 :: x3 :: x4 :: x5 :: x6 :: x7 :: some (.int v) :: t) st h = ru 176 93 (x0 :: x1 :: x2 :: x3 :: x4 :: x5 :: x6 :: x7 :: some (.int v) :: t) (.int v :: st) h) ∧
  (∀ (a0 : Nat) (a1 : Nat) (a2 : Nat) (a3 : Int32) (a4 : Int32) (a5 : Int32) (ls : eL) (h : eH), ru 176 93 ls [.int a5, .int a4, .int a3, .ref a2, .ref a1, .ref a0] h = cl (den 175 [.ref a0, .ref a1, .ref a2, .int a3, .int a4, .int a5] h) (fun v h => ru 176 96 ls (v.toList ++ []) h)) ∧
  (∀ (v : Nat) (t : eL) (st : List Value) (h : eH), ru 176 96 (some (.ref v) :: t) st h = ru 176 97 (some (.ref v) :: t) (.ref v :: st) h) ∧
  (∀ (v : Nat) (t : eL) (st : List Value) (h : eH), ru 176 97 (some (.ref v) :: t) st h = ru 176 98 (some (.ref v) :: t) (.ref v :: st) h) ∧
  (∀ (a : Nat) (ls : eL) (st : List Value) (h : eH), ru 176 98 ls (.ref a :: st) h = gF (h.1 a) 3 4 (fun v => ru 176 101 ls (v :: st) h)) ∧
  (∀ (x0 x1 : Option Value) (v : Nat) (t : eL) (st : List Value) (h : eH), ru 176 101 (x0 :: x1 :: some (.ref v) :: t) st h = ru 176 102 (x0 :: x1 :: some (.ref v) :: t) (.ref v :: st) h) ∧
  (∀ (x0 x1 x2 x3 : Option Value) (v : Int32) (t : eL) (st : List Value) (h : eH), ru 176 102 (x0 :: x1 :: x2 :: x3 :: some (.int v) :: t) st h = ru 176 104 (x0 :: x1 :: x2 :: x3 :: some (.int v) :: t) (.int v :: st) h) ∧
  (∀ (x0 x1 x2 x3 x4 x5 x6 : Option Value) (v : Int32) (t : eL) (st : List Value) (h : eH), ru 176 104 (x0 :: x1 :: x2 :: x3 :: x4 :: x5 :: x6 :: some (.int v) :: t) st h = ru 176 106 (x0 :: x1 :: x2 :: x3 :: x4 :: x5 :: x6 :: some (.int v) :: t) (.int v :: st) h) ∧
  (∀ (x0 x1 x2 x3 x4 x5 x6 x7 : Option Value) (v : Int32) (t : eL) (st : List Value) (h : eH), ru 176 106 (x0 :: x1 :: x2 :: x3 :: x4 :: x5 :: x6 :: x7 :: some (.int v) :: t) st h = ru 176 108 (x0 :: x1 :: x2 :: x3 :: x4 :: x5 :: x6 :: x7 :: some (.int v) :: t) (.int v :: st) h) ∧
  (∀ (a0 : Nat) (a1 : Nat) (a2 : Nat) (a3 : Int32) (a4 : Int32) (a5 : Int32) (ls : eL) (h : eH), ru 176 108 ls [.int a5, .int a4, .int a3, .ref a2, .ref a1, .ref a0] h = cl (den 175 [.ref a0, .ref a1, .ref a2, .int a3, .int a4, .int a5] h) (fun v h => ru 176 111 ls (v.toList ++ []) h)) ∧
  (∀ (v : Nat) (t : eL) (st : List Value) (h : eH), ru 176 111 (some (.ref v) :: t) st h = ru 176 112 (some (.ref v) :: t) (.ref v :: st) h) ∧
  (∀ (a : Nat) (ls : eL) (st : List Value) (h : eH), ru 176 112 ls (.ref a :: st) h = gF (h.1 a) 3 2 (fun v => ru 176 115 ls (v :: st) h)) ∧
  (∀ (v : Nat) (t : eL) (st : List Value) (h : eH), ru 176 115 (some (.ref v) :: t) st h = ru 176 116 (some (.ref v) :: t) (.ref v :: st) h) ∧
  (∀ (a : Nat) (ls : eL) (st : List Value) (h : eH), ru 176 116 ls (.ref a :: st) h = gF (h.1 a) 3 3 (fun v => ru 176 119 ls (v :: st) h)) ∧
  (∀ (v : Nat) (t : eL) (st : List Value) (h : eH), ru 176 119 (some (.ref v) :: t) st h = ru 176 120 (some (.ref v) :: t) (.ref v :: st) h) ∧
  (∀ (a : Nat) (ls : eL) (st : List Value) (h : eH), ru 176 120 ls (.ref a :: st) h = gF (h.1 a) 3 4 (fun v => ru 176 123 ls (v :: st) h)) ∧
  (∀ (a0 : Nat) (a1 : Nat) (a2 : Nat) (ls : eL) (h : eH), ru 176 123 ls [.ref a2, .ref a1, .ref a0] h = cl (den 96 [.ref a0, .ref a1, .ref a2] h) (fun v h => ru 176 126 ls (v.toList ++ []) h)) ∧
  (∀ (v : Nat) (t : eL) (st : List Value) (h : eH), ru 176 126 (some (.ref v) :: t) st h = ru 176 127 (some (.ref v) :: t) (.ref v :: st) h) ∧
  (∀ (a : Nat) (ls : eL) (st : List Value) (h : eH), ru 176 127 ls (.ref a :: st) h = gF (h.1 a) 3 3 (fun v => ru 176 130 ls (v :: st) h)) ∧
  (∀ (v : Nat) (t : eL) (st : List Value) (h : eH), ru 176 130 (some (.ref v) :: t) st h = ru 176 131 (some (.ref v) :: t) (.ref v :: st) h) ∧
  (∀ (a : Nat) (ls : eL) (st : List Value) (h : eH), ru 176 131 ls (.ref a :: st) h = gF (h.1 a) 3 2 (fun v => ru 176 134 ls (v :: st) h)) ∧
  (∀ (v : Nat) (t : eL) (st : List Value) (h : eH), ru 176 134 (some (.ref v) :: t) st h = ru 176 135 (some (.ref v) :: t) (.ref v :: st) h) ∧
  (∀ (a : Nat) (ls : eL) (st : List Value) (h : eH), ru 176 135 ls (.ref a :: st) h = gF (h.1 a) 3 5 (fun v => ru 176 138 ls (v :: st) h)) ∧
  (∀ (a0 : Nat) (a1 : Nat) (a2 : Nat) (ls : eL) (h : eH), ru 176 138 ls [.ref a2, .ref a1, .ref a0] h = cl (den 96 [.ref a0, .ref a1, .ref a2] h) (fun v h => ru 176 141 ls (v.toList ++ []) h)) ∧
  (∀ (v : Nat) (t : eL) (st : List Value) (h : eH), ru 176 141 (some (.ref v) :: t) st h = ru 176 142 (some (.ref v) :: t) (.ref v :: st) h) ∧
  (∀ (a : Nat) (ls : eL) (st : List Value) (h : eH), ru 176 142 ls (.ref a :: st) h = gF (h.1 a) 3 1 (fun v => ru 176 145 ls (v :: st) h)) ∧
  (∀ (v : Nat) (t : eL) (st : List Value) (h : eH), ru 176 145 (some (.ref v) :: t) st h = ru 176 146 (some (.ref v) :: t) (.ref v :: st) h) ∧
  (∀ (a : Nat) (ls : eL) (st : List Value) (h : eH), ru 176 146 ls (.ref a :: st) h = gF (h.1 a) 3 3 (fun v => ru 176 149 ls (v :: st) h)) ∧
  (∀ (ls : eL) (st : List Value) (h : eH), ru 176 149 ls st h = ru 176 150 ls (.int (nI 0) :: st) h) ∧
  (∀ (a0 : Nat) (a1 : Nat) (a2 : Int32) (ls : eL) (h : eH), ru 176 150 ls [.int a2, .ref a1, .ref a0] h = cl (den 99 [.ref a0, .ref a1, .int a2] h) (fun v h => ru 176 153 ls (v.toList ++ []) h)) ∧
  (∀ (x0 x1 x2 x3 x4 x5 : Option Value) (v : Int32) (t : eL) (st : List Value) (h : eH), ru 176 153 (x0 :: x1 :: x2 :: x3 :: x4 :: x5 :: some (.int v) :: t) st h = ru 176 156 (x0 :: x1 :: x2 :: x3 :: x4 :: eKl x5 :: some (.int (v + 1)) :: t) st h) ∧
  (∀ (ls : eL) (st : List Value) (h : eH), ru 176 156 ls st h = ru 176 36 ls st h) ∧
  (∀ (ls : eL) (st : List Value) (h : eH), ru 176 162 ls st h = ru 176 10 ls st h) ∧
  (∀ (ls : eL) (h : eH), ru 176 165 ls [] h = some (none, h)) := ⟨fun v t st h => ru_go rfl rfl,
  fun a ls st h => ru_getf rfl,
  fun a0 ls h => ru_inv rfl (by decide) rfl (Nat.le_of_ble_eq_true rfl),
  fun ls st h => ru_go rfl rfl,
  fun x0 x1 x2 x3 x4 x5 v t st h => ru_go rfl rfl,
  fun x0 v t st h => ru_go rfl rfl,
  fun a ls st h => ru_getf rfl,
  fun x y ls st h => ru_if rfl rfl,
  fun v t st h => ru_go rfl rfl,
  fun a ls st h => ru_getf rfl,
  fun x0 v t st h => ru_go rfl rfl,
  fun a ls st h => ru_getf rfl,
  fun x0 x1 x2 x3 x4 v t st h => ru_go rfl rfl,
  fun i a ls st h => ru_iald rfl,
  fun a0 a1 ls h => ru_inv rfl (by decide) rfl (Nat.le_of_ble_eq_true rfl),
  fun ls st h => ru_go rfl rfl,
  fun x0 x1 x2 x3 x4 x5 x6 v t st h => ru_go rfl rfl,
  fun ls st h => ru_go rfl rfl,
  fun x y ls st h => ru_if rfl rfl,
  fun v t st h => ru_go rfl rfl,
  fun a ls st h => ru_getf rfl,
  fun a ls st h => ru_getf rfl,
  fun x ls st h => ru_if rfl rfl,
  fun x0 v t st h => ru_go rfl rfl,
  fun x0 v t st h => ru_go rfl rfl,
  fun a ls st h => ru_getf rfl,
  fun x0 x1 x2 x3 x4 v t st h => ru_go rfl rfl,
  fun i a ls st h => ru_iald rfl,
  fun x0 x1 x2 x3 x4 x5 v t st h => ru_go rfl rfl,
  fun a0 a1 a2 ls h => ru_inv rfl (by decide) rfl (Nat.le_of_ble_eq_true rfl),
  fun x0 x1 x2 x3 x4 x5 x6 x7 v t st h => ru_go rfl rfl,
  fun x0 v t st h => ru_go rfl rfl,
  fun x0 v t st h => ru_go rfl rfl,
  fun a ls st h => ru_getf rfl,
  fun x0 x1 x2 x3 x4 v t st h => ru_go rfl rfl,
  fun i a ls st h => ru_iald rfl,
  fun x0 x1 x2 x3 x4 x5 v t st h => ru_go rfl rfl,
  fun a0 a1 a2 ls h => ru_inv rfl (by decide) rfl (Nat.le_of_ble_eq_true rfl),
  fun x0 x1 x2 x3 x4 x5 x6 x7 x8 v t st h => ru_go rfl rfl,
  fun v t st h => ru_go rfl rfl,
  fun v t st h => ru_go rfl rfl,
  fun a ls st h => ru_getf rfl,
  fun x0 x1 v t st h => ru_go rfl rfl,
  fun x0 x1 x2 v t st h => ru_go rfl rfl,
  fun x0 x1 x2 x3 x4 x5 x6 v t st h => ru_go rfl rfl,
  fun x0 x1 x2 x3 x4 x5 x6 x7 v t st h => ru_go rfl rfl,
  fun a0 a1 a2 a3 a4 a5 ls h => ru_inv rfl (by decide) rfl (Nat.le_of_ble_eq_true rfl),
  fun v t st h => ru_go rfl rfl,
  fun v t st h => ru_go rfl rfl,
  fun a ls st h => ru_getf rfl,
  fun x0 x1 v t st h => ru_go rfl rfl,
  fun x0 x1 x2 x3 v t st h => ru_go rfl rfl,
  fun x0 x1 x2 x3 x4 x5 x6 v t st h => ru_go rfl rfl,
  fun x0 x1 x2 x3 x4 x5 x6 x7 v t st h => ru_go rfl rfl,
  fun a0 a1 a2 a3 a4 a5 ls h => ru_inv rfl (by decide) rfl (Nat.le_of_ble_eq_true rfl),
  fun v t st h => ru_go rfl rfl,
  fun a ls st h => ru_getf rfl,
  fun v t st h => ru_go rfl rfl,
  fun a ls st h => ru_getf rfl,
  fun v t st h => ru_go rfl rfl,
  fun a ls st h => ru_getf rfl,
  fun a0 a1 a2 ls h => ru_inv rfl (by decide) rfl (Nat.le_of_ble_eq_true rfl),
  fun v t st h => ru_go rfl rfl,
  fun a ls st h => ru_getf rfl,
  fun v t st h => ru_go rfl rfl,
  fun a ls st h => ru_getf rfl,
  fun v t st h => ru_go rfl rfl,
  fun a ls st h => ru_getf rfl,
  fun a0 a1 a2 ls h => ru_inv rfl (by decide) rfl (Nat.le_of_ble_eq_true rfl),
  fun v t st h => ru_go rfl rfl,
  fun a ls st h => ru_getf rfl,
  fun v t st h => ru_go rfl rfl,
  fun a ls st h => ru_getf rfl,
  fun ls st h => ru_go rfl rfl,
  fun a0 a1 a2 ls h => ru_inv rfl (by decide) rfl (Nat.le_of_ble_eq_true rfl),
  fun x0 x1 x2 x3 x4 x5 v t st h => ru_go rfl rfl,
  fun ls st h => ru_go rfl rfl,
  fun ls st h => ru_go rfl rfl,
  fun ls h => ru_ret rfl rfl⟩
theorem E176 (a0 : Nat) (a1 : Nat) (a2 : Nat) (a3 : Int32) (a4 : Int32) {h : eH} {fs : List Value} (ha : h.1 a0 = .inr (3, fs)) : den 176 [.ref a0, .ref a1, .ref a2, .int a3, .int a4] h = ru 176 0 [some (.ref a0), some (.ref a1), some (.ref a2), some (.int a3), some (.int a4), none, none, none, none] [] h := den_ob (Nat.le_of_ble_eq_true rfl) ha
/-! 177 X3_isAboveNought -/
set_option maxRecDepth 100000 in
theorem H177_18 : (∀ (x0 x1 x2 x3 : Option Value) (v : Int32) (t : eL) (st : List Value) (h : eH), ru 177 18 (x0 :: x1 :: x2 :: x3 :: some (.int v) :: t) st h = ru 177 20 (x0 :: x1 :: x2 :: x3 :: some (.int v) :: t) (.int v :: st) h) := fun x0 x1 x2 x3 v t st h => ru_go rfl rfl
set_option maxRecDepth 100000 in
theorem H177_27 : (∀ (x0 x1 x2 x3 x4 : Option Value) (v : Int32) (t : eL) (st : List Value) (h : eH), ru 177 27 (x0 :: x1 :: x2 :: x3 :: x4 :: some (.int v) :: t) st h = ru 177 29 (x0 :: x1 :: x2 :: x3 :: x4 :: some (.int v) :: t) (.int v :: st) h) := fun x0 x1 x2 x3 x4 v t st h => ru_go rfl rfl
set_option maxRecDepth 100000 in
theorem H177_80 : (∀ (x0 x1 x2 x3 : Option Value) (v : Int32) (t : eL) (st : List Value) (h : eH), ru 177 80 (x0 :: x1 :: x2 :: x3 :: some (.int v) :: t) st h = ru 177 83 (x0 :: x1 :: x2 :: eKl x3 :: some (.int (v + 1)) :: t) st h) := fun x0 x1 x2 x3 v t st h => ru_go rfl rfl
set_option maxRecDepth 100000 in
theorem H177_86 : (∀ (v : Nat) (t : eL) (st : List Value) (h : eH), ru 177 86 (some (.ref v) :: t) st h = ru 177 87 (some (.ref v) :: t) (.ref v :: st) h) := fun v t st h => ru_go rfl rfl
set_option maxRecDepth 100000 in
theorem S177 : (∀ (x0 x1 : Option Value) (v : Nat) (t : eL) (st : List Value) (h : eH), ru 177 0 (x0 :: x1 :: some (.ref v) :: t) st h = ru 177 1 (x0 :: x1 :: some (.ref v) :: t) (.ref v :: st) h) ∧
  (∀ (a0 : Nat) (ls : eL) (h : eH), ru 177 1 ls [.ref a0] h = cl (den 132 [.ref a0] h) (fun v h => ru 177 4 ls (v.toList ++ []) h)) ∧
  (∀ (x0 x1 x2 x3 : Option Value) (v : Int32) (t : eL) (st : List Value) (h : eH), ru 177 4 (x0 :: x1 :: x2 :: x3 :: t) (.int v :: st) h = ru 177 5 (x0 :: x1 :: eKl x2 :: some (.int v) :: t) st h) ∧
  (∀ (v : Nat) (t : eL) (st : List Value) (h : eH), ru 177 5 (some (.ref v) :: t) st h = ru 177 6 (some (.ref v) :: t) (.ref v :: st) h) ∧
  (∀ (a : Nat) (ls : eL) (st : List Value) (h : eH), ru 177 6 ls (.ref a :: st) h = gF (h.1 a) 3 0 (fun v => ru 177 9 ls (v :: st) h)) ∧
  (∀ (x0 x1 x2 : Option Value) (v : Int32) (t : eL) (st : List Value) (h : eH), ru 177 9 (x0 :: x1 :: x2 :: some (.int v) :: t) st h = ru 177 10 (x0 :: x1 :: x2 :: some (.int v) :: t) (.int v :: st) h) ∧
  (∀ (x0 x1 x2 : Option Value) (v : Int32) (t : eL) (st : List Value) (h : eH), ru 177 10 (x0 :: x1 :: x2 :: some (.int v) :: t) st h = ru 177 11 (x0 :: x1 :: x2 :: some (.int v) :: t) (.int v :: st) h) ∧
  (∀ (ls : eL) (st : List Value) (h : eH), ru 177 11 ls st h = ru 177 12 ls (.int (nI 0) :: st) h) ∧
  (∀ (a0 : Nat) (a1 : Int32) (a2 : Int32) (a3 : Int32) (ls : eL) (h : eH), ru 177 12 ls [.int a3, .int a2, .int a1, .ref a0] h = cl (den 106 [.ref a0, .int a1, .int a2, .int a3] h) (fun v h => ru 177 15 ls (v.toList ++ []) h)) ∧
  (∀ (ls : eL) (st : List Value) (h : eH), ru 177 15 ls st h = ru 177 16 ls (.int (nI 0) :: st) h) ∧
  (∀ (x0 x1 x2 x3 x4 : Option Value) (v : Int32) (t : eL) (st : List Value) (h : eH), ru 177 16 (x0 :: x1 :: x2 :: x3 :: x4 :: t) (.int v :: st) h = ru 177 18 (x0 :: x1 :: x2 :: eKl x3 :: some (.int v) :: t) st h) ∧
  (∀ (x0 x1 x2 : Option Value) (v : Int32) (t : eL) (st : List Value) (h : eH), ru 177 20 (x0 :: x1 :: x2 :: some (.int v) :: t) st h = ru 177 21 (x0 :: x1 :: x2 :: some (.int v) :: t) (.int v :: st) h) ∧
  (∀ (x y : Int32) (ls : eL) (st : List Value) (h : eH), ru 177 21 ls (.int y :: .int x :: st) h = if y ≤ x then ru 177 86 ls st h else ru 177 24 ls st h) ∧
  (∀ (ls : eL) (st : List Value) (h : eH), ru 177 24 ls st h = ru 177 25 ls (.int (nI 0) :: st) h) ∧
  (∀ (x0 x1 x2 x3 x4 x5 : Option Value) (v : Int32) (t : eL) (st : List Value) (h : eH), ru 177 25 (x0 :: x1 :: x2 :: x3 :: x4 :: x5 :: t) (.int v :: st) h = ru 177 27 (x0 :: x1 :: x2 :: x3 :: eKl x4 :: some (.int v) :: t) st h) ∧
  (∀ (x0 x1 x2 x3 : Option Value) (v : Int32) (t : eL) (st : List Value) (h : eH), ru 177 29 (x0 :: x1 :: x2 :: x3 :: some (.int v) :: t) st h = ru 177 31 (x0 :: x1 :: x2 :: x3 :: some (.int v) :: t) (.int v :: st) h) ∧
  (∀ (x y : Int32) (ls : eL) (st : List Value) (h : eH), ru 177 31 ls (.int y :: .int x :: st) h = if y < x then ru 177 80 ls st h else ru 177 34 ls st h) ∧
  (∀ (v : Nat) (t : eL) (st : List Value) (h : eH), ru 177 34 (some (.ref v) :: t) st h = ru 177 35 (some (.ref v) :: t) (.ref v :: st) h) ∧
  (∀ (x0 : Option Value) (v : Nat) (t : eL) (st : List Value) (h : eH), ru 177 35 (x0 :: some (.ref v) :: t) st h = ru 177 36 (x0 :: some (.ref v) :: t) (.ref v :: st) h) ∧
  (∀ (x0 x1 : Option Value) (v : Nat) (t : eL) (st : List Value) (h : eH), ru 177 36 (x0 :: x1 :: some (.ref v) :: t) st h = ru 177 37 (x0 :: x1 :: some (.ref v) :: t) (.ref v :: st) h) ∧
  (∀ (x0 x1 x2 x3 : Option Value) (v : Int32) (t : eL) (st : List Value) (h : eH), ru 177 37 (x0 :: x1 :: x2 :: x3 :: some (.int v) :: t) st h = ru 177 39 (x0 :: x1 :: x2 :: x3 :: some (.int v) :: t) (.int v :: st) h) ∧
  (∀ (x0 x1 x2 x3 x4 : Option Value) (v : Int32) (t : eL) (st : List Value) (h : eH), ru 177 39 (x0 :: x1 :: x2 :: x3 :: x4 :: some (.int v) :: t) st h = ru 177 41 (x0 :: x1 :: x2 :: x3 :: x4 :: some (.int v) :: t) (.int v :: st) h) ∧
  (∀ (a0 : Nat) (a1 : Nat) (a2 : Nat) (a3 : Int32) (a4 : Int32) (ls : eL) (h : eH), ru 177 41 ls [.int a4, .int a3, .ref a2, .ref a1, .ref a0] h = cl (den 176 [.ref a0, .ref a1, .ref a2, .int a3, .int a4] h) (fun v h => ru 177 44 ls (v.toList ++ []) h)) ∧
  (∀ (v : Nat) (t : eL) (st : List Value) (h : eH), ru 177 44 (some (.ref v) :: t) st h = ru 177 45 (some (.ref v) :: t) (.ref v :: st) h) ∧
  (∀ (a : Nat) (ls : eL) (st : List Value) (h : eH), ru 177 45 ls (.ref a :: st) h = gF (h.1 a) 3 0 (fun v => ru 177 48 ls (v :: st) h)) ∧
  (∀ (x0 x1 x2 x3 : Option Value) (v : Int32) (t : eL) (st : List Value) (h : eH), ru 177 48 (x0 :: x1 :: x2 :: x3 :: some (.int v) :: t) st h = ru 177 50 (x0 :: x1 :: x2 :: x3 :: some (.int v) :: t) (.int v :: st) h) ∧
  (∀ (x0 x1 x2 x3 x4 : Option Value) (v : Int32) (t : eL) (st : List Value) (h : eH), ru 177 50 (x0 :: x1 :: x2 :: x3 :: x4 :: some (.int v) :: t) st h = ru 177 52 (x0 :: x1 :: x2 :: x3 :: x4 :: some (.int v) :: t) (.int v :: st) h) ∧
  (∀ (v : Nat) (t : eL) (st : List Value) (h : eH), ru 177 52 (some (.ref v) :: t) st h = ru 177 53 (some (.ref v) :: t) (.ref v :: st) h) ∧
  (∀ (a : Nat) (ls : eL) (st : List Value) (h : eH), ru 177 53 ls (.ref a :: st) h = gF (h.1 a) 3 1 (fun v => ru 177 56 ls (v :: st) h)) ∧
  (∀ (a0 : Nat) (a1 : Int32) (a2 : Int32) (a3 : Nat) (ls : eL) (h : eH), ru 177 56 ls [.ref a3, .int a2, .int a1, .ref a0] h = cl (den 114 [.ref a0, .int a1, .int a2, .ref a3] h) (fun v h => ru 177 59 ls (v.toList ++ []) h)) ∧
  (∀ (v : Nat) (t : eL) (st : List Value) (h : eH), ru 177 59 (some (.ref v) :: t) st h = ru 177 60 (some (.ref v) :: t) (.ref v :: st) h) ∧
  (∀ (a : Nat) (ls : eL) (st : List Value) (h : eH), ru 177 60 ls (.ref a :: st) h = gF (h.1 a) 3 0 (fun v => ru 177 63 ls (v :: st) h)) ∧
  (∀ (x0 x1 x2 x3 x4 : Option Value) (v : Int32) (t : eL) (st : List Value) (h : eH), ru 177 63 (x0 :: x1 :: x2 :: x3 :: x4 :: some (.int v) :: t) st h = ru 177 65 (x0 :: x1 :: x2 :: x3 :: x4 :: some (.int v) :: t) (.int v :: st) h) ∧
  (∀ (x0 x1 x2 x3 : Option Value) (v : Int32) (t : eL) (st : List Value) (h : eH), ru 177 65 (x0 :: x1 :: x2 :: x3 :: some (.int v) :: t) st h = ru 177 67 (x0 :: x1 :: x2 :: x3 :: some (.int v) :: t) (.int v :: st) h) ∧
  (∀ (v : Nat) (t : eL) (st : List Value) (h : eH), ru 177 67 (some (.ref v) :: t) st h = ru 177 68 (some (.ref v) :: t) (.ref v :: st) h) ∧
  (∀ (a : Nat) (ls : eL) (st : List Value) (h : eH), ru 177 68 ls (.ref a :: st) h = gF (h.1 a) 3 1 (fun v => ru 177 71 ls (v :: st) h)) ∧
  (∀ (a0 : Nat) (a1 : Int32) (a2 : Int32) (a3 : Nat) (ls : eL) (h : eH), ru 177 71 ls [.ref a3, .int a2, .int a1, .ref a0] h = cl (den 114 [.ref a0, .int a1, .int a2, .ref a3] h) (fun v h => ru 177 74 ls (v.toList ++ []) h)) ∧
  (∀ (x0 x1 x2 x3 x4 : Option Value) (v : Int32) (t : eL) (st : List Value) (h : eH), ru 177 74 (x0 :: x1 :: x2 :: x3 :: x4 :: some (.int v) :: t) st h = ru 177 77 (x0 :: x1 :: x2 :: x3 :: eKl x4 :: some (.int (v + 1)) :: t) st h) ∧
  (∀ (ls : eL) (st : List Value) (h : eH), ru 177 77 ls st h = ru 177 27 ls st h) ∧
  (∀ (ls : eL) (st : List Value) (h : eH), ru 177 83 ls st h = ru 177 18 ls st h) ∧
  (∀ (a : Nat) (ls : eL) (st : List Value) (h : eH), ru 177 87 ls (.ref a :: st) h = gF (h.1 a) 3 0 (fun v => ru 177 90 ls (v :: st) h)) ∧
  (∀ (a0 : Nat) (ls : eL) (h : eH), ru 177 90 ls [.ref a0] h = cl (den 122 [.ref a0] h) (fun v h => ru 177 93 ls (v.toList ++ []) h)) ∧
  (∀ (v : Nat) (t : eL) (st : List Value) (h : eH), ru 177 93 (some (.ref v) :: t) st h = ru 177 94 (some (.ref v) :: t) (.ref v :: st) h) ∧
  (∀ (a : Nat) (ls : eL) (st : List Value) (h : eH), ru 177 94 ls (.ref a :: st) h = gF (h.1 a) 3 0 (fun v => ru 177 97 ls (v :: st) h)) ∧
  (∀ (a : Nat) (ls : eL) (st : List Value) (h : eH), ru 177 97 ls (.ref a :: st) h = gF (h.1 a) 5 12 (fun v => ru 177 100 ls (v :: st) h)) ∧
  (∀ (x : Int32) (ls : eL) (h : eH), ru 177 100 ls [.int x] h = bo (x == 0 || x == 1) (some (some (.int x), h))) := ⟨fun x0 x1 v t st h => ru_go rfl rfl,
  fun a0 ls h => ru_inv rfl (by decide) rfl (Nat.le_of_ble_eq_true rfl),
  fun x0 x1 x2 x3 v t st h => ru_go rfl rfl,
  fun v t st h => ru_go rfl rfl,
  fun a ls st h => ru_getf rfl,
  fun x0 x1 x2 v t st h => ru_go rfl rfl,
  fun x0 x1 x2 v t st h => ru_go rfl rfl,
  fun ls st h => ru_go rfl rfl,
  fun a0 a1 a2 a3 ls h => ru_inv rfl (by decide) rfl (Nat.le_of_ble_eq_true rfl),
  fun ls st h => ru_go rfl rfl,
  fun x0 x1 x2 x3 x4 v t st h => ru_go rfl rfl,
  fun x0 x1 x2 v t st h => ru_go rfl rfl,
  fun x y ls st h => ru_if rfl rfl,
  fun ls st h => ru_go rfl rfl,
  fun x0 x1 x2 x3 x4 x5 v t st h => ru_go rfl rfl,
  fun x0 x1 x2 x3 v t st h => ru_go rfl rfl,
  fun x y ls st h => ru_if rfl rfl,
  fun v t st h => ru_go rfl rfl,
  fun x0 v t st h => ru_go rfl rfl,
  fun x0 x1 v t st h => ru_go rfl rfl,
  fun x0 x1 x2 x3 v t st h => ru_go rfl rfl,
  fun x0 x1 x2 x3 x4 v t st h => ru_go rfl rfl,
  fun a0 a1 a2 a3 a4 ls h => ru_inv rfl (by decide) rfl (Nat.le_of_ble_eq_true rfl),
  fun v t st h => ru_go rfl rfl,
  fun a ls st h => ru_getf rfl,
  fun x0 x1 x2 x3 v t st h => ru_go rfl rfl,
  fun x0 x1 x2 x3 x4 v t st h => ru_go rfl rfl,
  fun v t st h => ru_go rfl rfl,
  fun a ls st h => ru_getf rfl,
  fun a0 a1 a2 a3 ls h => ru_inv rfl (by decide) rfl (Nat.le_of_ble_eq_true rfl),
  fun v t st h => ru_go rfl rfl,
  fun a ls st h => ru_getf rfl,
  fun x0 x1 x2 x3 x4 v t st h => ru_go rfl rfl,
  fun x0 x1 x2 x3 v t st h => ru_go rfl rfl,
  fun v t st h => ru_go rfl rfl,
  fun a ls st h => ru_getf rfl,
  fun a0 a1 a2 a3 ls h => ru_inv rfl (by decide) rfl (Nat.le_of_ble_eq_true rfl),
  fun x0 x1 x2 x3 x4 v t st h => ru_go rfl rfl,
  fun ls st h => ru_go rfl rfl,
  fun ls st h => ru_go rfl rfl,
  fun a ls st h => ru_getf rfl,
  fun a0 ls h => ru_inv rfl (by decide) rfl (Nat.le_of_ble_eq_true rfl),
  fun v t st h => ru_go rfl rfl,
  fun a ls st h => ru_getf rfl,
  fun a ls st h => ru_getf rfl,
  fun x ls h => ru_bret rfl rfl⟩
theorem E177 (a0 : Nat) (a1 : Nat) (a2 : Nat) {h : eH} {fs : List Value} (ha : h.1 a0 = .inr (3, fs)) : den 177 [.ref a0, .ref a1, .ref a2] h = ru 177 0 [some (.ref a0), some (.ref a1), some (.ref a2), none, none, none] [] h := den_ob (Nat.le_of_ble_eq_true rfl) ha
/-! 178 X10_stiff -/
set_option maxRecDepth 100000 in
theorem S178 : (∀ (v : Nat) (t : eL) (st : List Value) (h : eH), ru 178 0 (some (.ref v) :: t) st h = ru 178 1 (some (.ref v) :: t) (.ref v :: st) h) ∧
  (∀ (a : Nat) (ls : eL) (st : List Value) (h : eH), ru 178 1 ls (.ref a :: st) h = gF (h.1 a) 10 9 (fun v => ru 178 4 ls (v :: st) h)) ∧
  (∀ (ls : eL) (st : List Value) (h : eH), ru 178 4 ls st h = ru 178 5 ls (.int (nI 0) :: st) h) ∧
  (∀ (a0 : Nat) (a1 : Int32) (ls : eL) (h : eH), ru 178 5 ls [.int a1, .ref a0] h = cl (den 138 [.ref a0, .int a1] h) (fun v h => ru 178 8 ls (v.toList ++ []) h)) ∧
  (∀ (x : Int32) (ls : eL) (st : List Value) (h : eH), ru 178 8 ls (.int x :: st) h = if x = 0 then ru 178 11 ls st h else ru 178 13 ls st h) ∧
  (∀ (ls : eL) (st : List Value) (h : eH), ru 178 11 ls st h = ru 178 12 ls (.int (nI 0) :: st) h) ∧
  (∀ (x : Int32) (ls : eL) (h : eH), ru 178 12 ls [.int x] h = some (some (.int x), h)) ∧
  (∀ (v : Nat) (t : eL) (st : List Value) (h : eH), ru 178 13 (some (.ref v) :: t) st h = ru 178 14 (some (.ref v) :: t) (.ref v :: st) h) ∧
  (∀ (a0 : Nat) (ls : eL) (h : eH), ru 178 14 ls [.ref a0] h = cl (den 153 [.ref a0] h) (fun v h => ru 178 17 ls (v.toList ++ []) h)) ∧
  (∀ (v : Nat) (t : eL) (st : List Value) (h : eH), ru 178 17 (some (.ref v) :: t) st h = ru 178 18 (some (.ref v) :: t) (.ref v :: st) h) ∧
  (∀ (a : Nat) (ls : eL) (st : List Value) (h : eH), ru 178 18 ls (.ref a :: st) h = gF (h.1 a) 10 4 (fun v => ru 178 21 ls (v :: st) h)) ∧
  (∀ (a0 : Nat) (ls : eL) (h : eH), ru 178 21 ls [.ref a0] h = cl (den 132 [.ref a0] h) (fun v h => ru 178 24 ls (v.toList ++ []) h)) ∧
  (∀ (ls : eL) (st : List Value) (h : eH), ru 178 24 ls st h = ru 178 25 ls (.int (nI 3) :: st) h) ∧
  (∀ (x y : Int32) (ls : eL) (st : List Value) (h : eH), ru 178 25 ls (.int y :: .int x :: st) h = if x ≤ y then ru 178 31 ls st h else ru 178 28 ls st h) ∧
  (∀ (ls : eL) (st : List Value) (h : eH), ru 178 28 ls st h = ru 178 30 ls (.int ((-7)) :: st) h) ∧
  (∀ (x : Int32) (ls : eL) (h : eH), ru 178 30 ls [.int x] h = some (some (.int x), h)) ∧
  (∀ (v : Nat) (t : eL) (st : List Value) (h : eH), ru 178 31 (some (.ref v) :: t) st h = ru 178 32 (some (.ref v) :: t) (.ref v :: st) h) ∧
  (∀ (a : Nat) (ls : eL) (st : List Value) (h : eH), ru 178 32 ls (.ref a :: st) h = gF (h.1 a) 10 7 (fun v => ru 178 35 ls (v :: st) h)) ∧
  (∀ (v : Nat) (t : eL) (st : List Value) (h : eH), ru 178 35 (some (.ref v) :: t) st h = ru 178 36 (some (.ref v) :: t) (.ref v :: st) h) ∧
  (∀ (a : Nat) (ls : eL) (st : List Value) (h : eH), ru 178 36 ls (.ref a :: st) h = gF (h.1 a) 10 9 (fun v => ru 178 39 ls (v :: st) h)) ∧
  (∀ (v : Nat) (t : eL) (st : List Value) (h : eH), ru 178 39 (some (.ref v) :: t) st h = ru 178 40 (some (.ref v) :: t) (.ref v :: st) h) ∧
  (∀ (a : Nat) (ls : eL) (st : List Value) (h : eH), ru 178 40 ls (.ref a :: st) h = gF (h.1 a) 10 4 (fun v => ru 178 43 ls (v :: st) h)) ∧
  (∀ (a0 : Nat) (a1 : Nat) (a2 : Nat) (ls : eL) (h : eH), ru 178 43 ls [.ref a2, .ref a1, .ref a0] h = cl (den 177 [.ref a0, .ref a1, .ref a2] h) (fun v h => ru 178 46 ls (v.toList ++ []) h)) ∧
  (∀ (x : Int32) (ls : eL) (st : List Value) (h : eH), ru 178 46 ls (.int x :: st) h = if x = 0 then ru 178 53 ls st h else ru 178 49 ls st h) ∧
  (∀ (ls : eL) (st : List Value) (h : eH), ru 178 49 ls st h = ru 178 50 ls (.int (nI 1) :: st) h) ∧
  (∀ (ls : eL) (st : List Value) (h : eH), ru 178 50 ls st h = ru 178 54 ls st h) ∧
  (∀ (ls : eL) (st : List Value) (h : eH), ru 178 53 ls st h = ru 178 54 ls (.int (nI 0) :: st) h) ∧
  (∀ (x : Int32) (ls : eL) (h : eH), ru 178 54 ls [.int x] h = some (some (.int x), h)) := ⟨fun v t st h => ru_go rfl rfl,
  fun a ls st h => ru_getf rfl,
  fun ls st h => ru_go rfl rfl,
  fun a0 a1 ls h => ru_inv rfl (by decide) rfl (Nat.le_of_ble_eq_true rfl),
  fun x ls st h => ru_if rfl rfl,
  fun ls st h => ru_go rfl rfl,
  fun x ls h => ru_ret rfl rfl,
  fun v t st h => ru_go rfl rfl,
  fun a0 ls h => ru_inv rfl (by decide) rfl (Nat.le_of_ble_eq_true rfl),
  fun v t st h => ru_go rfl rfl,
  fun a ls st h => ru_getf rfl,
  fun a0 ls h => ru_inv rfl (by decide) rfl (Nat.le_of_ble_eq_true rfl),
  fun ls st h => ru_go rfl rfl,
  fun x y ls st h => ru_if rfl rfl,
  fun ls st h => ru_go rfl rfl,
  fun x ls h => ru_ret rfl rfl,
  fun v t st h => ru_go rfl rfl,
  fun a ls st h => ru_getf rfl,
  fun v t st h => ru_go rfl rfl,
  fun a ls st h => ru_getf rfl,
  fun v t st h => ru_go rfl rfl,
  fun a ls st h => ru_getf rfl,
  fun a0 a1 a2 ls h => ru_inv rfl (by decide) rfl (Nat.le_of_ble_eq_true rfl),
  fun x ls st h => ru_if rfl rfl,
  fun ls st h => ru_go rfl rfl,
  fun ls st h => ru_go rfl rfl,
  fun ls st h => ru_go rfl rfl,
  fun x ls h => ru_ret rfl rfl⟩
theorem E178 (a0 : Nat) {h : eH} {fs : List Value} (ha : h.1 a0 = .inr (10, fs)) : den 178 [.ref a0] h = ru 178 0 [some (.ref a0)] [] h := den_ob (Nat.le_of_ble_eq_true rfl) ha
/-! 179 X10_stress -/
set_option maxRecDepth 100000 in
theorem S179 : (∀ (v : Nat) (t : eL) (st : List Value) (h : eH), ru 179 0 (some (.ref v) :: t) st h = ru 179 1 (some (.ref v) :: t) (.ref v :: st) h) ∧
  (∀ (ls : eL) (st : List Value) (h : eH), ru 179 1 ls st h = ru 179 2 ls (.int (nI 0) :: st) h) ∧
  (∀ (a0 : Nat) (a1 : Int32) (ls : eL) (h : eH), ru 179 2 ls [.int a1, .ref a0] h = cl (den 123 [.ref a0, .int a1] h) (fun v h => ru 179 5 ls (v.toList ++ []) h)) ∧
  (∀ (x0 : Option Value) (v : Int32) (t : eL) (st : List Value) (h : eH), ru 179 5 (x0 :: some (.int v) :: t) st h = ru 179 6 (x0 :: some (.int v) :: t) (.int v :: st) h) ∧
  (∀ (x : Int32) (ls : eL) (st : List Value) (h : eH), ru 179 6 ls (.int x :: st) h = if x < 0 then ru 179 31 ls st h else ru 179 9 ls st h) ∧
  (∀ (x0 : Option Value) (v : Int32) (t : eL) (st : List Value) (h : eH), ru 179 9 (x0 :: some (.int v) :: t) st h = ru 179 10 (x0 :: some (.int v) :: t) (.int v :: st) h) ∧
  (∀ (v : Nat) (t : eL) (st : List Value) (h : eH), ru 179 10 (some (.ref v) :: t) st h = ru 179 11 (some (.ref v) :: t) (.ref v :: st) h) ∧
  (∀ (a : Nat) (ls : eL) (st : List Value) (h : eH), ru 179 11 ls (.ref a :: st) h = gF (h.1 a) 10 3 (fun v => ru 179 14 ls (v :: st) h)) ∧
  (∀ (a0 : Nat) (u0 : Int32) (ls : eL) (h : eH), ru 179 14 ls [.ref a0, .int u0] h = cl (den 132 [.ref a0] h) (fun v h => ru 179 17 ls (v.toList ++ [.int u0]) h)) ∧
  (∀ (x y : Int32) (ls : eL) (st : List Value) (h : eH), ru 179 17 ls (.int y :: .int x :: st) h = if y ≤ x then ru 179 31 ls st h else ru 179 20 ls st h) ∧
  (∀ (v : Nat) (t : eL) (st : List Value) (h : eH), ru 179 20 (some (.ref v) :: t) st h = ru 179 21 (some (.ref v) :: t) (.ref v :: st) h) ∧
  (∀ (a : Nat) (ls : eL) (st : List Value) (h : eH), ru 179 21 ls (.ref a :: st) h = gF (h.1 a) 10 9 (fun v => ru 179 24 ls (v :: st) h)) ∧
  (∀ (x0 x1 : Option Value) (v : Int32) (t : eL) (st : List Value) (h : eH), ru 179 24 (x0 :: x1 :: some (.int v) :: t) st h = ru 179 25 (x0 :: x1 :: some (.int v) :: t) (.int v :: st) h) ∧
  (∀ (a0 : Nat) (a1 : Int32) (ls : eL) (h : eH), ru 179 25 ls [.int a1, .ref a0] h = cl (den 124 [.ref a0, .int a1] h) (fun v h => ru 179 28 ls (v.toList ++ []) h)) ∧
  (∀ (x : Int32) (ls : eL) (st : List Value) (h : eH), ru 179 28 ls (.int x :: st) h = if x = 0 then ru 179 31 ls st h else ru 179 33 ls st h) ∧
  (∀ (ls : eL) (st : List Value) (h : eH), ru 179 31 ls st h = ru 179 32 ls (.int (nI 0) :: st) h) ∧
  (∀ (x : Int32) (ls : eL) (h : eH), ru 179 32 ls [.int x] h = bo (x == 0 || x == 1) (some (some (.int x), h))) ∧
  (∀ (v : Nat) (t : eL) (st : List Value) (h : eH), ru 179 33 (some (.ref v) :: t) st h = ru 179 34 (some (.ref v) :: t) (.ref v :: st) h) ∧
  (∀ (a : Nat) (ls : eL) (st : List Value) (h : eH), ru 179 34 ls (.ref a :: st) h = gF (h.1 a) 10 3 (fun v => ru 179 37 ls (v :: st) h)) ∧
  (∀ (v : Nat) (t : eL) (st : List Value) (h : eH), ru 179 37 (some (.ref v) :: t) st h = ru 179 38 (some (.ref v) :: t) (.ref v :: st) h) ∧
  (∀ (a : Nat) (ls : eL) (st : List Value) (h : eH), ru 179 38 ls (.ref a :: st) h = gF (h.1 a) 10 8 (fun v => ru 179 41 ls (v :: st) h)) ∧
  (∀ (x0 : Option Value) (v : Int32) (t : eL) (st : List Value) (h : eH), ru 179 41 (x0 :: some (.int v) :: t) st h = ru 179 42 (x0 :: some (.int v) :: t) (.int v :: st) h) ∧
  (∀ (x0 x1 : Option Value) (v : Int32) (t : eL) (st : List Value) (h : eH), ru 179 42 (x0 :: x1 :: some (.int v) :: t) st h = ru 179 43 (x0 :: x1 :: some (.int v) :: t) (.int v :: st) h) ∧
  (∀ (a0 : Nat) (a1 : Nat) (a2 : Int32) (a3 : Int32) (ls : eL) (h : eH), ru 179 43 ls [.int a3, .int a2, .ref a1, .ref a0] h = cl (den 88 [.ref a0, .ref a1, .int a2, .int a3] h) (fun v h => ru 179 46 ls (v.toList ++ []) h)) ∧
  (∀ (v : Nat) (t : eL) (st : List Value) (h : eH), ru 179 46 (some (.ref v) :: t) st h = ru 179 47 (some (.ref v) :: t) (.ref v :: st) h) ∧
  (∀ (a : Nat) (ls : eL) (st : List Value) (h : eH), ru 179 47 ls (.ref a :: st) h = gF (h.1 a) 10 1 (fun v => ru 179 50 ls (v :: st) h)) ∧
  (∀ (v : Nat) (t : eL) (st : List Value) (h : eH), ru 179 50 (some (.ref v) :: t) st h = ru 179 51 (some (.ref v) :: t) (.ref v :: st) h) ∧
  (∀ (a : Nat) (ls : eL) (st : List Value) (h : eH), ru 179 51 ls (.ref a :: st) h = gF (h.1 a) 10 8 (fun v => ru 179 54 ls (v :: st) h)) ∧
  (∀ (v : Nat) (t : eL) (st : List Value) (h : eH), ru 179 54 (some (.ref v) :: t) st h = ru 179 55 (some (.ref v) :: t) (.ref v :: st) h) ∧
  (∀ (a : Nat) (ls : eL) (st : List Value) (h : eH), ru 179 55 ls (.ref a :: st) h = gF (h.1 a) 10 3 (fun v => ru 179 58 ls (v :: st) h)) ∧
  (∀ (a : Nat) (ls : eL) (st : List Value) (h : eH), ru 179 58 ls (.ref a :: st) h = gF (h.1 a) 5 11 (fun v => ru 179 61 ls (v :: st) h)) ∧
  (∀ (v : Nat) (t : eL) (st : List Value) (h : eH), ru 179 61 (some (.ref v) :: t) st h = ru 179 62 (some (.ref v) :: t) (.ref v :: st) h) ∧
  (∀ (a : Nat) (ls : eL) (st : List Value) (h : eH), ru 179 62 ls (.ref a :: st) h = gF (h.1 a) 10 2 (fun v => ru 179 65 ls (v :: st) h)) ∧
  (∀ (a : Nat) (ls : eL) (st : List Value) (h : eH), ru 179 65 ls (.ref a :: st) h = gF (h.1 a) 1 0 (fun v => ru 179 68 ls (v :: st) h)) ∧
  (∀ (a0 : Nat) (a1 : Nat) (a2 : Nat) (a3 : Nat) (ls : eL) (h : eH), ru 179 68 ls [.ref a3, .ref a2, .ref a1, .ref a0] h = cl (den 130 [.ref a0, .ref a1, .ref a2, .ref a3] h) (fun v h => ru 179 71 ls (v.toList ++ []) h)) ∧
  (∀ (ls : eL) (st : List Value) (h : eH), ru 179 71 ls st h = ru 179 72 ls (.int (nI 1) :: st) h) ∧
  (∀ (x : Int32) (ls : eL) (h : eH), ru 179 72 ls [.int x] h = bo (x == 0 || x == 1) (some (some (.int x), h))) := ⟨fun v t st h => ru_go rfl rfl,
  fun ls st h => ru_go rfl rfl,
  fun a0 a1 ls h => ru_inv rfl (by decide) rfl (Nat.le_of_ble_eq_true rfl),
  fun x0 v t st h => ru_go rfl rfl,
  fun x ls st h => ru_if rfl rfl,
  fun x0 v t st h => ru_go rfl rfl,
  fun v t st h => ru_go rfl rfl,
  fun a ls st h => ru_getf rfl,
  fun a0 u0 ls h => ru_inv rfl (by decide) rfl (Nat.le_of_ble_eq_true rfl),
  fun x y ls st h => ru_if rfl rfl,
  fun v t st h => ru_go rfl rfl,
  fun a ls st h => ru_getf rfl,
  fun x0 x1 v t st h => ru_go rfl rfl,
  fun a0 a1 ls h => ru_inv rfl (by decide) rfl (Nat.le_of_ble_eq_true rfl),
  fun x ls st h => ru_if rfl rfl,
  fun ls st h => ru_go rfl rfl,
  fun x ls h => ru_bret rfl rfl,
  fun v t st h => ru_go rfl rfl,
  fun a ls st h => ru_getf rfl,
  fun v t st h => ru_go rfl rfl,
  fun a ls st h => ru_getf rfl,
  fun x0 v t st h => ru_go rfl rfl,
  fun x0 x1 v t st h => ru_go rfl rfl,
  fun a0 a1 a2 a3 ls h => ru_inv rfl (by decide) rfl (Nat.le_of_ble_eq_true rfl),
  fun v t st h => ru_go rfl rfl,
  fun a ls st h => ru_getf rfl,
  fun v t st h => ru_go rfl rfl,
  fun a ls st h => ru_getf rfl,
  fun v t st h => ru_go rfl rfl,
  fun a ls st h => ru_getf rfl,
  fun a ls st h => ru_getf rfl,
  fun v t st h => ru_go rfl rfl,
  fun a ls st h => ru_getf rfl,
  fun a ls st h => ru_getf rfl,
  fun a0 a1 a2 a3 ls h => ru_inv rfl (by decide) rfl (Nat.le_of_ble_eq_true rfl),
  fun ls st h => ru_go rfl rfl,
  fun x ls h => ru_bret rfl rfl⟩
theorem E179 (a0 : Nat) (a1 : Int32) (a2 : Int32) {h : eH} {fs : List Value} (ha : h.1 a0 = .inr (10, fs)) : den 179 [.ref a0, .int a1, .int a2] h = ru 179 0 [some (.ref a0), some (.int a1), some (.int a2)] [] h := den_ob (Nat.le_of_ble_eq_true rfl) ha
/-! 180 X10_stresses -/
set_option maxRecDepth 100000 in
theorem S180 : (∀ (v : Nat) (t : eL) (st : List Value) (h : eH), ru 180 0 (some (.ref v) :: t) st h = ru 180 1 (some (.ref v) :: t) (.ref v :: st) h) ∧
  (∀ (ls : eL) (st : List Value) (h : eH), ru 180 1 ls st h = ru 180 2 ls (.int (nI 0) :: st) h) ∧
  (∀ (a0 : Nat) (a1 : Int32) (ls : eL) (h : eH), ru 180 2 ls [.int a1, .ref a0] h = cl (den 123 [.ref a0, .int a1] h) (fun v h => ru 180 5 ls (v.toList ++ []) h)) ∧
  (∀ (v : Nat) (t : eL) (st : List Value) (h : eH), ru 180 5 (some (.ref v) :: t) st h = ru 180 6 (some (.ref v) :: t) (.ref v :: st) h) ∧
  (∀ (a : Nat) (ls : eL) (st : List Value) (h : eH), ru 180 6 ls (.ref a :: st) h = gF (h.1 a) 10 3 (fun v => ru 180 9 ls (v :: st) h)) ∧
  (∀ (a0 : Nat) (ls : eL) (h : eH), ru 180 9 ls [.ref a0] h = cl (den 132 [.ref a0] h) (fun v h => ru 180 12 ls (v.toList ++ []) h)) ∧
  (∀ (x : Int32) (ls : eL) (h : eH), ru 180 12 ls [.int x] h = some (some (.int x), h)) := ⟨fun v t st h => ru_go rfl rfl,
  fun ls st h => ru_go rfl rfl,
  fun a0 a1 ls h => ru_inv rfl (by decide) rfl (Nat.le_of_ble_eq_true rfl),
  fun v t st h => ru_go rfl rfl,
  fun a ls st h => ru_getf rfl,
  fun a0 ls h => ru_inv rfl (by decide) rfl (Nat.le_of_ble_eq_true rfl),
  fun x ls h => ru_ret rfl rfl⟩
theorem E180 (a0 : Nat) {h : eH} {fs : List Value} (ha : h.1 a0 = .inr (10, fs)) : den 180 [.ref a0] h = ru 180 0 [some (.ref a0)] [] h := den_ob (Nat.le_of_ble_eq_true rfl) ha
/-! 181 X7_drop -/
set_option maxRecDepth 100000 in
theorem S181 : (∀ (v : Nat) (t : eL) (st : List Value) (h : eH), ru 181 0 (some (.ref v) :: t) st h = ru 181 1 (some (.ref v) :: t) (.ref v :: st) h) ∧
  (∀ (a : Nat) (ls : eL) (st : List Value) (h : eH), ru 181 1 ls (.ref a :: st) h = gF (h.1 a) 7 2 (fun v => ru 181 4 ls (v :: st) h)) ∧
  (∀ (x0 : Option Value) (v : Int32) (t : eL) (st : List Value) (h : eH), ru 181 4 (x0 :: some (.int v) :: t) st h = ru 181 5 (x0 :: some (.int v) :: t) (.int v :: st) h) ∧
  (∀ (ls : eL) (st : List Value) (h : eH), ru 181 5 ls st h = ru 181 6 ls (.int ((-1)) :: st) h) ∧
  (∀ (x : Int32) (i : Int32) (a : Nat) (ls : eL) (st : List Value) (h : eH), ru 181 6 ls (.int x :: .int i :: .ref a :: st) h = wI (h.1 a) i x (fun e => ru 181 7 ls st (eUp h a e))) ∧
  (∀ (ls : eL) (h : eH), ru 181 7 ls [] h = some (none, h)) := ⟨fun v t st h => ru_go rfl rfl,
  fun a ls st h => ru_getf rfl,
  fun x0 v t st h => ru_go rfl rfl,
  fun ls st h => ru_go rfl rfl,
  fun x i a ls st h => ru_iast rfl,
  fun ls h => ru_ret rfl rfl⟩
theorem E181 (a0 : Nat) (a1 : Int32) {h : eH} {fs : List Value} (ha : h.1 a0 = .inr (7, fs)) : den 181 [.ref a0, .int a1] h = ru 181 0 [some (.ref a0), some (.int a1)] [] h := den_ob (Nat.le_of_ble_eq_true rfl) ha
/-! 182 X10_tear -/
set_option maxRecDepth 100000 in
theorem S182 : (∀ (x0 : Option Value) (v : Int32) (t : eL) (st : List Value) (h : eH), ru 182 0 (x0 :: some (.int v) :: t) st h = ru 182 1 (x0 :: some (.int v) :: t) (.int v :: st) h) ∧
  (∀ (a0 : Int32) (ls : eL) (h : eH), ru 182 1 ls [.int a0] h = cl (den 150 [.int a0] h) (fun v h => ru 182 4 ls (v.toList ++ []) h)) ∧
  (∀ (x : Int32) (ls : eL) (st : List Value) (h : eH), ru 182 4 ls (.int x :: st) h = if x = 0 then ru 182 18 ls st h else ru 182 7 ls st h) ∧
  (∀ (v : Nat) (t : eL) (st : List Value) (h : eH), ru 182 7 (some (.ref v) :: t) st h = ru 182 8 (some (.ref v) :: t) (.ref v :: st) h) ∧
  (∀ (a : Nat) (ls : eL) (st : List Value) (h : eH), ru 182 8 ls (.ref a :: st) h = gF (h.1 a) 10 0 (fun v => ru 182 11 ls (v :: st) h)) ∧
  (∀ (x0 : Option Value) (v : Int32) (t : eL) (st : List Value) (h : eH), ru 182 11 (x0 :: some (.int v) :: t) st h = ru 182 12 (x0 :: some (.int v) :: t) (.int v :: st) h) ∧
  (∀ (a0 : Nat) (a1 : Int32) (ls : eL) (h : eH), ru 182 12 ls [.int a1, .ref a0] h = cl (den 134 [.ref a0, .int a1] h) (fun v h => ru 182 15 ls (v.toList ++ []) h)) ∧
  (∀ (x : Int32) (ls : eL) (st : List Value) (h : eH), ru 182 15 ls (.int x :: st) h = if x = 0 then ru 182 18 ls st h else ru 182 20 ls st h) ∧
  (∀ (ls : eL) (st : List Value) (h : eH), ru 182 18 ls st h = ru 182 19 ls (.int (nI 0) :: st) h) ∧
  (∀ (x : Int32) (ls : eL) (h : eH), ru 182 19 ls [.int x] h = bo (x == 0 || x == 1) (some (some (.int x), h))) ∧
  (∀ (v : Nat) (t : eL) (st : List Value) (h : eH), ru 182 20 (some (.ref v) :: t) st h = ru 182 21 (some (.ref v) :: t) (.ref v :: st) h) ∧
  (∀ (a : Nat) (ls : eL) (st : List Value) (h : eH), ru 182 21 ls (.ref a :: st) h = gF (h.1 a) 10 0 (fun v => ru 182 24 ls (v :: st) h)) ∧
  (∀ (x0 : Option Value) (v : Int32) (t : eL) (st : List Value) (h : eH), ru 182 24 (x0 :: some (.int v) :: t) st h = ru 182 25 (x0 :: some (.int v) :: t) (.int v :: st) h) ∧
  (∀ (a0 : Nat) (a1 : Int32) (ls : eL) (h : eH), ru 182 25 ls [.int a1, .ref a0] h = cl (den 181 [.ref a0, .int a1] h) (fun v h => ru 182 28 ls (v.toList ++ []) h)) ∧
  (∀ (ls : eL) (st : List Value) (h : eH), ru 182 28 ls st h = ru 182 29 ls (.int (nI 1) :: st) h) ∧
  (∀ (x : Int32) (ls : eL) (h : eH), ru 182 29 ls [.int x] h = bo (x == 0 || x == 1) (some (some (.int x), h))) := ⟨fun x0 v t st h => ru_go rfl rfl,
  fun a0 ls h => ru_inv rfl (by decide) rfl (Nat.le_of_ble_eq_true rfl),
  fun x ls st h => ru_if rfl rfl,
  fun v t st h => ru_go rfl rfl,
  fun a ls st h => ru_getf rfl,
  fun x0 v t st h => ru_go rfl rfl,
  fun a0 a1 ls h => ru_inv rfl (by decide) rfl (Nat.le_of_ble_eq_true rfl),
  fun x ls st h => ru_if rfl rfl,
  fun ls st h => ru_go rfl rfl,
  fun x ls h => ru_bret rfl rfl,
  fun v t st h => ru_go rfl rfl,
  fun a ls st h => ru_getf rfl,
  fun x0 v t st h => ru_go rfl rfl,
  fun a0 a1 ls h => ru_inv rfl (by decide) rfl (Nat.le_of_ble_eq_true rfl),
  fun ls st h => ru_go rfl rfl,
  fun x ls h => ru_bret rfl rfl⟩
theorem E182 (a0 : Nat) (a1 : Int32) {h : eH} {fs : List Value} (ha : h.1 a0 = .inr (10, fs)) : den 182 [.ref a0, .int a1] h = ru 182 0 [some (.ref a0), some (.int a1)] [] h := den_ob (Nat.le_of_ble_eq_true rfl) ha
/-! 183 X10_tight -/
set_option maxRecDepth 100000 in
theorem S183 : (∀ (v : Nat) (t : eL) (st : List Value) (h : eH), ru 183 0 (some (.ref v) :: t) st h = ru 183 1 (some (.ref v) :: t) (.ref v :: st) h) ∧
  (∀ (ls : eL) (st : List Value) (h : eH), ru 183 1 ls st h = ru 183 2 ls (.int (nI 0) :: st) h) ∧
  (∀ (a0 : Nat) (a1 : Int32) (ls : eL) (h : eH), ru 183 2 ls [.int a1, .ref a0] h = cl (den 123 [.ref a0, .int a1] h) (fun v h => ru 183 5 ls (v.toList ++ []) h)) ∧
  (∀ (v : Nat) (t : eL) (st : List Value) (h : eH), ru 183 5 (some (.ref v) :: t) st h = ru 183 6 (some (.ref v) :: t) (.ref v :: st) h) ∧
  (∀ (a : Nat) (ls : eL) (st : List Value) (h : eH), ru 183 6 ls (.ref a :: st) h = gF (h.1 a) 10 3 (fun v => ru 183 9 ls (v :: st) h)) ∧
  (∀ (a0 : Nat) (ls : eL) (h : eH), ru 183 9 ls [.ref a0] h = cl (den 132 [.ref a0] h) (fun v h => ru 183 12 ls (v.toList ++ []) h)) ∧
  (∀ (ls : eL) (st : List Value) (h : eH), ru 183 12 ls st h = ru 183 13 ls (.int (nI 3) :: st) h) ∧
  (∀ (x y : Int32) (ls : eL) (st : List Value) (h : eH), ru 183 13 ls (.int y :: .int x :: st) h = if x ≤ y then ru 183 19 ls st h else ru 183 16 ls st h) ∧
  (∀ (ls : eL) (st : List Value) (h : eH), ru 183 16 ls st h = ru 183 18 ls (.int ((-7)) :: st) h) ∧
  (∀ (x : Int32) (ls : eL) (h : eH), ru 183 18 ls [.int x] h = some (some (.int x), h)) ∧
  (∀ (v : Nat) (t : eL) (st : List Value) (h : eH), ru 183 19 (some (.ref v) :: t) st h = ru 183 20 (some (.ref v) :: t) (.ref v :: st) h) ∧
  (∀ (a : Nat) (ls : eL) (st : List Value) (h : eH), ru 183 20 ls (.ref a :: st) h = gF (h.1 a) 10 15 (fun v => ru 183 23 ls (v :: st) h)) ∧
  (∀ (x : Int32) (ls : eL) (st : List Value) (h : eH), ru 183 23 ls (.int x :: st) h = if x = 0 then ru 183 26 ls st h else ru 183 50 ls st h) ∧
  (∀ (v : Nat) (t : eL) (st : List Value) (h : eH), ru 183 26 (some (.ref v) :: t) st h = ru 183 27 (some (.ref v) :: t) (.ref v :: st) h) ∧
  (∀ (v : Nat) (t : eL) (st : List Value) (h : eH), ru 183 27 (some (.ref v) :: t) st h = ru 183 28 (some (.ref v) :: t) (.ref v :: st) h) ∧
  (∀ (a : Nat) (ls : eL) (st : List Value) (h : eH), ru 183 28 ls (.ref a :: st) h = gF (h.1 a) 10 6 (fun v => ru 183 31 ls (v :: st) h)) ∧
  (∀ (v : Nat) (t : eL) (st : List Value) (h : eH), ru 183 31 (some (.ref v) :: t) st h = ru 183 32 (some (.ref v) :: t) (.ref v :: st) h) ∧
  (∀ (a : Nat) (ls : eL) (st : List Value) (h : eH), ru 183 32 ls (.ref a :: st) h = gF (h.1 a) 10 9 (fun v => ru 183 35 ls (v :: st) h)) ∧
  (∀ (v : Nat) (t : eL) (st : List Value) (h : eH), ru 183 35 (some (.ref v) :: t) st h = ru 183 36 (some (.ref v) :: t) (.ref v :: st) h) ∧
  (∀ (a : Nat) (ls : eL) (st : List Value) (h : eH), ru 183 36 ls (.ref a :: st) h = gF (h.1 a) 10 3 (fun v => ru 183 39 ls (v :: st) h)) ∧
  (∀ (a0 : Nat) (a1 : Nat) (a2 : Nat) (u0 : Nat) (ls : eL) (h : eH), ru 183 39 ls [.ref a2, .ref a1, .ref a0, .ref u0] h = cl (den 105 [.ref a0, .ref a1, .ref a2] h) (fun v h => ru 183 42 ls (v.toList ++ [.ref u0]) h)) ∧
  (∀ (v : Int32) (a : Nat) (ls : eL) (st : List Value) (h : eH), ru 183 42 ls (.int v :: .ref a :: st) h = pF (h.1 a) 10 16 (.int v) (fun e => ru 183 45 ls st (eUp h a e))) ∧
  (∀ (v : Nat) (t : eL) (st : List Value) (h : eH), ru 183 45 (some (.ref v) :: t) st h = ru 183 46 (some (.ref v) :: t) (.ref v :: st) h) ∧
  (∀ (ls : eL) (st : List Value) (h : eH), ru 183 46 ls st h = ru 183 47 ls (.int (nI 1) :: st) h) ∧
  (∀ (v : Int32) (a : Nat) (ls : eL) (st : List Value) (h : eH), ru 183 47 ls (.int v :: .ref a :: st) h = pF (h.1 a) 10 15 (.int v) (fun e => ru 183 50 ls st (eUp h a e))) ∧
  (∀ (v : Nat) (t : eL) (st : List Value) (h : eH), ru 183 50 (some (.ref v) :: t) st h = ru 183 51 (some (.ref v) :: t) (.ref v :: st) h) ∧
  (∀ (a : Nat) (ls : eL) (st : List Value) (h : eH), ru 183 51 ls (.ref a :: st) h = gF (h.1 a) 10 16 (fun v => ru 183 54 ls (v :: st) h)) ∧
  (∀ (x : Int32) (ls : eL) (st : List Value) (h : eH), ru 183 54 ls (.int x :: st) h = if x = 0 then ru 183 61 ls st h else ru 183 57 ls st h) ∧
  (∀ (ls : eL) (st : List Value) (h : eH), ru 183 57 ls st h = ru 183 58 ls (.int (nI 1) :: st) h) ∧
  (∀ (ls : eL) (st : List Value) (h : eH), ru 183 58 ls st h = ru 183 62 ls st h) ∧
  (∀ (ls : eL) (st : List Value) (h : eH), ru 183 61 ls st h = ru 183 62 ls (.int (nI 0) :: st) h) ∧
  (∀ (x : Int32) (ls : eL) (h : eH), ru 183 62 ls [.int x] h = some (some (.int x), h)) := ⟨fun v t st h => ru_go rfl rfl,
  fun ls st h => ru_go rfl rfl,
  fun a0 a1 ls h => ru_inv rfl (by decide) rfl (Nat.le_of_ble_eq_true rfl),
  fun v t st h => ru_go rfl rfl,
  fun a ls st h => ru_getf rfl,
  fun a0 ls h => ru_inv rfl (by decide) rfl (Nat.le_of_ble_eq_true rfl),
  fun ls st h => ru_go rfl rfl,
  fun x y ls st h => ru_if rfl rfl,
  fun ls st h => ru_go rfl rfl,
  fun x ls h => ru_ret rfl rfl,
  fun v t st h => ru_go rfl rfl,
  fun a ls st h => ru_getf rfl,
  fun x ls st h => ru_if rfl rfl,
  fun v t st h => ru_go rfl rfl,
  fun v t st h => ru_go rfl rfl,
  fun a ls st h => ru_getf rfl,
  fun v t st h => ru_go rfl rfl,
  fun a ls st h => ru_getf rfl,
  fun v t st h => ru_go rfl rfl,
  fun a ls st h => ru_getf rfl,
  fun a0 a1 a2 u0 ls h => ru_inv rfl (by decide) rfl (Nat.le_of_ble_eq_true rfl),
  fun v a ls st h => ru_putf rfl,
  fun v t st h => ru_go rfl rfl,
  fun ls st h => ru_go rfl rfl,
  fun v a ls st h => ru_putf rfl,
  fun v t st h => ru_go rfl rfl,
  fun a ls st h => ru_getf rfl,
  fun x ls st h => ru_if rfl rfl,
  fun ls st h => ru_go rfl rfl,
  fun ls st h => ru_go rfl rfl,
  fun ls st h => ru_go rfl rfl,
  fun x ls h => ru_ret rfl rfl⟩
theorem E183 (a0 : Nat) {h : eH} {fs : List Value} (ha : h.1 a0 = .inr (10, fs)) : den 183 [.ref a0] h = ru 183 0 [some (.ref a0)] [] h := den_ob (Nat.le_of_ble_eq_true rfl) ha
/-! 184 X6_ofJoint -/
set_option maxRecDepth 100000 in
theorem S184 : (∀ (v : Nat) (t : eL) (st : List Value) (h : eH), ru 184 0 (some (.ref v) :: t) st h = ru 184 1 (some (.ref v) :: t) (.ref v :: st) h) ∧
  (∀ (x0 : Option Value) (v : Int32) (t : eL) (st : List Value) (h : eH), ru 184 1 (x0 :: some (.int v) :: t) st h = ru 184 2 (x0 :: some (.int v) :: t) (.int v :: st) h) ∧
  (∀ (a0 : Nat) (a1 : Int32) (ls : eL) (h : eH), ru 184 2 ls [.int a1, .ref a0] h = cl (den 157 [.ref a0, .int a1] h) (fun v h => ru 184 5 ls (v.toList ++ []) h)) ∧
  (∀ (x : Int32) (ls : eL) (st : List Value) (h : eH), ru 184 5 ls (.int x :: st) h = if x = 0 then ru 184 8 ls st h else ru 184 10 ls st h) ∧
  (∀ (ls : eL) (st : List Value) (h : eH), ru 184 8 ls st h = ru 184 9 ls (.int (nI 0) :: st) h) ∧
  (∀ (x : Int32) (ls : eL) (h : eH), ru 184 9 ls [.int x] h = some (some (.int x), h)) ∧
  (∀ (x0 x1 : Option Value) (v : Int32) (t : eL) (st : List Value) (h : eH), ru 184 10 (x0 :: x1 :: some (.int v) :: t) st h = ru 184 11 (x0 :: x1 :: some (.int v) :: t) (.int v :: st) h) ∧
  (∀ (x : Int32) (ls : eL) (st : List Value) (h : eH), ru 184 11 ls (.int x :: st) h = swF (eSw 11 x 83 0 4 #[33, 42, 51, 65, 74]) (fun z => ru 184 z ls st h)) ∧
  (∀ (v : Nat) (t : eL) (st : List Value) (h : eH), ru 184 44 (some (.ref v) :: t) st h = ru 184 45 (some (.ref v) :: t) (.ref v :: st) h) ∧
  (∀ (a : Nat) (ls : eL) (st : List Value) (h : eH), ru 184 45 ls (.ref a :: st) h = gF (h.1 a) 6 3 (fun v => ru 184 48 ls (v :: st) h)) ∧
  (∀ (ls : eL) (st : List Value) (h : eH), ru 184 48 ls st h = ru 184 49 ls (.int (nI 0) :: st) h) ∧
  (∀ (i : Int32) (a : Nat) (ls : eL) (st : List Value) (h : eH), ru 184 49 ls (.int i :: .ref a :: st) h = aQ (h.1 a) i (fun v => ru 184 50 ls (.ref v :: st) h)) ∧
  (∀ (x0 : Option Value) (v : Int32) (t : eL) (st : List Value) (h : eH), ru 184 50 (x0 :: some (.int v) :: t) st h = ru 184 51 (x0 :: some (.int v) :: t) (.int v :: st) h) ∧
  (∀ (i : Int32) (a : Nat) (ls : eL) (st : List Value) (h : eH), ru 184 51 ls (.int i :: .ref a :: st) h = aI (h.1 a) 0 i (fun v => ru 184 52 ls (.int v :: st) h)) ∧
  (∀ (x : Int32) (ls : eL) (h : eH), ru 184 52 ls [.int x] h = some (some (.int x), h)) ∧
  (∀ (v : Nat) (t : eL) (st : List Value) (h : eH), ru 184 53 (some (.ref v) :: t) st h = ru 184 54 (some (.ref v) :: t) (.ref v :: st) h) ∧
  (∀ (a : Nat) (ls : eL) (st : List Value) (h : eH), ru 184 54 ls (.ref a :: st) h = gF (h.1 a) 6 3 (fun v => ru 184 57 ls (v :: st) h)) ∧
  (∀ (ls : eL) (st : List Value) (h : eH), ru 184 57 ls st h = ru 184 58 ls (.int (nI 1) :: st) h) ∧
  (∀ (i : Int32) (a : Nat) (ls : eL) (st : List Value) (h : eH), ru 184 58 ls (.int i :: .ref a :: st) h = aQ (h.1 a) i (fun v => ru 184 59 ls (.ref v :: st) h)) ∧
  (∀ (x0 : Option Value) (v : Int32) (t : eL) (st : List Value) (h : eH), ru 184 59 (x0 :: some (.int v) :: t) st h = ru 184 60 (x0 :: some (.int v) :: t) (.int v :: st) h) ∧
  (∀ (i : Int32) (a : Nat) (ls : eL) (st : List Value) (h : eH), ru 184 60 ls (.int i :: .ref a :: st) h = aI (h.1 a) 0 i (fun v => ru 184 61 ls (.int v :: st) h)) ∧
  (∀ (x : Int32) (ls : eL) (h : eH), ru 184 61 ls [.int x] h = some (some (.int x), h)) ∧
  (∀ (v : Nat) (t : eL) (st : List Value) (h : eH), ru 184 62 (some (.ref v) :: t) st h = ru 184 63 (some (.ref v) :: t) (.ref v :: st) h) ∧
  (∀ (x0 : Option Value) (v : Int32) (t : eL) (st : List Value) (h : eH), ru 184 63 (x0 :: some (.int v) :: t) st h = ru 184 64 (x0 :: some (.int v) :: t) (.int v :: st) h) ∧
  (∀ (a0 : Nat) (a1 : Int32) (ls : eL) (h : eH), ru 184 64 ls [.int a1, .ref a0] h = cl (den 107 [.ref a0, .int a1] h) (fun v h => ru 184 67 ls (v.toList ++ []) h)) ∧
  (∀ (x : Int32) (ls : eL) (st : List Value) (h : eH), ru 184 67 ls (.int x :: st) h = if x = 0 then ru 184 74 ls st h else ru 184 70 ls st h) ∧
  (∀ (ls : eL) (st : List Value) (h : eH), ru 184 70 ls st h = ru 184 71 ls (.int (nI 1) :: st) h) ∧
  (∀ (ls : eL) (st : List Value) (h : eH), ru 184 71 ls st h = ru 184 75 ls st h) ∧
  (∀ (ls : eL) (st : List Value) (h : eH), ru 184 74 ls st h = ru 184 75 ls (.int (nI 0) :: st) h) ∧
  (∀ (x : Int32) (ls : eL) (h : eH), ru 184 75 ls [.int x] h = some (some (.int x), h)) ∧
  (∀ (v : Nat) (t : eL) (st : List Value) (h : eH), ru 184 76 (some (.ref v) :: t) st h = ru 184 77 (some (.ref v) :: t) (.ref v :: st) h) ∧
  (∀ (a : Nat) (ls : eL) (st : List Value) (h : eH), ru 184 77 ls (.ref a :: st) h = gF (h.1 a) 6 4 (fun v => ru 184 80 ls (v :: st) h)) ∧
  (∀ (ls : eL) (st : List Value) (h : eH), ru 184 80 ls st h = ru 184 81 ls (.int (nI 0) :: st) h) ∧
  (∀ (i : Int32) (a : Nat) (ls : eL) (st : List Value) (h : eH), ru 184 81 ls (.int i :: .ref a :: st) h = aQ (h.1 a) i (fun v => ru 184 82 ls (.ref v :: st) h)) ∧
  (∀ (x0 : Option Value) (v : Int32) (t : eL) (st : List Value) (h : eH), ru 184 82 (x0 :: some (.int v) :: t) st h = ru 184 83 (x0 :: some (.int v) :: t) (.int v :: st) h) ∧
  (∀ (i : Int32) (a : Nat) (ls : eL) (st : List Value) (h : eH), ru 184 83 ls (.int i :: .ref a :: st) h = aI (h.1 a) 0 i (fun v => ru 184 84 ls (.int v :: st) h)) ∧
  (∀ (x : Int32) (ls : eL) (h : eH), ru 184 84 ls [.int x] h = some (some (.int x), h)) ∧
  (∀ (v : Nat) (t : eL) (st : List Value) (h : eH), ru 184 85 (some (.ref v) :: t) st h = ru 184 86 (some (.ref v) :: t) (.ref v :: st) h) ∧
  (∀ (a : Nat) (ls : eL) (st : List Value) (h : eH), ru 184 86 ls (.ref a :: st) h = gF (h.1 a) 6 4 (fun v => ru 184 89 ls (v :: st) h)) ∧
  (∀ (ls : eL) (st : List Value) (h : eH), ru 184 89 ls st h = ru 184 90 ls (.int (nI 1) :: st) h) ∧
  (∀ (i : Int32) (a : Nat) (ls : eL) (st : List Value) (h : eH), ru 184 90 ls (.int i :: .ref a :: st) h = aQ (h.1 a) i (fun v => ru 184 91 ls (.ref v :: st) h)) ∧
  (∀ (x0 : Option Value) (v : Int32) (t : eL) (st : List Value) (h : eH), ru 184 91 (x0 :: some (.int v) :: t) st h = ru 184 92 (x0 :: some (.int v) :: t) (.int v :: st) h) ∧
  (∀ (i : Int32) (a : Nat) (ls : eL) (st : List Value) (h : eH), ru 184 92 ls (.int i :: .ref a :: st) h = aI (h.1 a) 0 i (fun v => ru 184 93 ls (.int v :: st) h)) ∧
  (∀ (x : Int32) (ls : eL) (h : eH), ru 184 93 ls [.int x] h = some (some (.int x), h)) ∧
  (∀ (ls : eL) (st : List Value) (h : eH), ru 184 94 ls st h = ru 184 95 ls (.int (nI 0) :: st) h) ∧
  (∀ (x : Int32) (ls : eL) (h : eH), ru 184 95 ls [.int x] h = some (some (.int x), h)) := ⟨fun v t st h => ru_go rfl rfl,
  fun x0 v t st h => ru_go rfl rfl,
  fun a0 a1 ls h => ru_inv rfl (by decide) rfl (Nat.le_of_ble_eq_true rfl),
  fun x ls st h => ru_if rfl rfl,
  fun ls st h => ru_go rfl rfl,
  fun x ls h => ru_ret rfl rfl,
  fun x0 x1 v t st h => ru_go rfl rfl,
  fun x ls st h => ru_sw rfl,
  fun v t st h => ru_go rfl rfl,
  fun a ls st h => ru_getf rfl,
  fun ls st h => ru_go rfl rfl,
  fun i a ls st h => ru_aald rfl,
  fun x0 v t st h => ru_go rfl rfl,
  fun i a ls st h => ru_iald rfl,
  fun x ls h => ru_ret rfl rfl,
  fun v t st h => ru_go rfl rfl,
  fun a ls st h => ru_getf rfl,
  fun ls st h => ru_go rfl rfl,
  fun i a ls st h => ru_aald rfl,
  fun x0 v t st h => ru_go rfl rfl,
  fun i a ls st h => ru_iald rfl,
  fun x ls h => ru_ret rfl rfl,
  fun v t st h => ru_go rfl rfl,
  fun x0 v t st h => ru_go rfl rfl,
  fun a0 a1 ls h => ru_inv rfl (by decide) rfl (Nat.le_of_ble_eq_true rfl),
  fun x ls st h => ru_if rfl rfl,
  fun ls st h => ru_go rfl rfl,
  fun ls st h => ru_go rfl rfl,
  fun ls st h => ru_go rfl rfl,
  fun x ls h => ru_ret rfl rfl,
  fun v t st h => ru_go rfl rfl,
  fun a ls st h => ru_getf rfl,
  fun ls st h => ru_go rfl rfl,
  fun i a ls st h => ru_aald rfl,
  fun x0 v t st h => ru_go rfl rfl,
  fun i a ls st h => ru_iald rfl,
  fun x ls h => ru_ret rfl rfl,
  fun v t st h => ru_go rfl rfl,
  fun a ls st h => ru_getf rfl,
  fun ls st h => ru_go rfl rfl,
  fun i a ls st h => ru_aald rfl,
  fun x0 v t st h => ru_go rfl rfl,
  fun i a ls st h => ru_iald rfl,
  fun x ls h => ru_ret rfl rfl,
  fun ls st h => ru_go rfl rfl,
  fun x ls h => ru_ret rfl rfl⟩
theorem E184 (a0 : Nat) (a1 : Int32) (a2 : Int32) {h : eH} {fs : List Value} (ha : h.1 a0 = .inr (6, fs)) : den 184 [.ref a0, .int a1, .int a2] h = ru 184 0 [some (.ref a0), some (.int a1), some (.int a2)] [] h := den_ob (Nat.le_of_ble_eq_true rfl) ha
/-! 185 X6_ofMember -/
set_option maxRecDepth 100000 in
theorem S185 : (∀ (v : Nat) (t : eL) (st : List Value) (h : eH), ru 185 0 (some (.ref v) :: t) st h = ru 185 1 (some (.ref v) :: t) (.ref v :: st) h) ∧
  (∀ (x0 : Option Value) (v : Int32) (t : eL) (st : List Value) (h : eH), ru 185 1 (x0 :: some (.int v) :: t) st h = ru 185 2 (x0 :: some (.int v) :: t) (.int v :: st) h) ∧
  (∀ (a0 : Nat) (a1 : Int32) (ls : eL) (h : eH), ru 185 2 ls [.int a1, .ref a0] h = cl (den 124 [.ref a0, .int a1] h) (fun v h => ru 185 5 ls (v.toList ++ []) h)) ∧
  (∀ (x : Int32) (ls : eL) (st : List Value) (h : eH), ru 185 5 ls (.int x :: st) h = if x = 0 then ru 185 8 ls st h else ru 185 10 ls st h) ∧
  (∀ (ls : eL) (st : List Value) (h : eH), ru 185 8 ls st h = ru 185 9 ls (.int (nI 0) :: st) h) ∧
  (∀ (x : Int32) (ls : eL) (h : eH), ru 185 9 ls [.int x] h = some (some (.int x), h)) ∧
  (∀ (x0 x1 : Option Value) (v : Int32) (t : eL) (st : List Value) (h : eH), ru 185 10 (x0 :: x1 :: some (.int v) :: t) st h = ru 185 11 (x0 :: x1 :: some (.int v) :: t) (.int v :: st) h) ∧
  (∀ (x : Int32) (ls : eL) (st : List Value) (h : eH), ru 185 11 ls (.int x :: st) h = swF (eSw 11 x 57 10 13 #[29, 36, 43, 50]) (fun z => ru 185 z ls st h)) ∧
  (∀ (v : Nat) (t : eL) (st : List Value) (h : eH), ru 185 40 (some (.ref v) :: t) st h = ru 185 41 (some (.ref v) :: t) (.ref v :: st) h) ∧
  (∀ (a : Nat) (ls : eL) (st : List Value) (h : eH), ru 185 41 ls (.ref a :: st) h = gF (h.1 a) 6 6 (fun v => ru 185 44 ls (v :: st) h)) ∧
  (∀ (x0 : Option Value) (v : Int32) (t : eL) (st : List Value) (h : eH), ru 185 44 (x0 :: some (.int v) :: t) st h = ru 185 45 (x0 :: some (.int v) :: t) (.int v :: st) h) ∧
  (∀ (i : Int32) (a : Nat) (ls : eL) (st : List Value) (h : eH), ru 185 45 ls (.int i :: .ref a :: st) h = aI (h.1 a) 0 i (fun v => ru 185 46 ls (.int v :: st) h)) ∧
  (∀ (x : Int32) (ls : eL) (h : eH), ru 185 46 ls [.int x] h = some (some (.int x), h)) ∧
  (∀ (v : Nat) (t : eL) (st : List Value) (h : eH), ru 185 47 (some (.ref v) :: t) st h = ru 185 48 (some (.ref v) :: t) (.ref v :: st) h) ∧
  (∀ (a : Nat) (ls : eL) (st : List Value) (h : eH), ru 185 48 ls (.ref a :: st) h = gF (h.1 a) 6 7 (fun v => ru 185 51 ls (v :: st) h)) ∧
  (∀ (x0 : Option Value) (v : Int32) (t : eL) (st : List Value) (h : eH), ru 185 51 (x0 :: some (.int v) :: t) st h = ru 185 52 (x0 :: some (.int v) :: t) (.int v :: st) h) ∧
  (∀ (i : Int32) (a : Nat) (ls : eL) (st : List Value) (h : eH), ru 185 52 ls (.int i :: .ref a :: st) h = aI (h.1 a) 0 i (fun v => ru 185 53 ls (.int v :: st) h)) ∧
  (∀ (x : Int32) (ls : eL) (h : eH), ru 185 53 ls [.int x] h = some (some (.int x), h)) ∧
  (∀ (v : Nat) (t : eL) (st : List Value) (h : eH), ru 185 54 (some (.ref v) :: t) st h = ru 185 55 (some (.ref v) :: t) (.ref v :: st) h) ∧
  (∀ (a : Nat) (ls : eL) (st : List Value) (h : eH), ru 185 55 ls (.ref a :: st) h = gF (h.1 a) 6 8 (fun v => ru 185 58 ls (v :: st) h)) ∧
  (∀ (x0 : Option Value) (v : Int32) (t : eL) (st : List Value) (h : eH), ru 185 58 (x0 :: some (.int v) :: t) st h = ru 185 59 (x0 :: some (.int v) :: t) (.int v :: st) h) ∧
  (∀ (i : Int32) (a : Nat) (ls : eL) (st : List Value) (h : eH), ru 185 59 ls (.int i :: .ref a :: st) h = aI (h.1 a) 0 i (fun v => ru 185 60 ls (.int v :: st) h)) ∧
  (∀ (x : Int32) (ls : eL) (h : eH), ru 185 60 ls [.int x] h = some (some (.int x), h)) ∧
  (∀ (v : Nat) (t : eL) (st : List Value) (h : eH), ru 185 61 (some (.ref v) :: t) st h = ru 185 62 (some (.ref v) :: t) (.ref v :: st) h) ∧
  (∀ (a : Nat) (ls : eL) (st : List Value) (h : eH), ru 185 62 ls (.ref a :: st) h = gF (h.1 a) 6 9 (fun v => ru 185 65 ls (v :: st) h)) ∧
  (∀ (x0 : Option Value) (v : Int32) (t : eL) (st : List Value) (h : eH), ru 185 65 (x0 :: some (.int v) :: t) st h = ru 185 66 (x0 :: some (.int v) :: t) (.int v :: st) h) ∧
  (∀ (i : Int32) (a : Nat) (ls : eL) (st : List Value) (h : eH), ru 185 66 ls (.int i :: .ref a :: st) h = aI (h.1 a) 0 i (fun v => ru 185 67 ls (.int v :: st) h)) ∧
  (∀ (x : Int32) (ls : eL) (h : eH), ru 185 67 ls [.int x] h = some (some (.int x), h)) ∧
  (∀ (ls : eL) (st : List Value) (h : eH), ru 185 68 ls st h = ru 185 69 ls (.int (nI 0) :: st) h) ∧
  (∀ (x : Int32) (ls : eL) (h : eH), ru 185 69 ls [.int x] h = some (some (.int x), h)) := ⟨fun v t st h => ru_go rfl rfl,
  fun x0 v t st h => ru_go rfl rfl,
  fun a0 a1 ls h => ru_inv rfl (by decide) rfl (Nat.le_of_ble_eq_true rfl),
  fun x ls st h => ru_if rfl rfl,
  fun ls st h => ru_go rfl rfl,
  fun x ls h => ru_ret rfl rfl,
  fun x0 x1 v t st h => ru_go rfl rfl,
  fun x ls st h => ru_sw rfl,
  fun v t st h => ru_go rfl rfl,
  fun a ls st h => ru_getf rfl,
  fun x0 v t st h => ru_go rfl rfl,
  fun i a ls st h => ru_iald rfl,
  fun x ls h => ru_ret rfl rfl,
  fun v t st h => ru_go rfl rfl,
  fun a ls st h => ru_getf rfl,
  fun x0 v t st h => ru_go rfl rfl,
  fun i a ls st h => ru_iald rfl,
  fun x ls h => ru_ret rfl rfl,
  fun v t st h => ru_go rfl rfl,
  fun a ls st h => ru_getf rfl,
  fun x0 v t st h => ru_go rfl rfl,
  fun i a ls st h => ru_iald rfl,
  fun x ls h => ru_ret rfl rfl,
  fun v t st h => ru_go rfl rfl,
  fun a ls st h => ru_getf rfl,
  fun x0 v t st h => ru_go rfl rfl,
  fun i a ls st h => ru_iald rfl,
  fun x ls h => ru_ret rfl rfl,
  fun ls st h => ru_go rfl rfl,
  fun x ls h => ru_ret rfl rfl⟩
theorem E185 (a0 : Nat) (a1 : Int32) (a2 : Int32) {h : eH} {fs : List Value} (ha : h.1 a0 = .inr (6, fs)) : den 185 [.ref a0, .int a1, .int a2] h = ru 185 0 [some (.ref a0), some (.int a1), some (.int a2)] [] h := den_ob (Nat.le_of_ble_eq_true rfl) ha
/-! 186 X10_told -/
set_option maxRecDepth 100000 in
theorem S186 : (∀ (x0 x1 : Option Value) (v : Int32) (t : eL) (st : List Value) (h : eH), ru 186 0 (x0 :: x1 :: some (.int v) :: t) st h = ru 186 1 (x0 :: x1 :: some (.int v) :: t) (.int v :: st) h) ∧
  (∀ (ls : eL) (st : List Value) (h : eH), ru 186 1 ls st h = ru 186 3 ls (.int (nI 14) :: st) h) ∧
  (∀ (x y : Int32) (ls : eL) (st : List Value) (h : eH), ru 186 3 ls (.int y :: .int x :: st) h = if x = y then ru 186 6 ls st h else ru 186 41 ls st h) ∧
  (∀ (v : Nat) (t : eL) (st : List Value) (h : eH), ru 186 6 (some (.ref v) :: t) st h = ru 186 7 (some (.ref v) :: t) (.ref v :: st) h) ∧
  (∀ (ls : eL) (st : List Value) (h : eH), ru 186 7 ls st h = ru 186 8 ls (.int (nI 0) :: st) h) ∧
  (∀ (a0 : Nat) (a1 : Int32) (ls : eL) (h : eH), ru 186 8 ls [.int a1, .ref a0] h = cl (den 123 [.ref a0, .int a1] h) (fun v h => ru 186 11 ls (v.toList ++ []) h)) ∧
  (∀ (v : Nat) (t : eL) (st : List Value) (h : eH), ru 186 11 (some (.ref v) :: t) st h = ru 186 12 (some (.ref v) :: t) (.ref v :: st) h) ∧
  (∀ (a : Nat) (ls : eL) (st : List Value) (h : eH), ru 186 12 ls (.ref a :: st) h = gF (h.1 a) 10 9 (fun v => ru 186 15 ls (v :: st) h)) ∧
  (∀ (x0 : Option Value) (v : Int32) (t : eL) (st : List Value) (h : eH), ru 186 15 (x0 :: some (.int v) :: t) st h = ru 186 16 (x0 :: some (.int v) :: t) (.int v :: st) h) ∧
  (∀ (a0 : Nat) (a1 : Int32) (ls : eL) (h : eH), ru 186 16 ls [.int a1, .ref a0] h = cl (den 124 [.ref a0, .int a1] h) (fun v h => ru 186 19 ls (v.toList ++ []) h)) ∧
  (∀ (x : Int32) (ls : eL) (st : List Value) (h : eH), ru 186 19 ls (.int x :: st) h = if x = 0 then ru 186 39 ls st h else ru 186 22 ls st h) ∧
  (∀ (v : Nat) (t : eL) (st : List Value) (h : eH), ru 186 22 (some (.ref v) :: t) st h = ru 186 23 (some (.ref v) :: t) (.ref v :: st) h) ∧
  (∀ (a : Nat) (ls : eL) (st : List Value) (h : eH), ru 186 23 ls (.ref a :: st) h = gF (h.1 a) 10 3 (fun v => ru 186 26 ls (v :: st) h)) ∧
  (∀ (a : Nat) (ls : eL) (st : List Value) (h : eH), ru 186 26 ls (.ref a :: st) h = gF (h.1 a) 5 10 (fun v => ru 186 29 ls (v :: st) h)) ∧
  (∀ (x0 : Option Value) (v : Int32) (t : eL) (st : List Value) (h : eH), ru 186 29 (x0 :: some (.int v) :: t) st h = ru 186 30 (x0 :: some (.int v) :: t) (.int v :: st) h) ∧
  (∀ (i : Int32) (a : Nat) (ls : eL) (st : List Value) (h : eH), ru 186 30 ls (.int i :: .ref a :: st) h = aI (h.1 a) 0 i (fun v => ru 186 31 ls (.int v :: st) h)) ∧
  (∀ (ls : eL) (st : List Value) (h : eH), ru 186 31 ls st h = ru 186 32 ls (.int ((-1)) :: st) h) ∧
  (∀ (x y : Int32) (ls : eL) (st : List Value) (h : eH), ru 186 32 ls (.int y :: .int x :: st) h = if x = y then ru 186 39 ls st h else ru 186 35 ls st h) ∧
  (∀ (ls : eL) (st : List Value) (h : eH), ru 186 35 ls st h = ru 186 36 ls (.int (nI 1) :: st) h) ∧
  (∀ (ls : eL) (st : List Value) (h : eH), ru 186 36 ls st h = ru 186 40 ls st h) ∧
  (∀ (ls : eL) (st : List Value) (h : eH), ru 186 39 ls st h = ru 186 40 ls (.int (nI 0) :: st) h) ∧
  (∀ (x : Int32) (ls : eL) (h : eH), ru 186 40 ls [.int x] h = some (some (.int x), h)) ∧
  (∀ (x0 x1 : Option Value) (v : Int32) (t : eL) (st : List Value) (h : eH), ru 186 41 (x0 :: x1 :: some (.int v) :: t) st h = ru 186 42 (x0 :: x1 :: some (.int v) :: t) (.int v :: st) h) ∧
  (∀ (ls : eL) (st : List Value) (h : eH), ru 186 42 ls st h = ru 186 44 ls (.int (nI 10) :: st) h) ∧
  (∀ (x y : Int32) (ls : eL) (st : List Value) (h : eH), ru 186 44 ls (.int y :: .int x :: st) h = if y ≤ x then ru 186 59 ls st h else ru 186 47 ls st h) ∧
  (∀ (v : Nat) (t : eL) (st : List Value) (h : eH), ru 186 47 (some (.ref v) :: t) st h = ru 186 48 (some (.ref v) :: t) (.ref v :: st) h) ∧
  (∀ (a : Nat) (ls : eL) (st : List Value) (h : eH), ru 186 48 ls (.ref a :: st) h = gF (h.1 a) 10 9 (fun v => ru 186 51 ls (v :: st) h)) ∧
  (∀ (x0 : Option Value) (v : Int32) (t : eL) (st : List Value) (h : eH), ru 186 51 (x0 :: some (.int v) :: t) st h = ru 186 52 (x0 :: some (.int v) :: t) (.int v :: st) h) ∧
  (∀ (x0 x1 : Option Value) (v : Int32) (t : eL) (st : List Value) (h : eH), ru 186 52 (x0 :: x1 :: some (.int v) :: t) st h = ru 186 53 (x0 :: x1 :: some (.int v) :: t) (.int v :: st) h) ∧
  (∀ (a0 : Nat) (a1 : Int32) (a2 : Int32) (ls : eL) (h : eH), ru 186 53 ls [.int a2, .int a1, .ref a0] h = cl (den 184 [.ref a0, .int a1, .int a2] h) (fun v h => ru 186 56 ls (v.toList ++ []) h)) ∧
  (∀ (ls : eL) (st : List Value) (h : eH), ru 186 56 ls st h = ru 186 68 ls st h) ∧
  (∀ (v : Nat) (t : eL) (st : List Value) (h : eH), ru 186 59 (some (.ref v) :: t) st h = ru 186 60 (some (.ref v) :: t) (.ref v :: st) h) ∧
  (∀ (a : Nat) (ls : eL) (st : List Value) (h : eH), ru 186 60 ls (.ref a :: st) h = gF (h.1 a) 10 9 (fun v => ru 186 63 ls (v :: st) h)) ∧
  (∀ (x0 : Option Value) (v : Int32) (t : eL) (st : List Value) (h : eH), ru 186 63 (x0 :: some (.int v) :: t) st h = ru 186 64 (x0 :: some (.int v) :: t) (.int v :: st) h) ∧
  (∀ (x0 x1 : Option Value) (v : Int32) (t : eL) (st : List Value) (h : eH), ru 186 64 (x0 :: x1 :: some (.int v) :: t) st h = ru 186 65 (x0 :: x1 :: some (.int v) :: t) (.int v :: st) h) ∧
  (∀ (a0 : Nat) (a1 : Int32) (a2 : Int32) (ls : eL) (h : eH), ru 186 65 ls [.int a2, .int a1, .ref a0] h = cl (den 185 [.ref a0, .int a1, .int a2] h) (fun v h => ru 186 68 ls (v.toList ++ []) h)) ∧
  (∀ (x : Int32) (ls : eL) (h : eH), ru 186 68 ls [.int x] h = some (some (.int x), h)) := ⟨fun x0 x1 v t st h => ru_go rfl rfl,
  fun ls st h => ru_go rfl rfl,
  fun x y ls st h => ru_if rfl rfl,
  fun v t st h => ru_go rfl rfl,
  fun ls st h => ru_go rfl rfl,
  fun a0 a1 ls h => ru_inv rfl (by decide) rfl (Nat.le_of_ble_eq_true rfl),
  fun v t st h => ru_go rfl rfl,
  fun a ls st h => ru_getf rfl,
  fun x0 v t st h => ru_go rfl rfl,
  fun a0 a1 ls h => ru_inv rfl (by decide) rfl (Nat.le_of_ble_eq_true rfl),
  fun x ls st h => ru_if rfl rfl,
  fun v t st h => ru_go rfl rfl,
  fun a ls st h => ru_getf rfl,
  fun a ls st h => ru_getf rfl,
  fun x0 v t st h => ru_go rfl rfl,
  fun i a ls st h => ru_iald rfl,
  fun ls st h => ru_go rfl rfl,
  fun x y ls st h => ru_if rfl rfl,
  fun ls st h => ru_go rfl rfl,
  fun ls st h => ru_go rfl rfl,
  fun ls st h => ru_go rfl rfl,
  fun x ls h => ru_ret rfl rfl,
  fun x0 x1 v t st h => ru_go rfl rfl,
  fun ls st h => ru_go rfl rfl,
  fun x y ls st h => ru_if rfl rfl,
  fun v t st h => ru_go rfl rfl,
  fun a ls st h => ru_getf rfl,
  fun x0 v t st h => ru_go rfl rfl,
  fun x0 x1 v t st h => ru_go rfl rfl,
  fun a0 a1 a2 ls h => ru_inv rfl (by decide) rfl (Nat.le_of_ble_eq_true rfl),
  fun ls st h => ru_go rfl rfl,
  fun v t st h => ru_go rfl rfl,
  fun a ls st h => ru_getf rfl,
  fun x0 v t st h => ru_go rfl rfl,
  fun x0 x1 v t st h => ru_go rfl rfl,
  fun a0 a1 a2 ls h => ru_inv rfl (by decide) rfl (Nat.le_of_ble_eq_true rfl),
  fun x ls h => ru_ret rfl rfl⟩
theorem E186 (a0 : Nat) (a1 : Int32) (a2 : Int32) {h : eH} {fs : List Value} (ha : h.1 a0 = .inr (10, fs)) : den 186 [.ref a0, .int a1, .int a2] h = ru 186 0 [some (.ref a0), some (.int a1), some (.int a2)] [] h := den_ob (Nat.le_of_ble_eq_true rfl) ha
/-! 187 X10_way -/
set_option maxRecDepth 100000 in
theorem S187 : (∀ (v : Nat) (t : eL) (st : List Value) (h : eH), ru 187 0 (some (.ref v) :: t) st h = ru 187 1 (some (.ref v) :: t) (.ref v :: st) h) ∧
  (∀ (a0 : Nat) (ls : eL) (h : eH), ru 187 1 ls [.ref a0] h = cl (den 153 [.ref a0] h) (fun v h => ru 187 4 ls (v.toList ++ []) h)) ∧
  (∀ (x0 : Option Value) (v : Int32) (t : eL) (st : List Value) (h : eH), ru 187 4 (x0 :: some (.int v) :: t) st h = ru 187 5 (x0 :: some (.int v) :: t) (.int v :: st) h) ∧
  (∀ (x : Int32) (ls : eL) (st : List Value) (h : eH), ru 187 5 ls (.int x :: st) h = if x < 0 then ru 187 37 ls st h else ru 187 8 ls st h) ∧
  (∀ (x0 : Option Value) (v : Int32) (t : eL) (st : List Value) (h : eH), ru 187 8 (x0 :: some (.int v) :: t) st h = ru 187 9 (x0 :: some (.int v) :: t) (.int v :: st) h) ∧
  (∀ (v : Nat) (t : eL) (st : List Value) (h : eH), ru 187 9 (some (.ref v) :: t) st h = ru 187 10 (some (.ref v) :: t) (.ref v :: st) h) ∧
  (∀ (a : Nat) (ls : eL) (st : List Value) (h : eH), ru 187 10 ls (.ref a :: st) h = gF (h.1 a) 10 4 (fun v => ru 187 13 ls (v :: st) h)) ∧
  (∀ (a0 : Nat) (u0 : Int32) (ls : eL) (h : eH), ru 187 13 ls [.ref a0, .int u0] h = cl (den 132 [.ref a0] h) (fun v h => ru 187 16 ls (v.toList ++ [.int u0]) h)) ∧
  (∀ (x y : Int32) (ls : eL) (st : List Value) (h : eH), ru 187 16 ls (.int y :: .int x :: st) h = if y ≤ x then ru 187 37 ls st h else ru 187 19 ls st h) ∧
  (∀ (v : Nat) (t : eL) (st : List Value) (h : eH), ru 187 19 (some (.ref v) :: t) st h = ru 187 20 (some (.ref v) :: t) (.ref v :: st) h) ∧
  (∀ (a : Nat) (ls : eL) (st : List Value) (h : eH), ru 187 20 ls (.ref a :: st) h = gF (h.1 a) 10 9 (fun v => ru 187 23 ls (v :: st) h)) ∧
  (∀ (x0 x1 : Option Value) (v : Int32) (t : eL) (st : List Value) (h : eH), ru 187 23 (x0 :: x1 :: some (.int v) :: t) st h = ru 187 24 (x0 :: x1 :: some (.int v) :: t) (.int v :: st) h) ∧
  (∀ (a0 : Nat) (a1 : Int32) (ls : eL) (h : eH), ru 187 24 ls [.int a1, .ref a0] h = cl (den 157 [.ref a0, .int a1] h) (fun v h => ru 187 27 ls (v.toList ++ []) h)) ∧
  (∀ (x : Int32) (ls : eL) (st : List Value) (h : eH), ru 187 27 ls (.int x :: st) h = if x = 0 then ru 187 37 ls st h else ru 187 30 ls st h) ∧
  (∀ (x0 x1 x2 : Option Value) (v : Int32) (t : eL) (st : List Value) (h : eH), ru 187 30 (x0 :: x1 :: x2 :: some (.int v) :: t) st h = ru 187 31 (x0 :: x1 :: x2 :: some (.int v) :: t) (.int v :: st) h) ∧
  (∀ (a0 : Int32) (ls : eL) (h : eH), ru 187 31 ls [.int a0] h = cl (den 149 [.int a0] h) (fun v h => ru 187 34 ls (v.toList ++ []) h)) ∧
  (∀ (x : Int32) (ls : eL) (st : List Value) (h : eH), ru 187 34 ls (.int x :: st) h = if x = 0 then ru 187 37 ls st h else ru 187 39 ls st h) ∧
  (∀ (ls : eL) (st : List Value) (h : eH), ru 187 37 ls st h = ru 187 38 ls (.int (nI 0) :: st) h) ∧
  (∀ (x : Int32) (ls : eL) (h : eH), ru 187 38 ls [.int x] h = bo (x == 0 || x == 1) (some (some (.int x), h))) ∧
  (∀ (v : Nat) (t : eL) (st : List Value) (h : eH), ru 187 39 (some (.ref v) :: t) st h = ru 187 40 (some (.ref v) :: t) (.ref v :: st) h) ∧
  (∀ (a : Nat) (ls : eL) (st : List Value) (h : eH), ru 187 40 ls (.ref a :: st) h = gF (h.1 a) 10 4 (fun v => ru 187 43 ls (v :: st) h)) ∧
  (∀ (v : Nat) (t : eL) (st : List Value) (h : eH), ru 187 43 (some (.ref v) :: t) st h = ru 187 44 (some (.ref v) :: t) (.ref v :: st) h) ∧
  (∀ (a : Nat) (ls : eL) (st : List Value) (h : eH), ru 187 44 ls (.ref a :: st) h = gF (h.1 a) 10 8 (fun v => ru 187 47 ls (v :: st) h)) ∧
  (∀ (x0 : Option Value) (v : Int32) (t : eL) (st : List Value) (h : eH), ru 187 47 (x0 :: some (.int v) :: t) st h = ru 187 48 (x0 :: some (.int v) :: t) (.int v :: st) h) ∧
  (∀ (v : Nat) (t : eL) (st : List Value) (h : eH), ru 187 48 (some (.ref v) :: t) st h = ru 187 49 (some (.ref v) :: t) (.ref v :: st) h) ∧
  (∀ (a : Nat) (ls : eL) (st : List Value) (h : eH), ru 187 49 ls (.ref a :: st) h = gF (h.1 a) 10 9 (fun v => ru 187 52 ls (v :: st) h)) ∧
  (∀ (x0 x1 : Option Value) (v : Int32) (t : eL) (st : List Value) (h : eH), ru 187 52 (x0 :: x1 :: some (.int v) :: t) st h = ru 187 53 (x0 :: x1 :: some (.int v) :: t) (.int v :: st) h) ∧
  (∀ (x0 x1 x2 : Option Value) (v : Int32) (t : eL) (st : List Value) (h : eH), ru 187 53 (x0 :: x1 :: x2 :: some (.int v) :: t) st h = ru 187 54 (x0 :: x1 :: x2 :: some (.int v) :: t) (.int v :: st) h) ∧
  (∀ (a0 : Nat) (a1 : Int32) (a2 : Int32) (u0 : Int32) (u1 : Nat) (u2 : Nat) (ls : eL) (h : eH), ru 187 54 ls [.int a2, .int a1, .ref a0, .int u0, .ref u1, .ref u2] h = cl (den 108 [.ref a0, .int a1, .int a2] h) (fun v h => ru 187 57 ls (v.toList ++ [.int u0, .ref u1, .ref u2]) h)) ∧
  (∀ (a0 : Nat) (a1 : Nat) (a2 : Int32) (a3 : Int32) (ls : eL) (h : eH), ru 187 57 ls [.int a3, .int a2, .ref a1, .ref a0] h = cl (den 88 [.ref a0, .ref a1, .int a2, .int a3] h) (fun v h => ru 187 60 ls (v.toList ++ []) h)) ∧
  (∀ (v : Nat) (t : eL) (st : List Value) (h : eH), ru 187 60 (some (.ref v) :: t) st h = ru 187 61 (some (.ref v) :: t) (.ref v :: st) h) ∧
  (∀ (a : Nat) (ls : eL) (st : List Value) (h : eH), ru 187 61 ls (.ref a :: st) h = gF (h.1 a) 10 1 (fun v => ru 187 64 ls (v :: st) h)) ∧
  (∀ (v : Nat) (t : eL) (st : List Value) (h : eH), ru 187 64 (some (.ref v) :: t) st h = ru 187 65 (some (.ref v) :: t) (.ref v :: st) h) ∧
  (∀ (a : Nat) (ls : eL) (st : List Value) (h : eH), ru 187 65 ls (.ref a :: st) h = gF (h.1 a) 10 8 (fun v => ru 187 68 ls (v :: st) h)) ∧
  (∀ (v : Nat) (t : eL) (st : List Value) (h : eH), ru 187 68 (some (.ref v) :: t) st h = ru 187 69 (some (.ref v) :: t) (.ref v :: st) h) ∧
  (∀ (a : Nat) (ls : eL) (st : List Value) (h : eH), ru 187 69 ls (.ref a :: st) h = gF (h.1 a) 10 4 (fun v => ru 187 72 ls (v :: st) h)) ∧
  (∀ (a : Nat) (ls : eL) (st : List Value) (h : eH), ru 187 72 ls (.ref a :: st) h = gF (h.1 a) 5 11 (fun v => ru 187 75 ls (v :: st) h)) ∧
  (∀ (v : Nat) (t : eL) (st : List Value) (h : eH), ru 187 75 (some (.ref v) :: t) st h = ru 187 76 (some (.ref v) :: t) (.ref v :: st) h) ∧
  (∀ (a : Nat) (ls : eL) (st : List Value) (h : eH), ru 187 76 ls (.ref a :: st) h = gF (h.1 a) 10 2 (fun v => ru 187 79 ls (v :: st) h)) ∧
  (∀ (a : Nat) (ls : eL) (st : List Value) (h : eH), ru 187 79 ls (.ref a :: st) h = gF (h.1 a) 1 0 (fun v => ru 187 82 ls (v :: st) h)) ∧
  (∀ (a0 : Nat) (a1 : Nat) (a2 : Nat) (a3 : Nat) (ls : eL) (h : eH), ru 187 82 ls [.ref a3, .ref a2, .ref a1, .ref a0] h = cl (den 130 [.ref a0, .ref a1, .ref a2, .ref a3] h) (fun v h => ru 187 85 ls (v.toList ++ []) h)) ∧
  (∀ (ls : eL) (st : List Value) (h : eH), ru 187 85 ls st h = ru 187 86 ls (.int (nI 1) :: st) h) ∧
  (∀ (x : Int32) (ls : eL) (h : eH), ru 187 86 ls [.int x] h = bo (x == 0 || x == 1) (some (some (.int x), h))) := ⟨fun v t st h => ru_go rfl rfl,
  fun a0 ls h => ru_inv rfl (by decide) rfl (Nat.le_of_ble_eq_true rfl),
  fun x0 v t st h => ru_go rfl rfl,
  fun x ls st h => ru_if rfl rfl,
  fun x0 v t st h => ru_go rfl rfl,
  fun v t st h => ru_go rfl rfl,
  fun a ls st h => ru_getf rfl,
  fun a0 u0 ls h => ru_inv rfl (by decide) rfl (Nat.le_of_ble_eq_true rfl),
  fun x y ls st h => ru_if rfl rfl,
  fun v t st h => ru_go rfl rfl,
  fun a ls st h => ru_getf rfl,
  fun x0 x1 v t st h => ru_go rfl rfl,
  fun a0 a1 ls h => ru_inv rfl (by decide) rfl (Nat.le_of_ble_eq_true rfl),
  fun x ls st h => ru_if rfl rfl,
  fun x0 x1 x2 v t st h => ru_go rfl rfl,
  fun a0 ls h => ru_inv rfl (by decide) rfl (Nat.le_of_ble_eq_true rfl),
  fun x ls st h => ru_if rfl rfl,
  fun ls st h => ru_go rfl rfl,
  fun x ls h => ru_bret rfl rfl,
  fun v t st h => ru_go rfl rfl,
  fun a ls st h => ru_getf rfl,
  fun v t st h => ru_go rfl rfl,
  fun a ls st h => ru_getf rfl,
  fun x0 v t st h => ru_go rfl rfl,
  fun v t st h => ru_go rfl rfl,
  fun a ls st h => ru_getf rfl,
  fun x0 x1 v t st h => ru_go rfl rfl,
  fun x0 x1 x2 v t st h => ru_go rfl rfl,
  fun a0 a1 a2 u0 u1 u2 ls h => ru_inv rfl (by decide) rfl (Nat.le_of_ble_eq_true rfl),
  fun a0 a1 a2 a3 ls h => ru_inv rfl (by decide) rfl (Nat.le_of_ble_eq_true rfl),
  fun v t st h => ru_go rfl rfl,
  fun a ls st h => ru_getf rfl,
  fun v t st h => ru_go rfl rfl,
  fun a ls st h => ru_getf rfl,
  fun v t st h => ru_go rfl rfl,
  fun a ls st h => ru_getf rfl,
  fun a ls st h => ru_getf rfl,
  fun v t st h => ru_go rfl rfl,
  fun a ls st h => ru_getf rfl,
  fun a ls st h => ru_getf rfl,
  fun a0 a1 a2 a3 ls h => ru_inv rfl (by decide) rfl (Nat.le_of_ble_eq_true rfl),
  fun ls st h => ru_go rfl rfl,
  fun x ls h => ru_bret rfl rfl⟩
theorem E187 (a0 : Nat) (a1 : Int32) (a2 : Int32) (a3 : Int32) {h : eH} {fs : List Value} (ha : h.1 a0 = .inr (10, fs)) : den 187 [.ref a0, .int a1, .int a2, .int a3] h = ru 187 0 [some (.ref a0), some (.int a1), some (.int a2), some (.int a3)] [] h := den_ob (Nat.le_of_ble_eq_true rfl) ha
/-! 188 X10_ways -/
set_option maxRecDepth 100000 in
theorem S188 : (∀ (v : Nat) (t : eL) (st : List Value) (h : eH), ru 188 0 (some (.ref v) :: t) st h = ru 188 1 (some (.ref v) :: t) (.ref v :: st) h) ∧
  (∀ (a0 : Nat) (ls : eL) (h : eH), ru 188 1 ls [.ref a0] h = cl (den 153 [.ref a0] h) (fun v h => ru 188 4 ls (v.toList ++ []) h)) ∧
  (∀ (v : Nat) (t : eL) (st : List Value) (h : eH), ru 188 4 (some (.ref v) :: t) st h = ru 188 5 (some (.ref v) :: t) (.ref v :: st) h) ∧
  (∀ (a : Nat) (ls : eL) (st : List Value) (h : eH), ru 188 5 ls (.ref a :: st) h = gF (h.1 a) 10 4 (fun v => ru 188 8 ls (v :: st) h)) ∧
  (∀ (a0 : Nat) (ls : eL) (h : eH), ru 188 8 ls [.ref a0] h = cl (den 132 [.ref a0] h) (fun v h => ru 188 11 ls (v.toList ++ []) h)) ∧
  (∀ (x : Int32) (ls : eL) (h : eH), ru 188 11 ls [.int x] h = some (some (.int x), h)) := ⟨fun v t st h => ru_go rfl rfl,
  fun a0 ls h => ru_inv rfl (by decide) rfl (Nat.le_of_ble_eq_true rfl),
  fun v t st h => ru_go rfl rfl,
  fun a ls st h => ru_getf rfl,
  fun a0 ls h => ru_inv rfl (by decide) rfl (Nat.le_of_ble_eq_true rfl),
  fun x ls h => ru_ret rfl rfl⟩
theorem E188 (a0 : Nat) {h : eH} {fs : List Value} (ha : h.1 a0 = .inr (10, fs)) : den 188 [.ref a0] h = ru 188 0 [some (.ref a0)] [] h := den_ob (Nat.le_of_ble_eq_true rfl) ha
/-! 189 X7_cut -/
set_option maxRecDepth 100000 in
theorem S189 : (∀ (x0 x1 : Option Value) (v : Int32) (t : eL) (st : List Value) (h : eH), ru 189 0 (x0 :: x1 :: some (.int v) :: t) st h = ru 189 1 (x0 :: x1 :: some (.int v) :: t) (.int v :: st) h) ∧
  (∀ (x : Int32) (ls : eL) (st : List Value) (h : eH), ru 189 1 ls (.int x :: st) h = swF (eSw 1 x 41 0 2 #[27, 32, 37]) (fun z => ru 189 z ls st h)) ∧
  (∀ (v : Int64) (t : eL) (st : List Value) (h : eH), ru 189 28 (some (.long v) :: t) st h = ru 189 29 (some (.long v) :: t) (.long v :: st) h) ∧
  (∀ (x : Int64) (ls : eL) (st : List Value) (h : eH), ru 189 29 ls (.long x :: st) h = ru 189 30 ls (.int (x.toInt32) :: st) h) ∧
  (∀ (x : Int32) (ls : eL) (st : List Value) (h : eH), ru 189 30 ls (.int x :: st) h = ru 189 31 ls (.int (x.toInt8.toInt32) :: st) h) ∧
  (∀ (x : Int32) (ls : eL) (st : List Value) (h : eH), ru 189 31 ls (.int x :: st) h = ru 189 32 ls (.long (x.toInt64) :: st) h) ∧
  (∀ (x : Int64) (ls : eL) (h : eH), ru 189 32 ls [.long x] h = some (some (.long x), h)) ∧
  (∀ (v : Int64) (t : eL) (st : List Value) (h : eH), ru 189 33 (some (.long v) :: t) st h = ru 189 34 (some (.long v) :: t) (.long v :: st) h) ∧
  (∀ (x : Int64) (ls : eL) (st : List Value) (h : eH), ru 189 34 ls (.long x :: st) h = ru 189 35 ls (.int (x.toInt32) :: st) h) ∧
  (∀ (x : Int32) (ls : eL) (st : List Value) (h : eH), ru 189 35 ls (.int x :: st) h = ru 189 36 ls (.int (x.toInt16.toInt32) :: st) h) ∧
  (∀ (x : Int32) (ls : eL) (st : List Value) (h : eH), ru 189 36 ls (.int x :: st) h = ru 189 37 ls (.long (x.toInt64) :: st) h) ∧
  (∀ (x : Int64) (ls : eL) (h : eH), ru 189 37 ls [.long x] h = some (some (.long x), h)) ∧
  (∀ (v : Int64) (t : eL) (st : List Value) (h : eH), ru 189 38 (some (.long v) :: t) st h = ru 189 39 (some (.long v) :: t) (.long v :: st) h) ∧
  (∀ (x : Int64) (ls : eL) (st : List Value) (h : eH), ru 189 39 ls (.long x :: st) h = ru 189 40 ls (.int (x.toInt32) :: st) h) ∧
  (∀ (x : Int32) (ls : eL) (st : List Value) (h : eH), ru 189 40 ls (.int x :: st) h = ru 189 41 ls (.long (x.toInt64) :: st) h) ∧
  (∀ (x : Int64) (ls : eL) (h : eH), ru 189 41 ls [.long x] h = some (some (.long x), h)) ∧
  (∀ (v : Int64) (t : eL) (st : List Value) (h : eH), ru 189 42 (some (.long v) :: t) st h = ru 189 43 (some (.long v) :: t) (.long v :: st) h) ∧
  (∀ (x : Int64) (ls : eL) (h : eH), ru 189 43 ls [.long x] h = some (some (.long x), h)) := ⟨fun x0 x1 v t st h => ru_go rfl rfl,
  fun x ls st h => ru_sw rfl,
  fun v t st h => ru_go rfl rfl,
  fun x ls st h => ru_go rfl rfl,
  fun x ls st h => ru_go rfl rfl,
  fun x ls st h => ru_go rfl rfl,
  fun x ls h => ru_ret rfl rfl,
  fun v t st h => ru_go rfl rfl,
  fun x ls st h => ru_go rfl rfl,
  fun x ls st h => ru_go rfl rfl,
  fun x ls st h => ru_go rfl rfl,
  fun x ls h => ru_ret rfl rfl,
  fun v t st h => ru_go rfl rfl,
  fun x ls st h => ru_go rfl rfl,
  fun x ls st h => ru_go rfl rfl,
  fun x ls h => ru_ret rfl rfl,
  fun v t st h => ru_go rfl rfl,
  fun x ls h => ru_ret rfl rfl⟩
theorem E189 (a0 : Int64) (a1 : Int32) (h : eH) : den 189 [.long a0, .int a1] h = ru 189 0 [some (.long a0), none, some (.int a1)] [] h := den_st rfl (Nat.le_of_ble_eq_true rfl)
/-! 190 X7_put -/
set_option maxRecDepth 100000 in
theorem S190 : (∀ (x0 x1 : Option Value) (v : Int32) (t : eL) (st : List Value) (h : eH), ru 190 0 (x0 :: x1 :: some (.int v) :: t) st h = ru 190 1 (x0 :: x1 :: some (.int v) :: t) (.int v :: st) h) ∧
  (∀ (x : Int32) (ls : eL) (st : List Value) (h : eH), ru 190 1 ls (.int x :: st) h = if x < 0 then ru 190 14 ls st h else ru 190 4 ls st h) ∧
  (∀ (x0 x1 : Option Value) (v : Int32) (t : eL) (st : List Value) (h : eH), ru 190 4 (x0 :: x1 :: some (.int v) :: t) st h = ru 190 5 (x0 :: x1 :: some (.int v) :: t) (.int v :: st) h) ∧
  (∀ (v : Nat) (t : eL) (st : List Value) (h : eH), ru 190 5 (some (.ref v) :: t) st h = ru 190 6 (some (.ref v) :: t) (.ref v :: st) h) ∧
  (∀ (a : Nat) (ls : eL) (st : List Value) (h : eH), ru 190 6 ls (.ref a :: st) h = gF (h.1 a) 7 2 (fun v => ru 190 9 ls (v :: st) h)) ∧
  (∀ (x0 : Option Value) (v : Int32) (t : eL) (st : List Value) (h : eH), ru 190 9 (x0 :: some (.int v) :: t) st h = ru 190 10 (x0 :: some (.int v) :: t) (.int v :: st) h) ∧
  (∀ (i : Int32) (a : Nat) (ls : eL) (st : List Value) (h : eH), ru 190 10 ls (.int i :: .ref a :: st) h = aI (h.1 a) 0 i (fun v => ru 190 11 ls (.int v :: st) h)) ∧
  (∀ (x y : Int32) (ls : eL) (st : List Value) (h : eH), ru 190 11 ls (.int y :: .int x :: st) h = if x < y then ru 190 16 ls st h else ru 190 14 ls st h) ∧
  (∀ (ls : eL) (st : List Value) (h : eH), ru 190 14 ls st h = ru 190 15 ls (.int (nI 0) :: st) h) ∧
  (∀ (x : Int32) (ls : eL) (h : eH), ru 190 15 ls [.int x] h = bo (x == 0 || x == 1) (some (some (.int x), h))) ∧
  (∀ (v : Nat) (t : eL) (st : List Value) (h : eH), ru 190 16 (some (.ref v) :: t) st h = ru 190 17 (some (.ref v) :: t) (.ref v :: st) h) ∧
  (∀ (a : Nat) (ls : eL) (st : List Value) (h : eH), ru 190 17 ls (.ref a :: st) h = gF (h.1 a) 7 0 (fun v => ru 190 20 ls (v :: st) h)) ∧
  (∀ (x0 : Option Value) (v : Int32) (t : eL) (st : List Value) (h : eH), ru 190 20 (x0 :: some (.int v) :: t) st h = ru 190 21 (x0 :: some (.int v) :: t) (.int v :: st) h) ∧
  (∀ (i : Int32) (a : Nat) (ls : eL) (st : List Value) (h : eH), ru 190 21 ls (.int i :: .ref a :: st) h = aQ (h.1 a) i (fun v => ru 190 22 ls (.ref v :: st) h)) ∧
  (∀ (x0 x1 : Option Value) (v : Int32) (t : eL) (st : List Value) (h : eH), ru 190 22 (x0 :: x1 :: some (.int v) :: t) st h = ru 190 23 (x0 :: x1 :: some (.int v) :: t) (.int v :: st) h) ∧
  (∀ (x0 x1 x2 : Option Value) (v : Int64) (t : eL) (st : List Value) (h : eH), ru 190 23 (x0 :: x1 :: x2 :: some (.long v) :: t) st h = ru 190 24 (x0 :: x1 :: x2 :: some (.long v) :: t) (.long v :: st) h) ∧
  (∀ (v : Nat) (t : eL) (st : List Value) (h : eH), ru 190 24 (some (.ref v) :: t) st h = ru 190 25 (some (.ref v) :: t) (.ref v :: st) h) ∧
  (∀ (a : Nat) (ls : eL) (st : List Value) (h : eH), ru 190 25 ls (.ref a :: st) h = gF (h.1 a) 7 1 (fun v => ru 190 28 ls (v :: st) h)) ∧
  (∀ (x0 : Option Value) (v : Int32) (t : eL) (st : List Value) (h : eH), ru 190 28 (x0 :: some (.int v) :: t) st h = ru 190 29 (x0 :: some (.int v) :: t) (.int v :: st) h) ∧
  (∀ (i : Int32) (a : Nat) (ls : eL) (st : List Value) (h : eH), ru 190 29 ls (.int i :: .ref a :: st) h = aI (h.1 a) 0 i (fun v => ru 190 30 ls (.int v :: st) h)) ∧
  (∀ (a0 : Int64) (a1 : Int32) (u0 : Int32) (u1 : Nat) (ls : eL) (h : eH), ru 190 30 ls [.int a1, .long a0, .int u0, .ref u1] h = cl (den 189 [.long a0, .int a1] h) (fun v h => ru 190 33 ls (v.toList ++ [.int u0, .ref u1]) h)) ∧
  (∀ (x : Int64) (i : Int32) (a : Nat) (ls : eL) (st : List Value) (h : eH), ru 190 33 ls (.long x :: .int i :: .ref a :: st) h = wL (h.1 a) i x (fun e => ru 190 34 ls st (eUp h a e))) ∧
  (∀ (ls : eL) (st : List Value) (h : eH), ru 190 34 ls st h = ru 190 35 ls (.int (nI 1) :: st) h) ∧
  (∀ (x : Int32) (ls : eL) (h : eH), ru 190 35 ls [.int x] h = bo (x == 0 || x == 1) (some (some (.int x), h))) := ⟨fun x0 x1 v t st h => ru_go rfl rfl,
  fun x ls st h => ru_if rfl rfl,
  fun x0 x1 v t st h => ru_go rfl rfl,
  fun v t st h => ru_go rfl rfl,
  fun a ls st h => ru_getf rfl,
  fun x0 v t st h => ru_go rfl rfl,
  fun i a ls st h => ru_iald rfl,
  fun x y ls st h => ru_if rfl rfl,
  fun ls st h => ru_go rfl rfl,
  fun x ls h => ru_bret rfl rfl,
  fun v t st h => ru_go rfl rfl,
  fun a ls st h => ru_getf rfl,
  fun x0 v t st h => ru_go rfl rfl,
  fun i a ls st h => ru_aald rfl,
  fun x0 x1 v t st h => ru_go rfl rfl,
  fun x0 x1 x2 v t st h => ru_go rfl rfl,
  fun v t st h => ru_go rfl rfl,
  fun a ls st h => ru_getf rfl,
  fun x0 v t st h => ru_go rfl rfl,
  fun i a ls st h => ru_iald rfl,
  fun a0 a1 u0 u1 ls h => ru_inv rfl (by decide) rfl (Nat.le_of_ble_eq_true rfl),
  fun x i a ls st h => ru_last rfl,
  fun ls st h => ru_go rfl rfl,
  fun x ls h => ru_bret rfl rfl⟩
theorem E190 (a0 : Nat) (a1 : Int32) (a2 : Int32) (a3 : Int64) {h : eH} {fs : List Value} (ha : h.1 a0 = .inr (7, fs)) : den 190 [.ref a0, .int a1, .int a2, .long a3] h = ru 190 0 [some (.ref a0), some (.int a1), some (.int a2), some (.long a3), none] [] h := den_ob (Nat.le_of_ble_eq_true rfl) ha
/-! 191 X10_write -/
set_option maxRecDepth 100000 in
theorem S191 : (∀ (x0 : Option Value) (v : Int32) (t : eL) (st : List Value) (h : eH), ru 191 0 (x0 :: some (.int v) :: t) st h = ru 191 1 (x0 :: some (.int v) :: t) (.int v :: st) h) ∧
  (∀ (a0 : Int32) (ls : eL) (h : eH), ru 191 1 ls [.int a0] h = cl (den 150 [.int a0] h) (fun v h => ru 191 4 ls (v.toList ++ []) h)) ∧
  (∀ (x : Int32) (ls : eL) (st : List Value) (h : eH), ru 191 4 ls (.int x :: st) h = if x = 0 then ru 191 7 ls st h else ru 191 10 ls st h) ∧
  (∀ (ls : eL) (st : List Value) (h : eH), ru 191 7 ls st h = ru 191 9 ls (.int ((-2)) :: st) h) ∧
  (∀ (x : Int32) (ls : eL) (h : eH), ru 191 9 ls [.int x] h = some (some (.int x), h)) ∧
  (∀ (v : Nat) (t : eL) (st : List Value) (h : eH), ru 191 10 (some (.ref v) :: t) st h = ru 191 11 (some (.ref v) :: t) (.ref v :: st) h) ∧
  (∀ (a : Nat) (ls : eL) (st : List Value) (h : eH), ru 191 11 ls (.ref a :: st) h = gF (h.1 a) 10 0 (fun v => ru 191 14 ls (v :: st) h)) ∧
  (∀ (x0 : Option Value) (v : Int32) (t : eL) (st : List Value) (h : eH), ru 191 14 (x0 :: some (.int v) :: t) st h = ru 191 15 (x0 :: some (.int v) :: t) (.int v :: st) h) ∧
  (∀ (a0 : Nat) (a1 : Int32) (ls : eL) (h : eH), ru 191 15 ls [.int a1, .ref a0] h = cl (den 134 [.ref a0, .int a1] h) (fun v h => ru 191 18 ls (v.toList ++ []) h)) ∧
  (∀ (x : Int32) (ls : eL) (st : List Value) (h : eH), ru 191 18 ls (.int x :: st) h = if x = 0 then ru 191 21 ls st h else ru 191 24 ls st h) ∧
  (∀ (ls : eL) (st : List Value) (h : eH), ru 191 21 ls st h = ru 191 23 ls (.int ((-5)) :: st) h) ∧
  (∀ (x : Int32) (ls : eL) (h : eH), ru 191 23 ls [.int x] h = some (some (.int x), h)) ∧
  (∀ (v : Nat) (t : eL) (st : List Value) (h : eH), ru 191 24 (some (.ref v) :: t) st h = ru 191 25 (some (.ref v) :: t) (.ref v :: st) h) ∧
  (∀ (a : Nat) (ls : eL) (st : List Value) (h : eH), ru 191 25 ls (.ref a :: st) h = gF (h.1 a) 10 0 (fun v => ru 191 28 ls (v :: st) h)) ∧
  (∀ (x0 : Option Value) (v : Int32) (t : eL) (st : List Value) (h : eH), ru 191 28 (x0 :: some (.int v) :: t) st h = ru 191 29 (x0 :: some (.int v) :: t) (.int v :: st) h) ∧
  (∀ (x0 x1 : Option Value) (v : Int32) (t : eL) (st : List Value) (h : eH), ru 191 29 (x0 :: x1 :: some (.int v) :: t) st h = ru 191 30 (x0 :: x1 :: some (.int v) :: t) (.int v :: st) h) ∧
  (∀ (x0 x1 x2 : Option Value) (v : Int64) (t : eL) (st : List Value) (h : eH), ru 191 30 (x0 :: x1 :: x2 :: some (.long v) :: t) st h = ru 191 31 (x0 :: x1 :: x2 :: some (.long v) :: t) (.long v :: st) h) ∧
  (∀ (a0 : Nat) (a1 : Int32) (a2 : Int32) (a3 : Int64) (ls : eL) (h : eH), ru 191 31 ls [.long a3, .int a2, .int a1, .ref a0] h = cl (den 190 [.ref a0, .int a1, .int a2, .long a3] h) (fun v h => ru 191 34 ls (v.toList ++ []) h)) ∧
  (∀ (x : Int32) (ls : eL) (st : List Value) (h : eH), ru 191 34 ls (.int x :: st) h = if x = 0 then ru 191 41 ls st h else ru 191 37 ls st h) ∧
  (∀ (ls : eL) (st : List Value) (h : eH), ru 191 37 ls st h = ru 191 38 ls (.int (nI 0) :: st) h) ∧
  (∀ (ls : eL) (st : List Value) (h : eH), ru 191 38 ls st h = ru 191 43 ls st h) ∧
  (∀ (ls : eL) (st : List Value) (h : eH), ru 191 41 ls st h = ru 191 43 ls (.int ((-6)) :: st) h) ∧
  (∀ (x : Int32) (ls : eL) (h : eH), ru 191 43 ls [.int x] h = some (some (.int x), h)) := ⟨fun x0 v t st h => ru_go rfl rfl,
  fun a0 ls h => ru_inv rfl (by decide) rfl (Nat.le_of_ble_eq_true rfl),
  fun x ls st h => ru_if rfl rfl,
  fun ls st h => ru_go rfl rfl,
  fun x ls h => ru_ret rfl rfl,
  fun v t st h => ru_go rfl rfl,
  fun a ls st h => ru_getf rfl,
  fun x0 v t st h => ru_go rfl rfl,
  fun a0 a1 ls h => ru_inv rfl (by decide) rfl (Nat.le_of_ble_eq_true rfl),
  fun x ls st h => ru_if rfl rfl,
  fun ls st h => ru_go rfl rfl,
  fun x ls h => ru_ret rfl rfl,
  fun v t st h => ru_go rfl rfl,
  fun a ls st h => ru_getf rfl,
  fun x0 v t st h => ru_go rfl rfl,
  fun x0 x1 v t st h => ru_go rfl rfl,
  fun x0 x1 x2 v t st h => ru_go rfl rfl,
  fun a0 a1 a2 a3 ls h => ru_inv rfl (by decide) rfl (Nat.le_of_ble_eq_true rfl),
  fun x ls st h => ru_if rfl rfl,
  fun ls st h => ru_go rfl rfl,
  fun ls st h => ru_go rfl rfl,
  fun ls st h => ru_go rfl rfl,
  fun x ls h => ru_ret rfl rfl⟩
theorem E191 (a0 : Nat) (a1 : Int32) (a2 : Int32) (a3 : Int64) {h : eH} {fs : List Value} (ha : h.1 a0 = .inr (10, fs)) : den 191 [.ref a0, .int a1, .int a2, .long a3] h = ru 191 0 [some (.ref a0), some (.int a1), some (.int a2), some (.long a3), none] [] h := den_ob (Nat.le_of_ble_eq_true rfl) ha
