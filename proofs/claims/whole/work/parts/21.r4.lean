/-! 89 X0_begin -/
set_option maxRecDepth 100000 in
theorem H89_10 : (∀ (x0 x1 x2 : Option Value) (v : Int32) (t : eL) (st : List Value) (h : eH), ru 89 10 (x0 :: x1 :: x2 :: some (.int v) :: t) st h = ru 89 11 (x0 :: x1 :: x2 :: some (.int v) :: t) (.int v :: st) h) := fun x0 x1 x2 v t st h => ru_go rfl rfl
set_option maxRecDepth 100000 in
theorem H89_64 : (∀ (x0 x1 x2 x3 x4 : Option Value) (v : Int32) (t : eL) (st : List Value) (h : eH), ru 89 64 (x0 :: x1 :: x2 :: x3 :: x4 :: some (.int v) :: t) st h = ru 89 66 (x0 :: x1 :: x2 :: x3 :: x4 :: some (.int v) :: t) (.int v :: st) h) := fun x0 x1 x2 x3 x4 v t st h => ru_go rfl rfl
set_option maxRecDepth 100000 in
theorem H89_129 : (∀ (x0 x1 x2 : Option Value) (v : Int32) (t : eL) (st : List Value) (h : eH), ru 89 129 (x0 :: x1 :: x2 :: some (.int v) :: t) st h = ru 89 132 (x0 :: x1 :: eKl x2 :: some (.int (v + 1)) :: t) st h) := fun x0 x1 x2 v t st h => ru_go rfl rfl
set_option maxRecDepth 100000 in
theorem S89 : (∀ (v : Nat) (t : eL) (st : List Value) (h : eH), ru 89 0 (some (.ref v) :: t) st h = ru 89 1 (some (.ref v) :: t) (.ref v :: st) h) ∧
  (∀ (x0 : Option Value) (v : Nat) (t : eL) (st : List Value) (h : eH), ru 89 1 (x0 :: some (.ref v) :: t) st h = ru 89 2 (x0 :: some (.ref v) :: t) (.ref v :: st) h) ∧
  (∀ (a : Nat) (ls : eL) (st : List Value) (h : eH), ru 89 2 ls (.ref a :: st) h = gF (h.1 a) 6 2 (fun v => ru 89 5 ls (v :: st) h)) ∧
  (∀ (v : Int32) (a : Nat) (ls : eL) (st : List Value) (h : eH), ru 89 5 ls (.int v :: .ref a :: st) h = pF (h.1 a) 0 7 (.int v) (fun e => ru 89 8 ls st (eUp h a e))) ∧
  (∀ (ls : eL) (st : List Value) (h : eH), ru 89 8 ls st h = ru 89 9 ls (.int (nI 0) :: st) h) ∧
  (∀ (x0 x1 x2 x3 : Option Value) (v : Int32) (t : eL) (st : List Value) (h : eH), ru 89 9 (x0 :: x1 :: x2 :: x3 :: t) (.int v :: st) h = ru 89 10 (x0 :: x1 :: eKl x2 :: some (.int v) :: t) st h) ∧
  (∀ (v : Nat) (t : eL) (st : List Value) (h : eH), ru 89 11 (some (.ref v) :: t) st h = ru 89 12 (some (.ref v) :: t) (.ref v :: st) h) ∧
  (∀ (a : Nat) (ls : eL) (st : List Value) (h : eH), ru 89 12 ls (.ref a :: st) h = gF (h.1 a) 0 7 (fun v => ru 89 15 ls (v :: st) h)) ∧
  (∀ (x y : Int32) (ls : eL) (st : List Value) (h : eH), ru 89 15 ls (.int y :: .int x :: st) h = if y ≤ x then ru 89 135 ls st h else ru 89 18 ls st h) ∧
  (∀ (x0 : Option Value) (v : Nat) (t : eL) (st : List Value) (h : eH), ru 89 18 (x0 :: some (.ref v) :: t) st h = ru 89 19 (x0 :: some (.ref v) :: t) (.ref v :: st) h) ∧
  (∀ (a : Nat) (ls : eL) (st : List Value) (h : eH), ru 89 19 ls (.ref a :: st) h = gF (h.1 a) 6 8 (fun v => ru 89 22 ls (v :: st) h)) ∧
  (∀ (x0 x1 x2 : Option Value) (v : Int32) (t : eL) (st : List Value) (h : eH), ru 89 22 (x0 :: x1 :: x2 :: some (.int v) :: t) st h = ru 89 23 (x0 :: x1 :: x2 :: some (.int v) :: t) (.int v :: st) h) ∧
  (∀ (i : Int32) (a : Nat) (ls : eL) (st : List Value) (h : eH), ru 89 23 ls (.int i :: .ref a :: st) h = aI (h.1 a) 0 i (fun v => ru 89 24 ls (.int v :: st) h)) ∧
  (∀ (ls : eL) (st : List Value) (h : eH), ru 89 24 ls st h = ru 89 25 ls (.int (nI 1) :: st) h) ∧
  (∀ (x y : Int32) (ls : eL) (st : List Value) (h : eH), ru 89 25 ls (.int y :: .int x :: st) h = if x = y then ru 89 38 ls st h else ru 89 28 ls st h) ∧
  (∀ (x0 : Option Value) (v : Nat) (t : eL) (st : List Value) (h : eH), ru 89 28 (x0 :: some (.ref v) :: t) st h = ru 89 29 (x0 :: some (.ref v) :: t) (.ref v :: st) h) ∧
  (∀ (a : Nat) (ls : eL) (st : List Value) (h : eH), ru 89 29 ls (.ref a :: st) h = gF (h.1 a) 6 8 (fun v => ru 89 32 ls (v :: st) h)) ∧
  (∀ (x0 x1 x2 : Option Value) (v : Int32) (t : eL) (st : List Value) (h : eH), ru 89 32 (x0 :: x1 :: x2 :: some (.int v) :: t) st h = ru 89 33 (x0 :: x1 :: x2 :: some (.int v) :: t) (.int v :: st) h) ∧
  (∀ (i : Int32) (a : Nat) (ls : eL) (st : List Value) (h : eH), ru 89 33 ls (.int i :: .ref a :: st) h = aI (h.1 a) 0 i (fun v => ru 89 34 ls (.int v :: st) h)) ∧
  (∀ (ls : eL) (st : List Value) (h : eH), ru 89 34 ls st h = ru 89 35 ls (.int (nI 2) :: st) h) ∧
  (∀ (x y : Int32) (ls : eL) (st : List Value) (h : eH), ru 89 35 ls (.int y :: .int x :: st) h = if x = y then ru 89 38 ls st h else ru 89 42 ls st h) ∧
  (∀ (ls : eL) (st : List Value) (h : eH), ru 89 38 ls st h = ru 89 39 ls (.int (nI 1) :: st) h) ∧
  (∀ (ls : eL) (st : List Value) (h : eH), ru 89 39 ls st h = ru 89 43 ls st h) ∧
  (∀ (ls : eL) (st : List Value) (h : eH), ru 89 42 ls st h = ru 89 43 ls (.int (nI 0) :: st) h) ∧
  (∀ (x0 x1 x2 x3 x4 : Option Value) (v : Int32) (t : eL) (st : List Value) (h : eH), ru 89 43 (x0 :: x1 :: x2 :: x3 :: x4 :: t) (.int v :: st) h = ru 89 45 (x0 :: x1 :: x2 :: eKl x3 :: some (.int v) :: t) st h) ∧
  (∀ (v : Nat) (t : eL) (st : List Value) (h : eH), ru 89 45 (some (.ref v) :: t) st h = ru 89 46 (some (.ref v) :: t) (.ref v :: st) h) ∧
  (∀ (a : Nat) (ls : eL) (st : List Value) (h : eH), ru 89 46 ls (.ref a :: st) h = gF (h.1 a) 0 6 (fun v => ru 89 49 ls (v :: st) h)) ∧
  (∀ (x0 x1 x2 : Option Value) (v : Int32) (t : eL) (st : List Value) (h : eH), ru 89 49 (x0 :: x1 :: x2 :: some (.int v) :: t) st h = ru 89 50 (x0 :: x1 :: x2 :: some (.int v) :: t) (.int v :: st) h) ∧
  (∀ (x0 x1 x2 x3 : Option Value) (v : Int32) (t : eL) (st : List Value) (h : eH), ru 89 50 (x0 :: x1 :: x2 :: x3 :: some (.int v) :: t) st h = ru 89 52 (x0 :: x1 :: x2 :: x3 :: some (.int v) :: t) (.int v :: st) h) ∧
  (∀ (x : Int32) (ls : eL) (st : List Value) (h : eH), ru 89 52 ls (.int x :: st) h = if x = 0 then ru 89 55 ls st h else ru 89 59 ls st h) ∧
  (∀ (ls : eL) (st : List Value) (h : eH), ru 89 55 ls st h = ru 89 56 ls (.int (nI 1) :: st) h) ∧
  (∀ (ls : eL) (st : List Value) (h : eH), ru 89 56 ls st h = ru 89 60 ls st h) ∧
  (∀ (ls : eL) (st : List Value) (h : eH), ru 89 59 ls st h = ru 89 60 ls (.int (nI 0) :: st) h) ∧
  (∀ (x : Int32) (i : Int32) (a : Nat) (ls : eL) (st : List Value) (h : eH), ru 89 60 ls (.int x :: .int i :: .ref a :: st) h = wZ (h.1 a) i x (fun e => ru 89 61 ls st (eUp h a e))) ∧
  (∀ (ls : eL) (st : List Value) (h : eH), ru 89 61 ls st h = ru 89 62 ls (.int (nI 0) :: st) h) ∧
  (∀ (x0 x1 x2 x3 x4 x5 : Option Value) (v : Int32) (t : eL) (st : List Value) (h : eH), ru 89 62 (x0 :: x1 :: x2 :: x3 :: x4 :: x5 :: t) (.int v :: st) h = ru 89 64 (x0 :: x1 :: x2 :: x3 :: eKl x4 :: some (.int v) :: t) st h) ∧
  (∀ (ls : eL) (st : List Value) (h : eH), ru 89 66 ls st h = ru 89 67 ls (.int (nI 3) :: st) h) ∧
  (∀ (x y : Int32) (ls : eL) (st : List Value) (h : eH), ru 89 67 ls (.int y :: .int x :: st) h = if y ≤ x then ru 89 129 ls st h else ru 89 70 ls st h) ∧
  (∀ (x0 x1 : Option Value) (v : Nat) (t : eL) (st : List Value) (h : eH), ru 89 70 (x0 :: x1 :: some (.ref v) :: t) st h = ru 89 71 (x0 :: x1 :: some (.ref v) :: t) (.ref v :: st) h) ∧
  (∀ (v : Nat) (t : eL) (st : List Value) (h : eH), ru 89 71 (some (.ref v) :: t) st h = ru 89 72 (some (.ref v) :: t) (.ref v :: st) h) ∧
  (∀ (a : Nat) (ls : eL) (st : List Value) (h : eH), ru 89 72 ls (.ref a :: st) h = gF (h.1 a) 0 0 (fun v => ru 89 75 ls (v :: st) h)) ∧
  (∀ (x0 x1 x2 : Option Value) (v : Int32) (t : eL) (st : List Value) (h : eH), ru 89 75 (x0 :: x1 :: x2 :: some (.int v) :: t) st h = ru 89 76 (x0 :: x1 :: x2 :: some (.int v) :: t) (.int v :: st) h) ∧
  (∀ (i : Int32) (a : Nat) (ls : eL) (st : List Value) (h : eH), ru 89 76 ls (.int i :: .ref a :: st) h = aQ (h.1 a) i (fun v => ru 89 77 ls (.ref v :: st) h)) ∧
  (∀ (a : Nat) (ls : eL) (st : List Value) (h : eH), ru 89 77 ls (.ref a :: st) h = gF (h.1 a) 8 0 (fun v => ru 89 80 ls (v :: st) h)) ∧
  (∀ (x0 x1 x2 x3 x4 : Option Value) (v : Int32) (t : eL) (st : List Value) (h : eH), ru 89 80 (x0 :: x1 :: x2 :: x3 :: x4 :: some (.int v) :: t) st h = ru 89 82 (x0 :: x1 :: x2 :: x3 :: x4 :: some (.int v) :: t) (.int v :: st) h) ∧
  (∀ (i : Int32) (a : Nat) (ls : eL) (st : List Value) (h : eH), ru 89 82 ls (.int i :: .ref a :: st) h = aQ (h.1 a) i (fun v => ru 89 83 ls (.ref v :: st) h)) ∧
  (∀ (x0 x1 x2 x3 : Option Value) (v : Int32) (t : eL) (st : List Value) (h : eH), ru 89 83 (x0 :: x1 :: x2 :: x3 :: some (.int v) :: t) st h = ru 89 85 (x0 :: x1 :: x2 :: x3 :: some (.int v) :: t) (.int v :: st) h) ∧
  (∀ (x : Int32) (ls : eL) (st : List Value) (h : eH), ru 89 85 ls (.int x :: st) h = if x = 0 then ru 89 93 ls st h else ru 89 88 ls st h) ∧
  (∀ (x0 x1 x2 x3 x4 : Option Value) (v : Int32) (t : eL) (st : List Value) (h : eH), ru 89 88 (x0 :: x1 :: x2 :: x3 :: x4 :: some (.int v) :: t) st h = ru 89 90 (x0 :: x1 :: x2 :: x3 :: x4 :: some (.int v) :: t) (.int v :: st) h) ∧
  (∀ (ls : eL) (st : List Value) (h : eH), ru 89 90 ls st h = ru 89 94 ls st h) ∧
  (∀ (ls : eL) (st : List Value) (h : eH), ru 89 93 ls st h = ru 89 94 ls (.int ((-1)) :: st) h) ∧
  (∀ (x0 x1 x2 : Option Value) (v : Int32) (t : eL) (st : List Value) (h : eH), ru 89 94 (x0 :: x1 :: x2 :: some (.int v) :: t) st h = ru 89 95 (x0 :: x1 :: x2 :: some (.int v) :: t) (.int v :: st) h) ∧
  (∀ (a0 : Nat) (a1 : Nat) (a2 : Int32) (a3 : Int32) (ls : eL) (h : eH), ru 89 95 ls [.int a3, .int a2, .ref a1, .ref a0] h = cl (den 88 [.ref a0, .ref a1, .int a2, .int a3] h) (fun v h => ru 89 98 ls (v.toList ++ []) h)) ∧
  (∀ (x0 : Option Value) (v : Nat) (t : eL) (st : List Value) (h : eH), ru 89 98 (x0 :: some (.ref v) :: t) st h = ru 89 99 (x0 :: some (.ref v) :: t) (.ref v :: st) h) ∧
  (∀ (a : Nat) (ls : eL) (st : List Value) (h : eH), ru 89 99 ls (.ref a :: st) h = gF (h.1 a) 6 8 (fun v => ru 89 102 ls (v :: st) h)) ∧
  (∀ (x0 x1 x2 : Option Value) (v : Int32) (t : eL) (st : List Value) (h : eH), ru 89 102 (x0 :: x1 :: x2 :: some (.int v) :: t) st h = ru 89 103 (x0 :: x1 :: x2 :: some (.int v) :: t) (.int v :: st) h) ∧
  (∀ (i : Int32) (a : Nat) (ls : eL) (st : List Value) (h : eH), ru 89 103 ls (.int i :: .ref a :: st) h = aI (h.1 a) 0 i (fun v => ru 89 104 ls (.int v :: st) h)) ∧
  (∀ (ls : eL) (st : List Value) (h : eH), ru 89 104 ls st h = ru 89 105 ls (.int (nI 2) :: st) h) ∧
  (∀ (x y : Int32) (ls : eL) (st : List Value) (h : eH), ru 89 105 ls (.int y :: .int x :: st) h = if x = y then ru 89 108 ls st h else ru 89 123 ls st h) ∧
  (∀ (v : Nat) (t : eL) (st : List Value) (h : eH), ru 89 108 (some (.ref v) :: t) st h = ru 89 109 (some (.ref v) :: t) (.ref v :: st) h) ∧
  (∀ (a : Nat) (ls : eL) (st : List Value) (h : eH), ru 89 109 ls (.ref a :: st) h = gF (h.1 a) 0 0 (fun v => ru 89 112 ls (v :: st) h)) ∧
  (∀ (x0 x1 x2 : Option Value) (v : Int32) (t : eL) (st : List Value) (h : eH), ru 89 112 (x0 :: x1 :: x2 :: some (.int v) :: t) st h = ru 89 113 (x0 :: x1 :: x2 :: some (.int v) :: t) (.int v :: st) h) ∧
  (∀ (i : Int32) (a : Nat) (ls : eL) (st : List Value) (h : eH), ru 89 113 ls (.int i :: .ref a :: st) h = aQ (h.1 a) i (fun v => ru 89 114 ls (.ref v :: st) h)) ∧
  (∀ (a : Nat) (ls : eL) (st : List Value) (h : eH), ru 89 114 ls (.ref a :: st) h = gF (h.1 a) 8 0 (fun v => ru 89 117 ls (v :: st) h)) ∧
  (∀ (x0 x1 x2 x3 x4 : Option Value) (v : Int32) (t : eL) (st : List Value) (h : eH), ru 89 117 (x0 :: x1 :: x2 :: x3 :: x4 :: some (.int v) :: t) st h = ru 89 119 (x0 :: x1 :: x2 :: x3 :: x4 :: some (.int v) :: t) (.int v :: st) h) ∧
  (∀ (i : Int32) (a : Nat) (ls : eL) (st : List Value) (h : eH), ru 89 119 ls (.int i :: .ref a :: st) h = aQ (h.1 a) i (fun v => ru 89 120 ls (.ref v :: st) h)) ∧
  (∀ (a0 : Nat) (ls : eL) (h : eH), ru 89 120 ls [.ref a0] h = cl (den 87 [.ref a0] h) (fun v h => ru 89 123 ls (v.toList ++ []) h)) ∧
  (∀ (x0 x1 x2 x3 x4 : Option Value) (v : Int32) (t : eL) (st : List Value) (h : eH), ru 89 123 (x0 :: x1 :: x2 :: x3 :: x4 :: some (.int v) :: t) st h = ru 89 126 (x0 :: x1 :: x2 :: x3 :: eKl x4 :: some (.int (v + 1)) :: t) st h) ∧
  (∀ (ls : eL) (st : List Value) (h : eH), ru 89 126 ls st h = ru 89 64 ls st h) ∧
  (∀ (ls : eL) (st : List Value) (h : eH), ru 89 132 ls st h = ru 89 10 ls st h) ∧
  (∀ (ls : eL) (h : eH), ru 89 135 ls [] h = some (none, h)) := ⟨fun v t st h => ru_go rfl rfl,
  fun x0 v t st h => ru_go rfl rfl,
  fun a ls st h => ru_getf rfl,
  fun v a ls st h => ru_putf rfl,
  fun ls st h => ru_go rfl rfl,
  fun x0 x1 x2 x3 v t st h => ru_go rfl rfl,
  fun v t st h => ru_go rfl rfl,
  fun a ls st h => ru_getf rfl,
  fun x y ls st h => ru_if rfl rfl,
  fun x0 v t st h => ru_go rfl rfl,
  fun a ls st h => ru_getf rfl,
  fun x0 x1 x2 v t st h => ru_go rfl rfl,
  fun i a ls st h => ru_iald rfl,
  fun ls st h => ru_go rfl rfl,
  fun x y ls st h => ru_if rfl rfl,
  fun x0 v t st h => ru_go rfl rfl,
  fun a ls st h => ru_getf rfl,
  fun x0 x1 x2 v t st h => ru_go rfl rfl,
  fun i a ls st h => ru_iald rfl,
  fun ls st h => ru_go rfl rfl,
  fun x y ls st h => ru_if rfl rfl,
  fun ls st h => ru_go rfl rfl,
  fun ls st h => ru_go rfl rfl,
  fun ls st h => ru_go rfl rfl,
  fun x0 x1 x2 x3 x4 v t st h => ru_go rfl rfl,
  fun v t st h => ru_go rfl rfl,
  fun a ls st h => ru_getf rfl,
  fun x0 x1 x2 v t st h => ru_go rfl rfl,
  fun x0 x1 x2 x3 v t st h => ru_go rfl rfl,
  fun x ls st h => ru_if rfl rfl,
  fun ls st h => ru_go rfl rfl,
  fun ls st h => ru_go rfl rfl,
  fun ls st h => ru_go rfl rfl,
  fun x i a ls st h => ru_zast rfl,
  fun ls st h => ru_go rfl rfl,
  fun x0 x1 x2 x3 x4 x5 v t st h => ru_go rfl rfl,
  fun ls st h => ru_go rfl rfl,
  fun x y ls st h => ru_if rfl rfl,
  fun x0 x1 v t st h => ru_go rfl rfl,
  fun v t st h => ru_go rfl rfl,
  fun a ls st h => ru_getf rfl,
  fun x0 x1 x2 v t st h => ru_go rfl rfl,
  fun i a ls st h => ru_aald rfl,
  fun a ls st h => ru_getf rfl,
  fun x0 x1 x2 x3 x4 v t st h => ru_go rfl rfl,
  fun i a ls st h => ru_aald rfl,
  fun x0 x1 x2 x3 v t st h => ru_go rfl rfl,
  fun x ls st h => ru_if rfl rfl,
  fun x0 x1 x2 x3 x4 v t st h => ru_go rfl rfl,
  fun ls st h => ru_go rfl rfl,
  fun ls st h => ru_go rfl rfl,
  fun x0 x1 x2 v t st h => ru_go rfl rfl,
  fun a0 a1 a2 a3 ls h => ru_inv rfl (by decide) rfl (Nat.le_of_ble_eq_true rfl),
  fun x0 v t st h => ru_go rfl rfl,
  fun a ls st h => ru_getf rfl,
  fun x0 x1 x2 v t st h => ru_go rfl rfl,
  fun i a ls st h => ru_iald rfl,
  fun ls st h => ru_go rfl rfl,
  fun x y ls st h => ru_if rfl rfl,
  fun v t st h => ru_go rfl rfl,
  fun a ls st h => ru_getf rfl,
  fun x0 x1 x2 v t st h => ru_go rfl rfl,
  fun i a ls st h => ru_aald rfl,
  fun a ls st h => ru_getf rfl,
  fun x0 x1 x2 x3 x4 v t st h => ru_go rfl rfl,
  fun i a ls st h => ru_aald rfl,
  fun a0 ls h => ru_inv rfl (by decide) rfl (Nat.le_of_ble_eq_true rfl),
  fun x0 x1 x2 x3 x4 v t st h => ru_go rfl rfl,
  fun ls st h => ru_go rfl rfl,
  fun ls st h => ru_go rfl rfl,
  fun ls h => ru_ret rfl rfl⟩
theorem E89 (a0 : Nat) (a1 : Nat) (a2 : Nat) {h : eH} {fs : List Value} (ha : h.1 a0 = .inr (0, fs)) : den 89 [.ref a0, .ref a1, .ref a2] h = ru 89 0 [some (.ref a0), some (.ref a1), some (.ref a2), none, none, none] [] h := den_ob (Nat.le_of_ble_eq_true rfl) ha
/-! 90 X9_init -/
set_option maxRecDepth 100000 in
theorem S90 : (∀ (v : Nat) (t : eL) (st : List Value) (h : eH), ru 90 0 (some (.ref v) :: t) st h = ru 90 1 (some (.ref v) :: t) (.ref v :: st) h) ∧
  (∀ (a : Nat) (ls : eL) (h : eH), ru 90 1 ls [.ref a] h = ru 90 4 ls [] h) ∧
  (∀ (v : Nat) (t : eL) (st : List Value) (h : eH), ru 90 4 (some (.ref v) :: t) st h = ru 90 5 (some (.ref v) :: t) (.ref v :: st) h) ∧
  (∀ (ls : eL) (st : List Value) (h : eH), ru 90 5 ls st h = ru 90 6 ls (.int (nI 1) :: st) h) ∧
  (∀ (x0 : Option Value) (v : Int32) (t : eL) (st : List Value) (h : eH), ru 90 6 (x0 :: some (.int v) :: t) st h = ru 90 7 (x0 :: some (.int v) :: t) (.int v :: st) h) ∧
  (∀ (a0 : Int32) (a1 : Int32) (u0 : Nat) (ls : eL) (h : eH), ru 90 7 ls [.int a1, .int a0, .ref u0] h = cl (den 8 [.int a0, .int a1] h) (fun v h => ru 90 10 ls (v.toList ++ [.ref u0]) h)) ∧
  (∀ (c : Int32) (ls : eL) (st : List Value) (h : eH), ru 90 10 ls (.int c :: st) h = if c < 0 ∨ 1000000 < c.toNatClampNeg then none else ru 90 12 ls (.ref h.2.1 :: st) (va_up h.1 h.2.1 (.inl (0, c.toNatClampNeg, .inl (fun _ => 0))), h.2.1 + 1, h.2.2 + c.toNatClampNeg)) ∧
  (∀ (v : Nat) (a : Nat) (ls : eL) (st : List Value) (h : eH), ru 90 12 ls (.ref v :: .ref a :: st) h = pF (h.1 a) 9 0 (.ref v) (fun e => ru 90 15 ls st (eUp h a e))) ∧
  (∀ (ls : eL) (h : eH), ru 90 15 ls [] h = some (none, h)) := ⟨fun v t st h => ru_go rfl rfl,
  fun a ls h => ru_go rfl rfl,
  fun v t st h => ru_go rfl rfl,
  fun ls st h => ru_go rfl rfl,
  fun x0 v t st h => ru_go rfl rfl,
  fun a0 a1 u0 ls h => ru_inv rfl (by decide) rfl (Nat.le_of_ble_eq_true rfl),
  fun c ls st h => ru_guard rfl rfl,
  fun v a ls st h => ru_putf rfl,
  fun ls h => ru_ret rfl rfl⟩
theorem E90 (a0 : Nat) (a1 : Int32) {h : eH} {fs : List Value} (ha : h.1 a0 = .inr (9, fs)) : den 90 [.ref a0, .int a1] h = ru 90 0 [some (.ref a0), some (.int a1)] [] h := den_ob (Nat.le_of_ble_eq_true rfl) ha
/-! 91 X8_init -/
set_option maxRecDepth 100000 in
theorem H91_14 : (∀ (x0 x1 : Option Value) (v : Int32) (t : eL) (st : List Value) (h : eH), ru 91 14 (x0 :: x1 :: some (.int v) :: t) st h = ru 91 15 (x0 :: x1 :: some (.int v) :: t) (.int v :: st) h) := fun x0 x1 v t st h => ru_go rfl rfl
set_option maxRecDepth 100000 in
theorem S91 : (∀ (v : Nat) (t : eL) (st : List Value) (h : eH), ru 91 0 (some (.ref v) :: t) st h = ru 91 1 (some (.ref v) :: t) (.ref v :: st) h) ∧
  (∀ (a : Nat) (ls : eL) (h : eH), ru 91 1 ls [.ref a] h = ru 91 4 ls [] h) ∧
  (∀ (v : Nat) (t : eL) (st : List Value) (h : eH), ru 91 4 (some (.ref v) :: t) st h = ru 91 5 (some (.ref v) :: t) (.ref v :: st) h) ∧
  (∀ (ls : eL) (st : List Value) (h : eH), ru 91 5 ls st h = ru 91 6 ls (.int (nI 3) :: st) h) ∧
  (∀ (c : Int32) (ls : eL) (st : List Value) (h : eH), ru 91 6 ls (.int c :: st) h = if c < 0 ∨ 1000000 < c.toNatClampNeg then none else ru 91 9 ls (.ref h.2.1 :: st) (va_up h.1 h.2.1 (.inl (3, c.toNatClampNeg, .inr (.inr (.inr (.inr (fun _ => none)))))), h.2.1 + 1, h.2.2 + c.toNatClampNeg)) ∧
  (∀ (v : Nat) (a : Nat) (ls : eL) (st : List Value) (h : eH), ru 91 9 ls (.ref v :: .ref a :: st) h = pF (h.1 a) 8 0 (.ref v) (fun e => ru 91 12 ls st (eUp h a e))) ∧
  (∀ (ls : eL) (st : List Value) (h : eH), ru 91 12 ls st h = ru 91 13 ls (.int (nI 0) :: st) h) ∧
  (∀ (x0 x1 x2 : Option Value) (v : Int32) (t : eL) (st : List Value) (h : eH), ru 91 13 (x0 :: x1 :: x2 :: t) (.int v :: st) h = ru 91 14 (x0 :: eKl x1 :: some (.int v) :: t) st h) ∧
  (∀ (ls : eL) (st : List Value) (h : eH), ru 91 15 ls st h = ru 91 16 ls (.int (nI 3) :: st) h) ∧
  (∀ (x y : Int32) (ls : eL) (st : List Value) (h : eH), ru 91 16 ls (.int y :: .int x :: st) h = if y ≤ x then ru 91 39 ls st h else ru 91 19 ls st h) ∧
  (∀ (v : Nat) (t : eL) (st : List Value) (h : eH), ru 91 19 (some (.ref v) :: t) st h = ru 91 20 (some (.ref v) :: t) (.ref v :: st) h) ∧
  (∀ (a : Nat) (ls : eL) (st : List Value) (h : eH), ru 91 20 ls (.ref a :: st) h = gF (h.1 a) 8 0 (fun v => ru 91 23 ls (v :: st) h)) ∧
  (∀ (x0 x1 : Option Value) (v : Int32) (t : eL) (st : List Value) (h : eH), ru 91 23 (x0 :: x1 :: some (.int v) :: t) st h = ru 91 24 (x0 :: x1 :: some (.int v) :: t) (.int v :: st) h) ∧
  (∀ (ls : eL) (st : List Value) (h : eH), ru 91 24 ls st h = ru 91 27 ls (.ref h.2.1 :: st) (va_up h.1 h.2.1 (.inr (9, [.null, .int 0, .int 0])), h.2.1 + 1, h.2.2 + 3)) ∧
  (∀ (x : Nat) (ls : eL) (st : List Value) (h : eH), ru 91 27 ls (.ref x :: st) h = ru 91 28 ls (.ref x :: .ref x :: st) h) ∧
  (∀ (x0 : Option Value) (v : Int32) (t : eL) (st : List Value) (h : eH), ru 91 28 (x0 :: some (.int v) :: t) st h = ru 91 29 (x0 :: some (.int v) :: t) (.int v :: st) h) ∧
  (∀ (a0 : Nat) (a1 : Int32) (u0 : Nat) (u1 : Int32) (u2 : Nat) (ls : eL) (h : eH), ru 91 29 ls [.int a1, .ref a0, .ref u0, .int u1, .ref u2] h = cl (den 90 [.ref a0, .int a1] h) (fun v h => ru 91 32 ls (v.toList ++ [.ref u0, .int u1, .ref u2]) h)) ∧
  (∀ (v : Nat) (i : Int32) (a : Nat) (ls : eL) (st : List Value) (h : eH), ru 91 32 ls (.ref v :: .int i :: .ref a :: st) h = wQ (h.1 a) (h.1 v) i v (fun e => ru 91 33 ls st (eUp h a e))) ∧
  (∀ (x0 x1 : Option Value) (v : Int32) (t : eL) (st : List Value) (h : eH), ru 91 33 (x0 :: x1 :: some (.int v) :: t) st h = ru 91 36 (x0 :: eKl x1 :: some (.int (v + 1)) :: t) st h) ∧
  (∀ (ls : eL) (st : List Value) (h : eH), ru 91 36 ls st h = ru 91 14 ls st h) ∧
  (∀ (ls : eL) (h : eH), ru 91 39 ls [] h = some (none, h)) := ⟨fun v t st h => ru_go rfl rfl,
  fun a ls h => ru_go rfl rfl,
  fun v t st h => ru_go rfl rfl,
  fun ls st h => ru_go rfl rfl,
  fun c ls st h => ru_guard rfl rfl,
  fun v a ls st h => ru_putf rfl,
  fun ls st h => ru_go rfl rfl,
  fun x0 x1 x2 v t st h => ru_go rfl rfl,
  fun ls st h => ru_go rfl rfl,
  fun x y ls st h => ru_if rfl rfl,
  fun v t st h => ru_go rfl rfl,
  fun a ls st h => ru_getf rfl,
  fun x0 x1 v t st h => ru_go rfl rfl,
  fun ls st h => ru_go rfl rfl,
  fun x ls st h => ru_go rfl rfl,
  fun x0 v t st h => ru_go rfl rfl,
  fun a0 a1 u0 u1 u2 ls h => ru_inv rfl (by decide) rfl (Nat.le_of_ble_eq_true rfl),
  fun v i a ls st h => ru_aast rfl,
  fun x0 x1 v t st h => ru_go rfl rfl,
  fun ls st h => ru_go rfl rfl,
  fun ls h => ru_ret rfl rfl⟩
theorem E91 (a0 : Nat) (a1 : Int32) {h : eH} {fs : List Value} (ha : h.1 a0 = .inr (8, fs)) : den 91 [.ref a0, .int a1] h = ru 91 0 [some (.ref a0), some (.int a1), none] [] h := den_ob (Nat.le_of_ble_eq_true rfl) ha
/-! 92 X0_init -/
set_option maxRecDepth 100000 in
theorem H92_83 : (∀ (x0 : Option Value) (v : Int32) (t : eL) (st : List Value) (h : eH), ru 92 83 (x0 :: some (.int v) :: t) st h = ru 92 84 (x0 :: some (.int v) :: t) (.int v :: st) h) := fun x0 v t st h => ru_go rfl rfl
set_option maxRecDepth 100000 in
theorem S92 : (∀ (v : Nat) (t : eL) (st : List Value) (h : eH), ru 92 0 (some (.ref v) :: t) st h = ru 92 1 (some (.ref v) :: t) (.ref v :: st) h) ∧
  (∀ (a : Nat) (ls : eL) (h : eH), ru 92 1 ls [.ref a] h = ru 92 4 ls [] h) ∧
  (∀ (v : Nat) (t : eL) (st : List Value) (h : eH), ru 92 4 (some (.ref v) :: t) st h = ru 92 5 (some (.ref v) :: t) (.ref v :: st) h) ∧
  (∀ (ls : eL) (st : List Value) (h : eH), ru 92 5 ls st h = ru 92 7 ls (.int (nI 14) :: st) h) ∧
  (∀ (c : Int32) (ls : eL) (st : List Value) (h : eH), ru 92 7 ls (.int c :: st) h = if c < 0 ∨ 1000000 < c.toNatClampNeg then none else ru 92 10 ls (.ref h.2.1 :: st) (va_up h.1 h.2.1 (.inl (4, c.toNatClampNeg, .inr (.inr (.inr (.inr (fun _ => none)))))), h.2.1 + 1, h.2.2 + c.toNatClampNeg)) ∧
  (∀ (v : Nat) (a : Nat) (ls : eL) (st : List Value) (h : eH), ru 92 10 ls (.ref v :: .ref a :: st) h = pF (h.1 a) 0 0 (.ref v) (fun e => ru 92 13 ls st (eUp h a e))) ∧
  (∀ (v : Nat) (t : eL) (st : List Value) (h : eH), ru 92 13 (some (.ref v) :: t) st h = ru 92 14 (some (.ref v) :: t) (.ref v :: st) h) ∧
  (∀ (ls : eL) (st : List Value) (h : eH), ru 92 14 ls st h = ru 92 17 ls (.ref h.2.1 :: st) (va_up h.1 h.2.1 (.inr (8, [.null])), h.2.1 + 1, h.2.2 + 1)) ∧
  (∀ (x : Nat) (ls : eL) (st : List Value) (h : eH), ru 92 17 ls (.ref x :: st) h = ru 92 18 ls (.ref x :: .ref x :: st) h) ∧
  (∀ (ls : eL) (st : List Value) (h : eH), ru 92 18 ls st h = ru 92 20 ls (.int (nI 36) :: st) h) ∧
  (∀ (a0 : Nat) (a1 : Int32) (u0 : Nat) (u1 : Nat) (ls : eL) (h : eH), ru 92 20 ls [.int a1, .ref a0, .ref u0, .ref u1] h = cl (den 91 [.ref a0, .int a1] h) (fun v h => ru 92 23 ls (v.toList ++ [.ref u0, .ref u1]) h)) ∧
  (∀ (v : Nat) (a : Nat) (ls : eL) (st : List Value) (h : eH), ru 92 23 ls (.ref v :: .ref a :: st) h = pF (h.1 a) 0 1 (.ref v) (fun e => ru 92 26 ls st (eUp h a e))) ∧
  (∀ (v : Nat) (t : eL) (st : List Value) (h : eH), ru 92 26 (some (.ref v) :: t) st h = ru 92 27 (some (.ref v) :: t) (.ref v :: st) h) ∧
  (∀ (ls : eL) (st : List Value) (h : eH), ru 92 27 ls st h = ru 92 30 ls (.ref h.2.1 :: st) (va_up h.1 h.2.1 (.inr (8, [.null])), h.2.1 + 1, h.2.2 + 1)) ∧
  (∀ (x : Nat) (ls : eL) (st : List Value) (h : eH), ru 92 30 ls (.ref x :: st) h = ru 92 31 ls (.ref x :: .ref x :: st) h) ∧
  (∀ (ls : eL) (st : List Value) (h : eH), ru 92 31 ls st h = ru 92 33 ls (.int (nI 36) :: st) h) ∧
  (∀ (a0 : Nat) (a1 : Int32) (u0 : Nat) (u1 : Nat) (ls : eL) (h : eH), ru 92 33 ls [.int a1, .ref a0, .ref u0, .ref u1] h = cl (den 91 [.ref a0, .int a1] h) (fun v h => ru 92 36 ls (v.toList ++ [.ref u0, .ref u1]) h)) ∧
  (∀ (v : Nat) (a : Nat) (ls : eL) (st : List Value) (h : eH), ru 92 36 ls (.ref v :: .ref a :: st) h = pF (h.1 a) 0 2 (.ref v) (fun e => ru 92 39 ls st (eUp h a e))) ∧
  (∀ (v : Nat) (t : eL) (st : List Value) (h : eH), ru 92 39 (some (.ref v) :: t) st h = ru 92 40 (some (.ref v) :: t) (.ref v :: st) h) ∧
  (∀ (ls : eL) (st : List Value) (h : eH), ru 92 40 ls st h = ru 92 43 ls (.ref h.2.1 :: st) (va_up h.1 h.2.1 (.inr (9, [.null, .int 0, .int 0])), h.2.1 + 1, h.2.2 + 3)) ∧
  (∀ (x : Nat) (ls : eL) (st : List Value) (h : eH), ru 92 43 ls (.ref x :: st) h = ru 92 44 ls (.ref x :: .ref x :: st) h) ∧
  (∀ (ls : eL) (st : List Value) (h : eH), ru 92 44 ls st h = ru 92 46 ls (.int (nI 36) :: st) h) ∧
  (∀ (a0 : Nat) (a1 : Int32) (u0 : Nat) (u1 : Nat) (ls : eL) (h : eH), ru 92 46 ls [.int a1, .ref a0, .ref u0, .ref u1] h = cl (den 90 [.ref a0, .int a1] h) (fun v h => ru 92 49 ls (v.toList ++ [.ref u0, .ref u1]) h)) ∧
  (∀ (v : Nat) (a : Nat) (ls : eL) (st : List Value) (h : eH), ru 92 49 ls (.ref v :: .ref a :: st) h = pF (h.1 a) 0 3 (.ref v) (fun e => ru 92 52 ls st (eUp h a e))) ∧
  (∀ (v : Nat) (t : eL) (st : List Value) (h : eH), ru 92 52 (some (.ref v) :: t) st h = ru 92 53 (some (.ref v) :: t) (.ref v :: st) h) ∧
  (∀ (ls : eL) (st : List Value) (h : eH), ru 92 53 ls st h = ru 92 56 ls (.ref h.2.1 :: st) (va_up h.1 h.2.1 (.inr (9, [.null, .int 0, .int 0])), h.2.1 + 1, h.2.2 + 3)) ∧
  (∀ (x : Nat) (ls : eL) (st : List Value) (h : eH), ru 92 56 ls (.ref x :: st) h = ru 92 57 ls (.ref x :: .ref x :: st) h) ∧
  (∀ (ls : eL) (st : List Value) (h : eH), ru 92 57 ls st h = ru 92 59 ls (.int (nI 36) :: st) h) ∧
  (∀ (a0 : Nat) (a1 : Int32) (u0 : Nat) (u1 : Nat) (ls : eL) (h : eH), ru 92 59 ls [.int a1, .ref a0, .ref u0, .ref u1] h = cl (den 90 [.ref a0, .int a1] h) (fun v h => ru 92 62 ls (v.toList ++ [.ref u0, .ref u1]) h)) ∧
  (∀ (v : Nat) (a : Nat) (ls : eL) (st : List Value) (h : eH), ru 92 62 ls (.ref v :: .ref a :: st) h = pF (h.1 a) 0 4 (.ref v) (fun e => ru 92 65 ls st (eUp h a e))) ∧
  (∀ (v : Nat) (t : eL) (st : List Value) (h : eH), ru 92 65 (some (.ref v) :: t) st h = ru 92 66 (some (.ref v) :: t) (.ref v :: st) h) ∧
  (∀ (ls : eL) (st : List Value) (h : eH), ru 92 66 ls st h = ru 92 68 ls (.int (nI 14) :: st) h) ∧
  (∀ (c : Int32) (ls : eL) (st : List Value) (h : eH), ru 92 68 ls (.int c :: st) h = if c < 0 ∨ 1000000 < c.toNatClampNeg then none else ru 92 70 ls (.ref h.2.1 :: st) (va_up h.1 h.2.1 (.inl (0, c.toNatClampNeg, .inl (fun _ => 0))), h.2.1 + 1, h.2.2 + c.toNatClampNeg)) ∧
  (∀ (v : Nat) (a : Nat) (ls : eL) (st : List Value) (h : eH), ru 92 70 ls (.ref v :: .ref a :: st) h = pF (h.1 a) 0 5 (.ref v) (fun e => ru 92 73 ls st (eUp h a e))) ∧
  (∀ (v : Nat) (t : eL) (st : List Value) (h : eH), ru 92 73 (some (.ref v) :: t) st h = ru 92 74 (some (.ref v) :: t) (.ref v :: st) h) ∧
  (∀ (ls : eL) (st : List Value) (h : eH), ru 92 74 ls st h = ru 92 76 ls (.int (nI 14) :: st) h) ∧
  (∀ (c : Int32) (ls : eL) (st : List Value) (h : eH), ru 92 76 ls (.int c :: st) h = if c < 0 ∨ 1000000 < c.toNatClampNeg then none else ru 92 78 ls (.ref h.2.1 :: st) (va_up h.1 h.2.1 (.inl (2, c.toNatClampNeg, .inl (fun _ => 0))), h.2.1 + 1, h.2.2 + c.toNatClampNeg)) ∧
  (∀ (v : Nat) (a : Nat) (ls : eL) (st : List Value) (h : eH), ru 92 78 ls (.ref v :: .ref a :: st) h = pF (h.1 a) 0 6 (.ref v) (fun e => ru 92 81 ls st (eUp h a e))) ∧
  (∀ (ls : eL) (st : List Value) (h : eH), ru 92 81 ls st h = ru 92 82 ls (.int (nI 0) :: st) h) ∧
  (∀ (x0 x1 : Option Value) (v : Int32) (t : eL) (st : List Value) (h : eH), ru 92 82 (x0 :: x1 :: t) (.int v :: st) h = ru 92 83 (eKl x0 :: some (.int v) :: t) st h) ∧
  (∀ (ls : eL) (st : List Value) (h : eH), ru 92 84 ls st h = ru 92 86 ls (.int (nI 14) :: st) h) ∧
  (∀ (x y : Int32) (ls : eL) (st : List Value) (h : eH), ru 92 86 ls (.int y :: .int x :: st) h = if y ≤ x then ru 92 109 ls st h else ru 92 89 ls st h) ∧
  (∀ (v : Nat) (t : eL) (st : List Value) (h : eH), ru 92 89 (some (.ref v) :: t) st h = ru 92 90 (some (.ref v) :: t) (.ref v :: st) h) ∧
  (∀ (a : Nat) (ls : eL) (st : List Value) (h : eH), ru 92 90 ls (.ref a :: st) h = gF (h.1 a) 0 0 (fun v => ru 92 93 ls (v :: st) h)) ∧
  (∀ (x0 : Option Value) (v : Int32) (t : eL) (st : List Value) (h : eH), ru 92 93 (x0 :: some (.int v) :: t) st h = ru 92 94 (x0 :: some (.int v) :: t) (.int v :: st) h) ∧
  (∀ (ls : eL) (st : List Value) (h : eH), ru 92 94 ls st h = ru 92 97 ls (.ref h.2.1 :: st) (va_up h.1 h.2.1 (.inr (8, [.null])), h.2.1 + 1, h.2.2 + 1)) ∧
  (∀ (x : Nat) (ls : eL) (st : List Value) (h : eH), ru 92 97 ls (.ref x :: st) h = ru 92 98 ls (.ref x :: .ref x :: st) h) ∧
  (∀ (ls : eL) (st : List Value) (h : eH), ru 92 98 ls st h = ru 92 99 ls (.int (nI 5) :: st) h) ∧
  (∀ (a0 : Nat) (a1 : Int32) (u0 : Nat) (u1 : Int32) (u2 : Nat) (ls : eL) (h : eH), ru 92 99 ls [.int a1, .ref a0, .ref u0, .int u1, .ref u2] h = cl (den 91 [.ref a0, .int a1] h) (fun v h => ru 92 102 ls (v.toList ++ [.ref u0, .int u1, .ref u2]) h)) ∧
  (∀ (v : Nat) (i : Int32) (a : Nat) (ls : eL) (st : List Value) (h : eH), ru 92 102 ls (.ref v :: .int i :: .ref a :: st) h = wQ (h.1 a) (h.1 v) i v (fun e => ru 92 103 ls st (eUp h a e))) ∧
  (∀ (x0 : Option Value) (v : Int32) (t : eL) (st : List Value) (h : eH), ru 92 103 (x0 :: some (.int v) :: t) st h = ru 92 106 (eKl x0 :: some (.int (v + 1)) :: t) st h) ∧
  (∀ (ls : eL) (st : List Value) (h : eH), ru 92 106 ls st h = ru 92 83 ls st h) ∧
  (∀ (ls : eL) (h : eH), ru 92 109 ls [] h = some (none, h)) := ⟨fun v t st h => ru_go rfl rfl,
  fun a ls h => ru_go rfl rfl,
  fun v t st h => ru_go rfl rfl,
  fun ls st h => ru_go rfl rfl,
  fun c ls st h => ru_guard rfl rfl,
  fun v a ls st h => ru_putf rfl,
  fun v t st h => ru_go rfl rfl,
  fun ls st h => ru_go rfl rfl,
  fun x ls st h => ru_go rfl rfl,
  fun ls st h => ru_go rfl rfl,
  fun a0 a1 u0 u1 ls h => ru_inv rfl (by decide) rfl (Nat.le_of_ble_eq_true rfl),
  fun v a ls st h => ru_putf rfl,
  fun v t st h => ru_go rfl rfl,
  fun ls st h => ru_go rfl rfl,
  fun x ls st h => ru_go rfl rfl,
  fun ls st h => ru_go rfl rfl,
  fun a0 a1 u0 u1 ls h => ru_inv rfl (by decide) rfl (Nat.le_of_ble_eq_true rfl),
  fun v a ls st h => ru_putf rfl,
  fun v t st h => ru_go rfl rfl,
  fun ls st h => ru_go rfl rfl,
  fun x ls st h => ru_go rfl rfl,
  fun ls st h => ru_go rfl rfl,
  fun a0 a1 u0 u1 ls h => ru_inv rfl (by decide) rfl (Nat.le_of_ble_eq_true rfl),
  fun v a ls st h => ru_putf rfl,
  fun v t st h => ru_go rfl rfl,
  fun ls st h => ru_go rfl rfl,
  fun x ls st h => ru_go rfl rfl,
  fun ls st h => ru_go rfl rfl,
  fun a0 a1 u0 u1 ls h => ru_inv rfl (by decide) rfl (Nat.le_of_ble_eq_true rfl),
  fun v a ls st h => ru_putf rfl,
  fun v t st h => ru_go rfl rfl,
  fun ls st h => ru_go rfl rfl,
  fun c ls st h => ru_guard rfl rfl,
  fun v a ls st h => ru_putf rfl,
  fun v t st h => ru_go rfl rfl,
  fun ls st h => ru_go rfl rfl,
  fun c ls st h => ru_guard rfl rfl,
  fun v a ls st h => ru_putf rfl,
  fun ls st h => ru_go rfl rfl,
  fun x0 x1 v t st h => ru_go rfl rfl,
  fun ls st h => ru_go rfl rfl,
  fun x y ls st h => ru_if rfl rfl,
  fun v t st h => ru_go rfl rfl,
  fun a ls st h => ru_getf rfl,
  fun x0 v t st h => ru_go rfl rfl,
  fun ls st h => ru_go rfl rfl,
  fun x ls st h => ru_go rfl rfl,
  fun ls st h => ru_go rfl rfl,
  fun a0 a1 u0 u1 u2 ls h => ru_inv rfl (by decide) rfl (Nat.le_of_ble_eq_true rfl),
  fun v i a ls st h => ru_aast rfl,
  fun x0 v t st h => ru_go rfl rfl,
  fun ls st h => ru_go rfl rfl,
  fun ls h => ru_ret rfl rfl⟩
theorem E92 (a0 : Nat) {h : eH} {fs : List Value} (ha : h.1 a0 = .inr (0, fs)) : den 92 [.ref a0] h = ru 92 0 [some (.ref a0), none] [] h := den_ob (Nat.le_of_ble_eq_true rfl) ha
/-! 93 X8_isNought -/
set_option maxRecDepth 100000 in
theorem H93_4 : (∀ (x0 x1 : Option Value) (v : Int32) (t : eL) (st : List Value) (h : eH), ru 93 4 (x0 :: x1 :: some (.int v) :: t) st h = ru 93 5 (x0 :: x1 :: some (.int v) :: t) (.int v :: st) h) := fun x0 x1 v t st h => ru_go rfl rfl
set_option maxRecDepth 100000 in
theorem H93_37 : (∀ (x0 : Option Value) (v : Int32) (t : eL) (st : List Value) (h : eH), ru 93 37 (x0 :: some (.int v) :: t) st h = ru 93 38 (x0 :: some (.int v) :: t) (.int v :: st) h) := fun x0 v t st h => ru_go rfl rfl
set_option maxRecDepth 100000 in
theorem S93 : (∀ (ls : eL) (st : List Value) (h : eH), ru 93 0 ls st h = ru 93 1 ls (.int (nI 1) :: st) h) ∧
  (∀ (x0 x1 : Option Value) (v : Int32) (t : eL) (st : List Value) (h : eH), ru 93 1 (x0 :: x1 :: t) (.int v :: st) h = ru 93 2 (eKl x0 :: some (.int v) :: t) st h) ∧
  (∀ (ls : eL) (st : List Value) (h : eH), ru 93 2 ls st h = ru 93 3 ls (.int (nI 0) :: st) h) ∧
  (∀ (x0 x1 x2 : Option Value) (v : Int32) (t : eL) (st : List Value) (h : eH), ru 93 3 (x0 :: x1 :: x2 :: t) (.int v :: st) h = ru 93 4 (x0 :: eKl x1 :: some (.int v) :: t) st h) ∧
  (∀ (ls : eL) (st : List Value) (h : eH), ru 93 5 ls st h = ru 93 6 ls (.int (nI 3) :: st) h) ∧
  (∀ (x y : Int32) (ls : eL) (st : List Value) (h : eH), ru 93 6 ls (.int y :: .int x :: st) h = if y ≤ x then ru 93 37 ls st h else ru 93 9 ls st h) ∧
  (∀ (x0 : Option Value) (v : Int32) (t : eL) (st : List Value) (h : eH), ru 93 9 (x0 :: some (.int v) :: t) st h = ru 93 10 (x0 :: some (.int v) :: t) (.int v :: st) h) ∧
  (∀ (x : Int32) (ls : eL) (st : List Value) (h : eH), ru 93 10 ls (.int x :: st) h = if x = 0 then ru 93 29 ls st h else ru 93 13 ls st h) ∧
  (∀ (v : Nat) (t : eL) (st : List Value) (h : eH), ru 93 13 (some (.ref v) :: t) st h = ru 93 14 (some (.ref v) :: t) (.ref v :: st) h) ∧
  (∀ (a : Nat) (ls : eL) (st : List Value) (h : eH), ru 93 14 ls (.ref a :: st) h = gF (h.1 a) 8 0 (fun v => ru 93 17 ls (v :: st) h)) ∧
  (∀ (x0 x1 : Option Value) (v : Int32) (t : eL) (st : List Value) (h : eH), ru 93 17 (x0 :: x1 :: some (.int v) :: t) st h = ru 93 18 (x0 :: x1 :: some (.int v) :: t) (.int v :: st) h) ∧
  (∀ (i : Int32) (a : Nat) (ls : eL) (st : List Value) (h : eH), ru 93 18 ls (.int i :: .ref a :: st) h = aQ (h.1 a) i (fun v => ru 93 19 ls (.ref v :: st) h)) ∧
  (∀ (a : Nat) (ls : eL) (st : List Value) (h : eH), ru 93 19 ls (.ref a :: st) h = gF (h.1 a) 9 1 (fun v => ru 93 22 ls (v :: st) h)) ∧
  (∀ (x : Int32) (ls : eL) (st : List Value) (h : eH), ru 93 22 ls (.int x :: st) h = if x = 0 then ru 93 25 ls st h else ru 93 29 ls st h) ∧
  (∀ (ls : eL) (st : List Value) (h : eH), ru 93 25 ls st h = ru 93 26 ls (.int (nI 1) :: st) h) ∧
  (∀ (ls : eL) (st : List Value) (h : eH), ru 93 26 ls st h = ru 93 30 ls st h) ∧
  (∀ (ls : eL) (st : List Value) (h : eH), ru 93 29 ls st h = ru 93 30 ls (.int (nI 0) :: st) h) ∧
  (∀ (x0 x1 : Option Value) (v : Int32) (t : eL) (st : List Value) (h : eH), ru 93 30 (x0 :: x1 :: t) (.int v :: st) h = ru 93 31 (eKl x0 :: some (.int v) :: t) st h) ∧
  (∀ (x0 x1 : Option Value) (v : Int32) (t : eL) (st : List Value) (h : eH), ru 93 31 (x0 :: x1 :: some (.int v) :: t) st h = ru 93 34 (x0 :: eKl x1 :: some (.int (v + 1)) :: t) st h) ∧
  (∀ (ls : eL) (st : List Value) (h : eH), ru 93 34 ls st h = ru 93 4 ls st h) ∧
  (∀ (x : Int32) (ls : eL) (h : eH), ru 93 38 ls [.int x] h = bo (x == 0 || x == 1) (some (some (.int x), h))) := ⟨fun ls st h => ru_go rfl rfl,
  fun x0 x1 v t st h => ru_go rfl rfl,
  fun ls st h => ru_go rfl rfl,
  fun x0 x1 x2 v t st h => ru_go rfl rfl,
  fun ls st h => ru_go rfl rfl,
  fun x y ls st h => ru_if rfl rfl,
  fun x0 v t st h => ru_go rfl rfl,
  fun x ls st h => ru_if rfl rfl,
  fun v t st h => ru_go rfl rfl,
  fun a ls st h => ru_getf rfl,
  fun x0 x1 v t st h => ru_go rfl rfl,
  fun i a ls st h => ru_aald rfl,
  fun a ls st h => ru_getf rfl,
  fun x ls st h => ru_if rfl rfl,
  fun ls st h => ru_go rfl rfl,
  fun ls st h => ru_go rfl rfl,
  fun ls st h => ru_go rfl rfl,
  fun x0 x1 v t st h => ru_go rfl rfl,
  fun x0 x1 v t st h => ru_go rfl rfl,
  fun ls st h => ru_go rfl rfl,
  fun x ls h => ru_bret rfl rfl⟩
theorem E93 (a0 : Nat) {h : eH} {fs : List Value} (ha : h.1 a0 = .inr (8, fs)) : den 93 [.ref a0] h = ru 93 0 [some (.ref a0), none, none] [] h := den_ob (Nat.le_of_ble_eq_true rfl) ha
/-! 94 X9_fit -/
set_option maxRecDepth 100000 in
theorem S94 : (∀ (x0 : Option Value) (v : Int32) (t : eL) (st : List Value) (h : eH), ru 94 0 (x0 :: some (.int v) :: t) st h = ru 94 1 (x0 :: some (.int v) :: t) (.int v :: st) h) ∧
  (∀ (v : Nat) (t : eL) (st : List Value) (h : eH), ru 94 1 (some (.ref v) :: t) st h = ru 94 2 (some (.ref v) :: t) (.ref v :: st) h) ∧
  (∀ (a : Nat) (ls : eL) (st : List Value) (h : eH), ru 94 2 ls (.ref a :: st) h = gF (h.1 a) 9 0 (fun v => ru 94 5 ls (v :: st) h)) ∧
  (∀ (a : Nat) (ls : eL) (st : List Value) (h : eH), ru 94 5 ls (.ref a :: st) h = aN (h.1 a) (fun v => ru 94 6 ls (.int v :: st) h)) ∧
  (∀ (x y : Int32) (ls : eL) (st : List Value) (h : eH), ru 94 6 ls (.int y :: .int x :: st) h = if y ≤ x then ru 94 13 ls st h else ru 94 9 ls st h) ∧
  (∀ (x0 : Option Value) (v : Int32) (t : eL) (st : List Value) (h : eH), ru 94 9 (x0 :: some (.int v) :: t) st h = ru 94 10 (x0 :: some (.int v) :: t) (.int v :: st) h) ∧
  (∀ (ls : eL) (st : List Value) (h : eH), ru 94 10 ls st h = ru 94 18 ls st h) ∧
  (∀ (v : Nat) (t : eL) (st : List Value) (h : eH), ru 94 13 (some (.ref v) :: t) st h = ru 94 14 (some (.ref v) :: t) (.ref v :: st) h) ∧
  (∀ (a : Nat) (ls : eL) (st : List Value) (h : eH), ru 94 14 ls (.ref a :: st) h = gF (h.1 a) 9 0 (fun v => ru 94 17 ls (v :: st) h)) ∧
  (∀ (a : Nat) (ls : eL) (st : List Value) (h : eH), ru 94 17 ls (.ref a :: st) h = aN (h.1 a) (fun v => ru 94 18 ls (.int v :: st) h)) ∧
  (∀ (x : Int32) (ls : eL) (h : eH), ru 94 18 ls [.int x] h = some (some (.int x), h)) := ⟨fun x0 v t st h => ru_go rfl rfl,
  fun v t st h => ru_go rfl rfl,
  fun a ls st h => ru_getf rfl,
  fun a ls st h => ru_alen rfl,
  fun x y ls st h => ru_if rfl rfl,
  fun x0 v t st h => ru_go rfl rfl,
  fun ls st h => ru_go rfl rfl,
  fun v t st h => ru_go rfl rfl,
  fun a ls st h => ru_getf rfl,
  fun a ls st h => ru_alen rfl,
  fun x ls h => ru_ret rfl rfl⟩
theorem E94 (a0 : Nat) (a1 : Int32) {h : eH} {fs : List Value} (ha : h.1 a0 = .inr (9, fs)) : den 94 [.ref a0, .int a1] h = ru 94 0 [some (.ref a0), some (.int a1)] [] h := den_ob (Nat.le_of_ble_eq_true rfl) ha
/-! 95 X9_trim -/
set_option maxRecDepth 100000 in
theorem H95_29 : (∀ (x0 x1 : Option Value) (v : Int32) (t : eL) (st : List Value) (h : eH), ru 95 29 (x0 :: x1 :: some (.int v) :: t) st h = ru 95 30 (x0 :: x1 :: some (.int v) :: t) (.int v :: st) h) := fun x0 x1 v t st h => ru_go rfl rfl
set_option maxRecDepth 100000 in
theorem H95_53 : (∀ (v : Nat) (t : eL) (st : List Value) (h : eH), ru 95 53 (some (.ref v) :: t) st h = ru 95 54 (some (.ref v) :: t) (.ref v :: st) h) := fun v t st h => ru_go rfl rfl
set_option maxRecDepth 100000 in
theorem S95 : (∀ (v : Nat) (t : eL) (st : List Value) (h : eH), ru 95 0 (some (.ref v) :: t) st h = ru 95 1 (some (.ref v) :: t) (.ref v :: st) h) ∧
  (∀ (x0 : Option Value) (v : Int32) (t : eL) (st : List Value) (h : eH), ru 95 1 (x0 :: some (.int v) :: t) st h = ru 95 2 (x0 :: some (.int v) :: t) (.int v :: st) h) ∧
  (∀ (v : Nat) (t : eL) (st : List Value) (h : eH), ru 95 2 (some (.ref v) :: t) st h = ru 95 3 (some (.ref v) :: t) (.ref v :: st) h) ∧
  (∀ (a : Nat) (ls : eL) (st : List Value) (h : eH), ru 95 3 ls (.ref a :: st) h = gF (h.1 a) 9 0 (fun v => ru 95 6 ls (v :: st) h)) ∧
  (∀ (a : Nat) (ls : eL) (st : List Value) (h : eH), ru 95 6 ls (.ref a :: st) h = aN (h.1 a) (fun v => ru 95 7 ls (.int v :: st) h)) ∧
  (∀ (x y : Int32) (ls : eL) (st : List Value) (h : eH), ru 95 7 ls (.int y :: .int x :: st) h = if y ≤ x then ru 95 14 ls st h else ru 95 10 ls st h) ∧
  (∀ (x0 : Option Value) (v : Int32) (t : eL) (st : List Value) (h : eH), ru 95 10 (x0 :: some (.int v) :: t) st h = ru 95 11 (x0 :: some (.int v) :: t) (.int v :: st) h) ∧
  (∀ (ls : eL) (st : List Value) (h : eH), ru 95 11 ls st h = ru 95 19 ls st h) ∧
  (∀ (v : Nat) (t : eL) (st : List Value) (h : eH), ru 95 14 (some (.ref v) :: t) st h = ru 95 15 (some (.ref v) :: t) (.ref v :: st) h) ∧
  (∀ (a : Nat) (ls : eL) (st : List Value) (h : eH), ru 95 15 ls (.ref a :: st) h = gF (h.1 a) 9 0 (fun v => ru 95 18 ls (v :: st) h)) ∧
  (∀ (a : Nat) (ls : eL) (st : List Value) (h : eH), ru 95 18 ls (.ref a :: st) h = aN (h.1 a) (fun v => ru 95 19 ls (.int v :: st) h)) ∧
  (∀ (v : Int32) (a : Nat) (ls : eL) (st : List Value) (h : eH), ru 95 19 ls (.int v :: .ref a :: st) h = pF (h.1 a) 9 1 (.int v) (fun e => ru 95 22 ls st (eUp h a e))) ∧
  (∀ (v : Nat) (t : eL) (st : List Value) (h : eH), ru 95 22 (some (.ref v) :: t) st h = ru 95 23 (some (.ref v) :: t) (.ref v :: st) h) ∧
  (∀ (a : Nat) (ls : eL) (st : List Value) (h : eH), ru 95 23 ls (.ref a :: st) h = gF (h.1 a) 9 1 (fun v => ru 95 26 ls (v :: st) h)) ∧
  (∀ (ls : eL) (st : List Value) (h : eH), ru 95 26 ls st h = ru 95 27 ls (.int (nI 1) :: st) h) ∧
  (∀ (x y : Int32) (ls : eL) (st : List Value) (h : eH), ru 95 27 ls (.int y :: .int x :: st) h = ru 95 28 ls (.int (x - y) :: st) h) ∧
  (∀ (x0 x1 x2 : Option Value) (v : Int32) (t : eL) (st : List Value) (h : eH), ru 95 28 (x0 :: x1 :: x2 :: t) (.int v :: st) h = ru 95 29 (x0 :: eKl x1 :: some (.int v) :: t) st h) ∧
  (∀ (x : Int32) (ls : eL) (st : List Value) (h : eH), ru 95 30 ls (.int x :: st) h = if x < 0 then ru 95 53 ls st h else ru 95 33 ls st h) ∧
  (∀ (v : Nat) (t : eL) (st : List Value) (h : eH), ru 95 33 (some (.ref v) :: t) st h = ru 95 34 (some (.ref v) :: t) (.ref v :: st) h) ∧
  (∀ (a : Nat) (ls : eL) (st : List Value) (h : eH), ru 95 34 ls (.ref a :: st) h = gF (h.1 a) 9 0 (fun v => ru 95 37 ls (v :: st) h)) ∧
  (∀ (x0 x1 : Option Value) (v : Int32) (t : eL) (st : List Value) (h : eH), ru 95 37 (x0 :: x1 :: some (.int v) :: t) st h = ru 95 38 (x0 :: x1 :: some (.int v) :: t) (.int v :: st) h) ∧
  (∀ (i : Int32) (a : Nat) (ls : eL) (st : List Value) (h : eH), ru 95 38 ls (.int i :: .ref a :: st) h = aI (h.1 a) 0 i (fun v => ru 95 39 ls (.int v :: st) h)) ∧
  (∀ (x : Int32) (ls : eL) (st : List Value) (h : eH), ru 95 39 ls (.int x :: st) h = if x = 0 then ru 95 42 ls st h else ru 95 53 ls st h) ∧
  (∀ (v : Nat) (t : eL) (st : List Value) (h : eH), ru 95 42 (some (.ref v) :: t) st h = ru 95 43 (some (.ref v) :: t) (.ref v :: st) h) ∧
  (∀ (x0 x1 : Option Value) (v : Int32) (t : eL) (st : List Value) (h : eH), ru 95 43 (x0 :: x1 :: some (.int v) :: t) st h = ru 95 44 (x0 :: x1 :: some (.int v) :: t) (.int v :: st) h) ∧
  (∀ (v : Int32) (a : Nat) (ls : eL) (st : List Value) (h : eH), ru 95 44 ls (.int v :: .ref a :: st) h = pF (h.1 a) 9 1 (.int v) (fun e => ru 95 47 ls st (eUp h a e))) ∧
  (∀ (x0 x1 : Option Value) (v : Int32) (t : eL) (st : List Value) (h : eH), ru 95 47 (x0 :: x1 :: some (.int v) :: t) st h = ru 95 50 (x0 :: eKl x1 :: some (.int (v + (-1))) :: t) st h) ∧
  (∀ (ls : eL) (st : List Value) (h : eH), ru 95 50 ls st h = ru 95 29 ls st h) ∧
  (∀ (v : Nat) (t : eL) (st : List Value) (h : eH), ru 95 54 (some (.ref v) :: t) st h = ru 95 55 (some (.ref v) :: t) (.ref v :: st) h) ∧
  (∀ (a : Nat) (ls : eL) (st : List Value) (h : eH), ru 95 55 ls (.ref a :: st) h = gF (h.1 a) 9 2 (fun v => ru 95 58 ls (v :: st) h)) ∧
  (∀ (x : Int32) (ls : eL) (st : List Value) (h : eH), ru 95 58 ls (.int x :: st) h = if x = 0 then ru 95 72 ls st h else ru 95 61 ls st h) ∧
  (∀ (v : Nat) (t : eL) (st : List Value) (h : eH), ru 95 61 (some (.ref v) :: t) st h = ru 95 62 (some (.ref v) :: t) (.ref v :: st) h) ∧
  (∀ (a : Nat) (ls : eL) (st : List Value) (h : eH), ru 95 62 ls (.ref a :: st) h = gF (h.1 a) 9 1 (fun v => ru 95 65 ls (v :: st) h)) ∧
  (∀ (x : Int32) (ls : eL) (st : List Value) (h : eH), ru 95 65 ls (.int x :: st) h = if x ≤ 0 then ru 95 72 ls st h else ru 95 68 ls st h) ∧
  (∀ (ls : eL) (st : List Value) (h : eH), ru 95 68 ls st h = ru 95 69 ls (.int (nI 1) :: st) h) ∧
  (∀ (ls : eL) (st : List Value) (h : eH), ru 95 69 ls st h = ru 95 73 ls st h) ∧
  (∀ (ls : eL) (st : List Value) (h : eH), ru 95 72 ls st h = ru 95 73 ls (.int (nI 0) :: st) h) ∧
  (∀ (v : Int32) (a : Nat) (ls : eL) (st : List Value) (h : eH), ru 95 73 ls (.int v :: .ref a :: st) h = pF (h.1 a) 9 2 (.int v) (fun e => ru 95 76 ls st (eUp h a e))) ∧
  (∀ (ls : eL) (h : eH), ru 95 76 ls [] h = some (none, h)) := ⟨fun v t st h => ru_go rfl rfl,
  fun x0 v t st h => ru_go rfl rfl,
  fun v t st h => ru_go rfl rfl,
  fun a ls st h => ru_getf rfl,
  fun a ls st h => ru_alen rfl,
  fun x y ls st h => ru_if rfl rfl,
  fun x0 v t st h => ru_go rfl rfl,
  fun ls st h => ru_go rfl rfl,
  fun v t st h => ru_go rfl rfl,
  fun a ls st h => ru_getf rfl,
  fun a ls st h => ru_alen rfl,
  fun v a ls st h => ru_putf rfl,
  fun v t st h => ru_go rfl rfl,
  fun a ls st h => ru_getf rfl,
  fun ls st h => ru_go rfl rfl,
  fun x y ls st h => ru_go rfl rfl,
  fun x0 x1 x2 v t st h => ru_go rfl rfl,
  fun x ls st h => ru_if rfl rfl,
  fun v t st h => ru_go rfl rfl,
  fun a ls st h => ru_getf rfl,
  fun x0 x1 v t st h => ru_go rfl rfl,
  fun i a ls st h => ru_iald rfl,
  fun x ls st h => ru_if rfl rfl,
  fun v t st h => ru_go rfl rfl,
  fun x0 x1 v t st h => ru_go rfl rfl,
  fun v a ls st h => ru_putf rfl,
  fun x0 x1 v t st h => ru_go rfl rfl,
  fun ls st h => ru_go rfl rfl,
  fun v t st h => ru_go rfl rfl,
  fun a ls st h => ru_getf rfl,
  fun x ls st h => ru_if rfl rfl,
  fun v t st h => ru_go rfl rfl,
  fun a ls st h => ru_getf rfl,
  fun x ls st h => ru_if rfl rfl,
  fun ls st h => ru_go rfl rfl,
  fun ls st h => ru_go rfl rfl,
  fun ls st h => ru_go rfl rfl,
  fun v a ls st h => ru_putf rfl,
  fun ls h => ru_ret rfl rfl⟩
theorem E95 (a0 : Nat) (a1 : Int32) {h : eH} {fs : List Value} (ha : h.1 a0 = .inr (9, fs)) : den 95 [.ref a0, .int a1] h = ru 95 0 [some (.ref a0), some (.int a1), none] [] h := den_ob (Nat.le_of_ble_eq_true rfl) ha
/-! 96 X9_becomeProduct -/
set_option maxRecDepth 100000 in
theorem H96_27 : (∀ (x0 x1 x2 x3 : Option Value) (v : Int32) (t : eL) (st : List Value) (h : eH), ru 96 27 (x0 :: x1 :: x2 :: x3 :: some (.int v) :: t) st h = ru 96 29 (x0 :: x1 :: x2 :: x3 :: some (.int v) :: t) (.int v :: st) h) := fun x0 x1 x2 x3 v t st h => ru_go rfl rfl
set_option maxRecDepth 100000 in
theorem H96_42 : (∀ (x0 x1 x2 x3 x4 x5 x6 : Option Value) (v : Int32) (t : eL) (st : List Value) (h : eH), ru 96 42 (x0 :: x1 :: x2 :: x3 :: x4 :: x5 :: x6 :: some (.int v) :: t) st h = ru 96 44 (x0 :: x1 :: x2 :: x3 :: x4 :: x5 :: x6 :: some (.int v) :: t) (.int v :: st) h) := fun x0 x1 x2 x3 x4 x5 x6 v t st h => ru_go rfl rfl
set_option maxRecDepth 100000 in
theorem H96_125 : (∀ (x0 x1 x2 x3 : Option Value) (v : Int32) (t : eL) (st : List Value) (h : eH), ru 96 125 (x0 :: x1 :: x2 :: x3 :: some (.int v) :: t) st h = ru 96 127 (x0 :: x1 :: x2 :: x3 :: some (.int v) :: t) (.int v :: st) h) := fun x0 x1 x2 x3 v t st h => ru_go rfl rfl
set_option maxRecDepth 100000 in
theorem H96_157 : (∀ (v : Nat) (t : eL) (st : List Value) (h : eH), ru 96 157 (some (.ref v) :: t) st h = ru 96 158 (some (.ref v) :: t) (.ref v :: st) h) := fun v t st h => ru_go rfl rfl
set_option maxRecDepth 100000 in
theorem S96 : (∀ (v : Nat) (t : eL) (st : List Value) (h : eH), ru 96 0 (some (.ref v) :: t) st h = ru 96 1 (some (.ref v) :: t) (.ref v :: st) h) ∧
  (∀ (x0 : Option Value) (v : Nat) (t : eL) (st : List Value) (h : eH), ru 96 1 (x0 :: some (.ref v) :: t) st h = ru 96 2 (x0 :: some (.ref v) :: t) (.ref v :: st) h) ∧
  (∀ (a : Nat) (ls : eL) (st : List Value) (h : eH), ru 96 2 ls (.ref a :: st) h = gF (h.1 a) 9 1 (fun v => ru 96 5 ls (v :: st) h)) ∧
  (∀ (x0 x1 : Option Value) (v : Nat) (t : eL) (st : List Value) (h : eH), ru 96 5 (x0 :: x1 :: some (.ref v) :: t) st h = ru 96 6 (x0 :: x1 :: some (.ref v) :: t) (.ref v :: st) h) ∧
  (∀ (a : Nat) (ls : eL) (st : List Value) (h : eH), ru 96 6 ls (.ref a :: st) h = gF (h.1 a) 9 1 (fun v => ru 96 9 ls (v :: st) h)) ∧
  (∀ (x y : Int32) (ls : eL) (st : List Value) (h : eH), ru 96 9 ls (.int y :: .int x :: st) h = ru 96 10 ls (.int (x + y) :: st) h) ∧
  (∀ (a0 : Nat) (a1 : Int32) (ls : eL) (h : eH), ru 96 10 ls [.int a1, .ref a0] h = cl (den 94 [.ref a0, .int a1] h) (fun v h => ru 96 13 ls (v.toList ++ []) h)) ∧
  (∀ (x0 x1 x2 x3 : Option Value) (v : Int32) (t : eL) (st : List Value) (h : eH), ru 96 13 (x0 :: x1 :: x2 :: x3 :: t) (.int v :: st) h = ru 96 14 (x0 :: x1 :: eKl x2 :: some (.int v) :: t) st h) ∧
  (∀ (v : Nat) (t : eL) (st : List Value) (h : eH), ru 96 14 (some (.ref v) :: t) st h = ru 96 15 (some (.ref v) :: t) (.ref v :: st) h) ∧
  (∀ (a : Nat) (ls : eL) (st : List Value) (h : eH), ru 96 15 ls (.ref a :: st) h = gF (h.1 a) 9 0 (fun v => ru 96 18 ls (v :: st) h)) ∧
  (∀ (ls : eL) (st : List Value) (h : eH), ru 96 18 ls st h = ru 96 19 ls (.int (nI 0) :: st) h) ∧
  (∀ (x0 x1 x2 : Option Value) (v : Int32) (t : eL) (st : List Value) (h : eH), ru 96 19 (x0 :: x1 :: x2 :: some (.int v) :: t) st h = ru 96 20 (x0 :: x1 :: x2 :: some (.int v) :: t) (.int v :: st) h) ∧
  (∀ (ls : eL) (st : List Value) (h : eH), ru 96 20 ls st h = ru 96 21 ls (.int (nI 0) :: st) h) ∧
  (∀ (a0 : Nat) (a1 : Int32) (a2 : Int32) (a3 : Int32) (ls : eL) (h : eH), ru 96 21 ls [.int a3, .int a2, .int a1, .ref a0] h = cl (den 4 [.ref a0, .int a1, .int a2, .int a3] h) (fun v h => ru 96 24 ls (v.toList ++ []) h)) ∧
  (∀ (ls : eL) (st : List Value) (h : eH), ru 96 24 ls st h = ru 96 25 ls (.int (nI 0) :: st) h) ∧
  (∀ (x0 x1 x2 x3 x4 : Option Value) (v : Int32) (t : eL) (st : List Value) (h : eH), ru 96 25 (x0 :: x1 :: x2 :: x3 :: x4 :: t) (.int v :: st) h = ru 96 27 (x0 :: x1 :: x2 :: eKl x3 :: some (.int v) :: t) st h) ∧
  (∀ (x0 : Option Value) (v : Nat) (t : eL) (st : List Value) (h : eH), ru 96 29 (x0 :: some (.ref v) :: t) st h = ru 96 30 (x0 :: some (.ref v) :: t) (.ref v :: st) h) ∧
  (∀ (a : Nat) (ls : eL) (st : List Value) (h : eH), ru 96 30 ls (.ref a :: st) h = gF (h.1 a) 9 1 (fun v => ru 96 33 ls (v :: st) h)) ∧
  (∀ (x y : Int32) (ls : eL) (st : List Value) (h : eH), ru 96 33 ls (.int y :: .int x :: st) h = if y ≤ x then ru 96 157 ls st h else ru 96 36 ls st h) ∧
  (∀ (ls : eL) (st : List Value) (h : eH), ru 96 36 ls st h = ru 96 37 ls (.long (lN 0) :: st) h) ∧
  (∀ (x0 x1 x2 x3 x4 x5 x6 : Option Value) (v : Int64) (t : eL) (st : List Value) (h : eH), ru 96 37 (x0 :: x1 :: x2 :: x3 :: x4 :: x5 :: x6 :: t) (.long v :: st) h = ru 96 39 (x0 :: x1 :: x2 :: x3 :: eKl x4 :: some (.long v) :: none :: t) st h) ∧
  (∀ (ls : eL) (st : List Value) (h : eH), ru 96 39 ls st h = ru 96 40 ls (.int (nI 0) :: st) h) ∧
  (∀ (x0 x1 x2 x3 x4 x5 x6 x7 : Option Value) (v : Int32) (t : eL) (st : List Value) (h : eH), ru 96 40 (x0 :: x1 :: x2 :: x3 :: x4 :: x5 :: x6 :: x7 :: t) (.int v :: st) h = ru 96 42 (x0 :: x1 :: x2 :: x3 :: x4 :: x5 :: eKl x6 :: some (.int v) :: t) st h) ∧
  (∀ (x0 x1 : Option Value) (v : Nat) (t : eL) (st : List Value) (h : eH), ru 96 44 (x0 :: x1 :: some (.ref v) :: t) st h = ru 96 45 (x0 :: x1 :: some (.ref v) :: t) (.ref v :: st) h) ∧
  (∀ (a : Nat) (ls : eL) (st : List Value) (h : eH), ru 96 45 ls (.ref a :: st) h = gF (h.1 a) 9 1 (fun v => ru 96 48 ls (v :: st) h)) ∧
  (∀ (x y : Int32) (ls : eL) (st : List Value) (h : eH), ru 96 48 ls (.int y :: .int x :: st) h = if y ≤ x then ru 96 125 ls st h else ru 96 51 ls st h) ∧
  (∀ (x0 x1 x2 x3 : Option Value) (v : Int32) (t : eL) (st : List Value) (h : eH), ru 96 51 (x0 :: x1 :: x2 :: x3 :: some (.int v) :: t) st h = ru 96 53 (x0 :: x1 :: x2 :: x3 :: some (.int v) :: t) (.int v :: st) h) ∧
  (∀ (x0 x1 x2 x3 x4 x5 x6 : Option Value) (v : Int32) (t : eL) (st : List Value) (h : eH), ru 96 53 (x0 :: x1 :: x2 :: x3 :: x4 :: x5 :: x6 :: some (.int v) :: t) st h = ru 96 55 (x0 :: x1 :: x2 :: x3 :: x4 :: x5 :: x6 :: some (.int v) :: t) (.int v :: st) h) ∧
  (∀ (x y : Int32) (ls : eL) (st : List Value) (h : eH), ru 96 55 ls (.int y :: .int x :: st) h = ru 96 56 ls (.int (x + y) :: st) h) ∧
  (∀ (x0 x1 x2 : Option Value) (v : Int32) (t : eL) (st : List Value) (h : eH), ru 96 56 (x0 :: x1 :: x2 :: some (.int v) :: t) st h = ru 96 57 (x0 :: x1 :: x2 :: some (.int v) :: t) (.int v :: st) h) ∧
  (∀ (x y : Int32) (ls : eL) (st : List Value) (h : eH), ru 96 57 ls (.int y :: .int x :: st) h = if y ≤ x then ru 96 125 ls st h else ru 96 60 ls st h) ∧
  (∀ (v : Nat) (t : eL) (st : List Value) (h : eH), ru 96 60 (some (.ref v) :: t) st h = ru 96 61 (some (.ref v) :: t) (.ref v :: st) h) ∧
  (∀ (a : Nat) (ls : eL) (st : List Value) (h : eH), ru 96 61 ls (.ref a :: st) h = gF (h.1 a) 9 0 (fun v => ru 96 64 ls (v :: st) h)) ∧
  (∀ (x0 x1 x2 x3 : Option Value) (v : Int32) (t : eL) (st : List Value) (h : eH), ru 96 64 (x0 :: x1 :: x2 :: x3 :: some (.int v) :: t) st h = ru 96 66 (x0 :: x1 :: x2 :: x3 :: some (.int v) :: t) (.int v :: st) h) ∧
  (∀ (x0 x1 x2 x3 x4 x5 x6 : Option Value) (v : Int32) (t : eL) (st : List Value) (h : eH), ru 96 66 (x0 :: x1 :: x2 :: x3 :: x4 :: x5 :: x6 :: some (.int v) :: t) st h = ru 96 68 (x0 :: x1 :: x2 :: x3 :: x4 :: x5 :: x6 :: some (.int v) :: t) (.int v :: st) h) ∧
  (∀ (x y : Int32) (ls : eL) (st : List Value) (h : eH), ru 96 68 ls (.int y :: .int x :: st) h = ru 96 69 ls (.int (x + y) :: st) h) ∧
  (∀ (i : Int32) (a : Nat) (ls : eL) (st : List Value) (h : eH), ru 96 69 ls (.int i :: .ref a :: st) h = aI (h.1 a) 0 i (fun v => ru 96 70 ls (.int v :: st) h)) ∧
  (∀ (x : Int32) (ls : eL) (st : List Value) (h : eH), ru 96 70 ls (.int x :: st) h = ru 96 71 ls (.long (x.toInt64) :: st) h) ∧
  (∀ (x0 x1 x2 x3 x4 : Option Value) (v : Int64) (t : eL) (st : List Value) (h : eH), ru 96 71 (x0 :: x1 :: x2 :: x3 :: x4 :: some (.long v) :: t) st h = ru 96 73 (x0 :: x1 :: x2 :: x3 :: x4 :: some (.long v) :: t) (.long v :: st) h) ∧
  (∀ (x y : Int64) (ls : eL) (st : List Value) (h : eH), ru 96 73 ls (.long y :: .long x :: st) h = ru 96 74 ls (.long (x + y) :: st) h) ∧
  (∀ (x0 : Option Value) (v : Nat) (t : eL) (st : List Value) (h : eH), ru 96 74 (x0 :: some (.ref v) :: t) st h = ru 96 75 (x0 :: some (.ref v) :: t) (.ref v :: st) h) ∧
  (∀ (a : Nat) (ls : eL) (st : List Value) (h : eH), ru 96 75 ls (.ref a :: st) h = gF (h.1 a) 9 0 (fun v => ru 96 78 ls (v :: st) h)) ∧
  (∀ (x0 x1 x2 x3 : Option Value) (v : Int32) (t : eL) (st : List Value) (h : eH), ru 96 78 (x0 :: x1 :: x2 :: x3 :: some (.int v) :: t) st h = ru 96 80 (x0 :: x1 :: x2 :: x3 :: some (.int v) :: t) (.int v :: st) h) ∧
  (∀ (i : Int32) (a : Nat) (ls : eL) (st : List Value) (h : eH), ru 96 80 ls (.int i :: .ref a :: st) h = aI (h.1 a) 0 i (fun v => ru 96 81 ls (.int v :: st) h)) ∧
  (∀ (x : Int32) (ls : eL) (st : List Value) (h : eH), ru 96 81 ls (.int x :: st) h = ru 96 82 ls (.long (x.toInt64) :: st) h) ∧
  (∀ (x0 x1 : Option Value) (v : Nat) (t : eL) (st : List Value) (h : eH), ru 96 82 (x0 :: x1 :: some (.ref v) :: t) st h = ru 96 83 (x0 :: x1 :: some (.ref v) :: t) (.ref v :: st) h) ∧
  (∀ (a : Nat) (ls : eL) (st : List Value) (h : eH), ru 96 83 ls (.ref a :: st) h = gF (h.1 a) 9 0 (fun v => ru 96 86 ls (v :: st) h)) ∧
  (∀ (x0 x1 x2 x3 x4 x5 x6 : Option Value) (v : Int32) (t : eL) (st : List Value) (h : eH), ru 96 86 (x0 :: x1 :: x2 :: x3 :: x4 :: x5 :: x6 :: some (.int v) :: t) st h = ru 96 88 (x0 :: x1 :: x2 :: x3 :: x4 :: x5 :: x6 :: some (.int v) :: t) (.int v :: st) h) ∧
  (∀ (i : Int32) (a : Nat) (ls : eL) (st : List Value) (h : eH), ru 96 88 ls (.int i :: .ref a :: st) h = aI (h.1 a) 0 i (fun v => ru 96 89 ls (.int v :: st) h)) ∧
  (∀ (x : Int32) (ls : eL) (st : List Value) (h : eH), ru 96 89 ls (.int x :: st) h = ru 96 90 ls (.long (x.toInt64) :: st) h) ∧
  (∀ (x y : Int64) (ls : eL) (st : List Value) (h : eH), ru 96 90 ls (.long y :: .long x :: st) h = ru 96 91 ls (.long (x * y) :: st) h) ∧
  (∀ (x y : Int64) (ls : eL) (st : List Value) (h : eH), ru 96 91 ls (.long y :: .long x :: st) h = ru 96 92 ls (.long (x + y) :: st) h) ∧
  (∀ (x0 x1 x2 x3 x4 x5 x6 x7 x8 x9 : Option Value) (v : Int64) (t : eL) (st : List Value) (h : eH), ru 96 92 (x0 :: x1 :: x2 :: x3 :: x4 :: x5 :: x6 :: x7 :: x8 :: x9 :: t) (.long v :: st) h = ru 96 94 (x0 :: x1 :: x2 :: x3 :: x4 :: x5 :: x6 :: eKl x7 :: some (.long v) :: none :: t) st h) ∧
  (∀ (v : Nat) (t : eL) (st : List Value) (h : eH), ru 96 94 (some (.ref v) :: t) st h = ru 96 95 (some (.ref v) :: t) (.ref v :: st) h) ∧
  (∀ (a : Nat) (ls : eL) (st : List Value) (h : eH), ru 96 95 ls (.ref a :: st) h = gF (h.1 a) 9 0 (fun v => ru 96 98 ls (v :: st) h)) ∧
  (∀ (x0 x1 x2 x3 : Option Value) (v : Int32) (t : eL) (st : List Value) (h : eH), ru 96 98 (x0 :: x1 :: x2 :: x3 :: some (.int v) :: t) st h = ru 96 100 (x0 :: x1 :: x2 :: x3 :: some (.int v) :: t) (.int v :: st) h) ∧
  (∀ (x0 x1 x2 x3 x4 x5 x6 : Option Value) (v : Int32) (t : eL) (st : List Value) (h : eH), ru 96 100 (x0 :: x1 :: x2 :: x3 :: x4 :: x5 :: x6 :: some (.int v) :: t) st h = ru 96 102 (x0 :: x1 :: x2 :: x3 :: x4 :: x5 :: x6 :: some (.int v) :: t) (.int v :: st) h) ∧
  (∀ (x y : Int32) (ls : eL) (st : List Value) (h : eH), ru 96 102 ls (.int y :: .int x :: st) h = ru 96 103 ls (.int (x + y) :: st) h) ∧
  (∀ (x0 x1 x2 x3 x4 x5 x6 x7 : Option Value) (v : Int64) (t : eL) (st : List Value) (h : eH), ru 96 103 (x0 :: x1 :: x2 :: x3 :: x4 :: x5 :: x6 :: x7 :: some (.long v) :: t) st h = ru 96 105 (x0 :: x1 :: x2 :: x3 :: x4 :: x5 :: x6 :: x7 :: some (.long v) :: t) (.long v :: st) h) ∧
  (∀ (ls : eL) (st : List Value) (h : eH), ru 96 105 ls st h = ru 96 108 ls (.long (lN 1000000000) :: st) h) ∧
  (∀ (x y : Int64) (ls : eL) (st : List Value) (h : eH), ru 96 108 ls (.long y :: .long x :: st) h = if y = 0 then none else ru 96 109 ls (.long (x - x / y * y) :: st) h) ∧
  (∀ (x : Int64) (ls : eL) (st : List Value) (h : eH), ru 96 109 ls (.long x :: st) h = ru 96 110 ls (.int (x.toInt32) :: st) h) ∧
  (∀ (x : Int32) (i : Int32) (a : Nat) (ls : eL) (st : List Value) (h : eH), ru 96 110 ls (.int x :: .int i :: .ref a :: st) h = wI (h.1 a) i x (fun e => ru 96 111 ls st (eUp h a e))) ∧
  (∀ (x0 x1 x2 x3 x4 x5 x6 x7 : Option Value) (v : Int64) (t : eL) (st : List Value) (h : eH), ru 96 111 (x0 :: x1 :: x2 :: x3 :: x4 :: x5 :: x6 :: x7 :: some (.long v) :: t) st h = ru 96 113 (x0 :: x1 :: x2 :: x3 :: x4 :: x5 :: x6 :: x7 :: some (.long v) :: t) (.long v :: st) h) ∧
  (∀ (ls : eL) (st : List Value) (h : eH), ru 96 113 ls st h = ru 96 116 ls (.long (lN 1000000000) :: st) h) ∧
  (∀ (x y : Int64) (ls : eL) (st : List Value) (h : eH), ru 96 116 ls (.long y :: .long x :: st) h = if y = 0 then none else ru 96 117 ls (.long (x / y) :: st) h) ∧
  (∀ (x0 x1 x2 x3 x4 x5 x6 : Option Value) (v : Int64) (t : eL) (st : List Value) (h : eH), ru 96 117 (x0 :: x1 :: x2 :: x3 :: x4 :: x5 :: x6 :: t) (.long v :: st) h = ru 96 119 (x0 :: x1 :: x2 :: x3 :: eKl x4 :: some (.long v) :: none :: t) st h) ∧
  (∀ (x0 x1 x2 x3 x4 x5 x6 : Option Value) (v : Int32) (t : eL) (st : List Value) (h : eH), ru 96 119 (x0 :: x1 :: x2 :: x3 :: x4 :: x5 :: x6 :: some (.int v) :: t) st h = ru 96 122 (x0 :: x1 :: x2 :: x3 :: x4 :: x5 :: eKl x6 :: some (.int (v + 1)) :: t) st h) ∧
  (∀ (ls : eL) (st : List Value) (h : eH), ru 96 122 ls st h = ru 96 42 ls st h) ∧
  (∀ (x0 x1 : Option Value) (v : Nat) (t : eL) (st : List Value) (h : eH), ru 96 127 (x0 :: x1 :: some (.ref v) :: t) st h = ru 96 128 (x0 :: x1 :: some (.ref v) :: t) (.ref v :: st) h) ∧
  (∀ (a : Nat) (ls : eL) (st : List Value) (h : eH), ru 96 128 ls (.ref a :: st) h = gF (h.1 a) 9 1 (fun v => ru 96 131 ls (v :: st) h)) ∧
  (∀ (x y : Int32) (ls : eL) (st : List Value) (h : eH), ru 96 131 ls (.int y :: .int x :: st) h = ru 96 132 ls (.int (x + y) :: st) h) ∧
  (∀ (x0 x1 x2 : Option Value) (v : Int32) (t : eL) (st : List Value) (h : eH), ru 96 132 (x0 :: x1 :: x2 :: some (.int v) :: t) st h = ru 96 133 (x0 :: x1 :: x2 :: some (.int v) :: t) (.int v :: st) h) ∧
  (∀ (x y : Int32) (ls : eL) (st : List Value) (h : eH), ru 96 133 ls (.int y :: .int x :: st) h = if y ≤ x then ru 96 151 ls st h else ru 96 136 ls st h) ∧
  (∀ (v : Nat) (t : eL) (st : List Value) (h : eH), ru 96 136 (some (.ref v) :: t) st h = ru 96 137 (some (.ref v) :: t) (.ref v :: st) h) ∧
  (∀ (a : Nat) (ls : eL) (st : List Value) (h : eH), ru 96 137 ls (.ref a :: st) h = gF (h.1 a) 9 0 (fun v => ru 96 140 ls (v :: st) h)) ∧
  (∀ (x0 x1 x2 x3 : Option Value) (v : Int32) (t : eL) (st : List Value) (h : eH), ru 96 140 (x0 :: x1 :: x2 :: x3 :: some (.int v) :: t) st h = ru 96 142 (x0 :: x1 :: x2 :: x3 :: some (.int v) :: t) (.int v :: st) h) ∧
  (∀ (x0 x1 : Option Value) (v : Nat) (t : eL) (st : List Value) (h : eH), ru 96 142 (x0 :: x1 :: some (.ref v) :: t) st h = ru 96 143 (x0 :: x1 :: some (.ref v) :: t) (.ref v :: st) h) ∧
  (∀ (a : Nat) (ls : eL) (st : List Value) (h : eH), ru 96 143 ls (.ref a :: st) h = gF (h.1 a) 9 1 (fun v => ru 96 146 ls (v :: st) h)) ∧
  (∀ (x y : Int32) (ls : eL) (st : List Value) (h : eH), ru 96 146 ls (.int y :: .int x :: st) h = ru 96 147 ls (.int (x + y) :: st) h) ∧
  (∀ (x0 x1 x2 x3 x4 : Option Value) (v : Int64) (t : eL) (st : List Value) (h : eH), ru 96 147 (x0 :: x1 :: x2 :: x3 :: x4 :: some (.long v) :: t) st h = ru 96 149 (x0 :: x1 :: x2 :: x3 :: x4 :: some (.long v) :: t) (.long v :: st) h) ∧
  (∀ (x : Int64) (ls : eL) (st : List Value) (h : eH), ru 96 149 ls (.long x :: st) h = ru 96 150 ls (.int (x.toInt32) :: st) h) ∧
  (∀ (x : Int32) (i : Int32) (a : Nat) (ls : eL) (st : List Value) (h : eH), ru 96 150 ls (.int x :: .int i :: .ref a :: st) h = wI (h.1 a) i x (fun e => ru 96 151 ls st (eUp h a e))) ∧
  (∀ (x0 x1 x2 x3 : Option Value) (v : Int32) (t : eL) (st : List Value) (h : eH), ru 96 151 (x0 :: x1 :: x2 :: x3 :: some (.int v) :: t) st h = ru 96 154 (x0 :: x1 :: x2 :: eKl x3 :: some (.int (v + 1)) :: t) st h) ∧
  (∀ (ls : eL) (st : List Value) (h : eH), ru 96 154 ls st h = ru 96 27 ls st h) ∧
  (∀ (x0 : Option Value) (v : Nat) (t : eL) (st : List Value) (h : eH), ru 96 158 (x0 :: some (.ref v) :: t) st h = ru 96 159 (x0 :: some (.ref v) :: t) (.ref v :: st) h) ∧
  (∀ (a : Nat) (ls : eL) (st : List Value) (h : eH), ru 96 159 ls (.ref a :: st) h = gF (h.1 a) 9 2 (fun v => ru 96 162 ls (v :: st) h)) ∧
  (∀ (x0 x1 : Option Value) (v : Nat) (t : eL) (st : List Value) (h : eH), ru 96 162 (x0 :: x1 :: some (.ref v) :: t) st h = ru 96 163 (x0 :: x1 :: some (.ref v) :: t) (.ref v :: st) h) ∧
  (∀ (a : Nat) (ls : eL) (st : List Value) (h : eH), ru 96 163 ls (.ref a :: st) h = gF (h.1 a) 9 2 (fun v => ru 96 166 ls (v :: st) h)) ∧
  (∀ (x y : Int32) (ls : eL) (st : List Value) (h : eH), ru 96 166 ls (.int y :: .int x :: st) h = if x = y then ru 96 173 ls st h else ru 96 169 ls st h) ∧
  (∀ (ls : eL) (st : List Value) (h : eH), ru 96 169 ls st h = ru 96 170 ls (.int (nI 1) :: st) h) ∧
  (∀ (ls : eL) (st : List Value) (h : eH), ru 96 170 ls st h = ru 96 174 ls st h) ∧
  (∀ (ls : eL) (st : List Value) (h : eH), ru 96 173 ls st h = ru 96 174 ls (.int (nI 0) :: st) h) ∧
  (∀ (v : Int32) (a : Nat) (ls : eL) (st : List Value) (h : eH), ru 96 174 ls (.int v :: .ref a :: st) h = pF (h.1 a) 9 2 (.int v) (fun e => ru 96 177 ls st (eUp h a e))) ∧
  (∀ (v : Nat) (t : eL) (st : List Value) (h : eH), ru 96 177 (some (.ref v) :: t) st h = ru 96 178 (some (.ref v) :: t) (.ref v :: st) h) ∧
  (∀ (x0 x1 x2 : Option Value) (v : Int32) (t : eL) (st : List Value) (h : eH), ru 96 178 (x0 :: x1 :: x2 :: some (.int v) :: t) st h = ru 96 179 (x0 :: x1 :: x2 :: some (.int v) :: t) (.int v :: st) h) ∧
  (∀ (a0 : Nat) (a1 : Int32) (ls : eL) (h : eH), ru 96 179 ls [.int a1, .ref a0] h = cl (den 95 [.ref a0, .int a1] h) (fun v h => ru 96 182 ls (v.toList ++ []) h)) ∧
  (∀ (ls : eL) (h : eH), ru 96 182 ls [] h = some (none, h)) := ⟨fun v t st h => ru_go rfl rfl,
  fun x0 v t st h => ru_go rfl rfl,
  fun a ls st h => ru_getf rfl,
  fun x0 x1 v t st h => ru_go rfl rfl,
  fun a ls st h => ru_getf rfl,
  fun x y ls st h => ru_go rfl rfl,
  fun a0 a1 ls h => ru_inv rfl (by decide) rfl (Nat.le_of_ble_eq_true rfl),
  fun x0 x1 x2 x3 v t st h => ru_go rfl rfl,
  fun v t st h => ru_go rfl rfl,
  fun a ls st h => ru_getf rfl,
  fun ls st h => ru_go rfl rfl,
  fun x0 x1 x2 v t st h => ru_go rfl rfl,
  fun ls st h => ru_go rfl rfl,
  fun a0 a1 a2 a3 ls h => ru_inv rfl (by decide) rfl (Nat.le_of_ble_eq_true rfl),
  fun ls st h => ru_go rfl rfl,
  fun x0 x1 x2 x3 x4 v t st h => ru_go rfl rfl,
  fun x0 v t st h => ru_go rfl rfl,
  fun a ls st h => ru_getf rfl,
  fun x y ls st h => ru_if rfl rfl,
  fun ls st h => ru_go rfl rfl,
  fun x0 x1 x2 x3 x4 x5 x6 v t st h => ru_go rfl rfl,
  fun ls st h => ru_go rfl rfl,
  fun x0 x1 x2 x3 x4 x5 x6 x7 v t st h => ru_go rfl rfl,
  fun x0 x1 v t st h => ru_go rfl rfl,
  fun a ls st h => ru_getf rfl,
  fun x y ls st h => ru_if rfl rfl,
  fun x0 x1 x2 x3 v t st h => ru_go rfl rfl,
  fun x0 x1 x2 x3 x4 x5 x6 v t st h => ru_go rfl rfl,
  fun x y ls st h => ru_go rfl rfl,
  fun x0 x1 x2 v t st h => ru_go rfl rfl,
  fun x y ls st h => ru_if rfl rfl,
  fun v t st h => ru_go rfl rfl,
  fun a ls st h => ru_getf rfl,
  fun x0 x1 x2 x3 v t st h => ru_go rfl rfl,
  fun x0 x1 x2 x3 x4 x5 x6 v t st h => ru_go rfl rfl,
  fun x y ls st h => ru_go rfl rfl,
  fun i a ls st h => ru_iald rfl,
  fun x ls st h => ru_go rfl rfl,
  fun x0 x1 x2 x3 x4 v t st h => ru_go rfl rfl,
  fun x y ls st h => ru_go rfl rfl,
  fun x0 v t st h => ru_go rfl rfl,
  fun a ls st h => ru_getf rfl,
  fun x0 x1 x2 x3 v t st h => ru_go rfl rfl,
  fun i a ls st h => ru_iald rfl,
  fun x ls st h => ru_go rfl rfl,
  fun x0 x1 v t st h => ru_go rfl rfl,
  fun a ls st h => ru_getf rfl,
  fun x0 x1 x2 x3 x4 x5 x6 v t st h => ru_go rfl rfl,
  fun i a ls st h => ru_iald rfl,
  fun x ls st h => ru_go rfl rfl,
  fun x y ls st h => ru_go rfl rfl,
  fun x y ls st h => ru_go rfl rfl,
  fun x0 x1 x2 x3 x4 x5 x6 x7 x8 x9 v t st h => ru_go rfl rfl,
  fun v t st h => ru_go rfl rfl,
  fun a ls st h => ru_getf rfl,
  fun x0 x1 x2 x3 v t st h => ru_go rfl rfl,
  fun x0 x1 x2 x3 x4 x5 x6 v t st h => ru_go rfl rfl,
  fun x y ls st h => ru_go rfl rfl,
  fun x0 x1 x2 x3 x4 x5 x6 x7 v t st h => ru_go rfl rfl,
  fun ls st h => ru_go rfl rfl,
  fun x y ls st h => ru_guard rfl rfl,
  fun x ls st h => ru_go rfl rfl,
  fun x i a ls st h => ru_iast rfl,
  fun x0 x1 x2 x3 x4 x5 x6 x7 v t st h => ru_go rfl rfl,
  fun ls st h => ru_go rfl rfl,
  fun x y ls st h => ru_guard rfl rfl,
  fun x0 x1 x2 x3 x4 x5 x6 v t st h => ru_go rfl rfl,
  fun x0 x1 x2 x3 x4 x5 x6 v t st h => ru_go rfl rfl,
  fun ls st h => ru_go rfl rfl,
  fun x0 x1 v t st h => ru_go rfl rfl,
  fun a ls st h => ru_getf rfl,
  fun x y ls st h => ru_go rfl rfl,
  fun x0 x1 x2 v t st h => ru_go rfl rfl,
  fun x y ls st h => ru_if rfl rfl,
  fun v t st h => ru_go rfl rfl,
  fun a ls st h => ru_getf rfl,
  fun x0 x1 x2 x3 v t st h => ru_go rfl rfl,
  fun x0 x1 v t st h => ru_go rfl rfl,
  fun a ls st h => ru_getf rfl,
  fun x y ls st h => ru_go rfl rfl,
  fun x0 x1 x2 x3 x4 v t st h => ru_go rfl rfl,
  fun x ls st h => ru_go rfl rfl,
  fun x i a ls st h => ru_iast rfl,
  fun x0 x1 x2 x3 v t st h => ru_go rfl rfl,
  fun ls st h => ru_go rfl rfl,
  fun x0 v t st h => ru_go rfl rfl,
  fun a ls st h => ru_getf rfl,
  fun x0 x1 v t st h => ru_go rfl rfl,
  fun a ls st h => ru_getf rfl,
  fun x y ls st h => ru_if rfl rfl,
  fun ls st h => ru_go rfl rfl,
  fun ls st h => ru_go rfl rfl,
  fun ls st h => ru_go rfl rfl,
  fun v a ls st h => ru_putf rfl,
  fun v t st h => ru_go rfl rfl,
  fun x0 x1 x2 v t st h => ru_go rfl rfl,
  fun a0 a1 ls h => ru_inv rfl (by decide) rfl (Nat.le_of_ble_eq_true rfl),
  fun ls h => ru_ret rfl rfl⟩
theorem E96 (a0 : Nat) (a1 : Nat) (a2 : Nat) {h : eH} {fs : List Value} (ha : h.1 a0 = .inr (9, fs)) : den 96 [.ref a0, .ref a1, .ref a2] h = ru 96 0 [some (.ref a0), some (.ref a1), some (.ref a2), none, none, none, none, none, none, none] [] h := den_ob (Nat.le_of_ble_eq_true rfl) ha
/-! 97 X9_compareSize -/
set_option maxRecDepth 100000 in
theorem H97_28 : (∀ (x0 x1 : Option Value) (v : Int32) (t : eL) (st : List Value) (h : eH), ru 97 28 (x0 :: x1 :: some (.int v) :: t) st h = ru 97 29 (x0 :: x1 :: some (.int v) :: t) (.int v :: st) h) := fun x0 x1 v t st h => ru_go rfl rfl
set_option maxRecDepth 100000 in
theorem H97_67 : (∀ (ls : eL) (st : List Value) (h : eH), ru 97 67 ls st h = ru 97 68 ls (.int (nI 0) :: st) h) := fun ls st h => ru_go rfl rfl
set_option maxRecDepth 100000 in
theorem S97 : (∀ (v : Nat) (t : eL) (st : List Value) (h : eH), ru 97 0 (some (.ref v) :: t) st h = ru 97 1 (some (.ref v) :: t) (.ref v :: st) h) ∧
  (∀ (a : Nat) (ls : eL) (st : List Value) (h : eH), ru 97 1 ls (.ref a :: st) h = gF (h.1 a) 9 1 (fun v => ru 97 4 ls (v :: st) h)) ∧
  (∀ (x0 : Option Value) (v : Nat) (t : eL) (st : List Value) (h : eH), ru 97 4 (x0 :: some (.ref v) :: t) st h = ru 97 5 (x0 :: some (.ref v) :: t) (.ref v :: st) h) ∧
  (∀ (a : Nat) (ls : eL) (st : List Value) (h : eH), ru 97 5 ls (.ref a :: st) h = gF (h.1 a) 9 1 (fun v => ru 97 8 ls (v :: st) h)) ∧
  (∀ (x y : Int32) (ls : eL) (st : List Value) (h : eH), ru 97 8 ls (.int y :: .int x :: st) h = if x = y then ru 97 21 ls st h else ru 97 11 ls st h) ∧
  (∀ (v : Nat) (t : eL) (st : List Value) (h : eH), ru 97 11 (some (.ref v) :: t) st h = ru 97 12 (some (.ref v) :: t) (.ref v :: st) h) ∧
  (∀ (a : Nat) (ls : eL) (st : List Value) (h : eH), ru 97 12 ls (.ref a :: st) h = gF (h.1 a) 9 1 (fun v => ru 97 15 ls (v :: st) h)) ∧
  (∀ (x0 : Option Value) (v : Nat) (t : eL) (st : List Value) (h : eH), ru 97 15 (x0 :: some (.ref v) :: t) st h = ru 97 16 (x0 :: some (.ref v) :: t) (.ref v :: st) h) ∧
  (∀ (a : Nat) (ls : eL) (st : List Value) (h : eH), ru 97 16 ls (.ref a :: st) h = gF (h.1 a) 9 1 (fun v => ru 97 19 ls (v :: st) h)) ∧
  (∀ (x y : Int32) (ls : eL) (st : List Value) (h : eH), ru 97 19 ls (.int y :: .int x :: st) h = ru 97 20 ls (.int (x - y) :: st) h) ∧
  (∀ (x : Int32) (ls : eL) (h : eH), ru 97 20 ls [.int x] h = some (some (.int x), h)) ∧
  (∀ (v : Nat) (t : eL) (st : List Value) (h : eH), ru 97 21 (some (.ref v) :: t) st h = ru 97 22 (some (.ref v) :: t) (.ref v :: st) h) ∧
  (∀ (a : Nat) (ls : eL) (st : List Value) (h : eH), ru 97 22 ls (.ref a :: st) h = gF (h.1 a) 9 1 (fun v => ru 97 25 ls (v :: st) h)) ∧
  (∀ (ls : eL) (st : List Value) (h : eH), ru 97 25 ls st h = ru 97 26 ls (.int (nI 1) :: st) h) ∧
  (∀ (x y : Int32) (ls : eL) (st : List Value) (h : eH), ru 97 26 ls (.int y :: .int x :: st) h = ru 97 27 ls (.int (x - y) :: st) h) ∧
  (∀ (x0 x1 x2 : Option Value) (v : Int32) (t : eL) (st : List Value) (h : eH), ru 97 27 (x0 :: x1 :: x2 :: t) (.int v :: st) h = ru 97 28 (x0 :: eKl x1 :: some (.int v) :: t) st h) ∧
  (∀ (x : Int32) (ls : eL) (st : List Value) (h : eH), ru 97 29 ls (.int x :: st) h = if x < 0 then ru 97 67 ls st h else ru 97 32 ls st h) ∧
  (∀ (v : Nat) (t : eL) (st : List Value) (h : eH), ru 97 32 (some (.ref v) :: t) st h = ru 97 33 (some (.ref v) :: t) (.ref v :: st) h) ∧
  (∀ (a : Nat) (ls : eL) (st : List Value) (h : eH), ru 97 33 ls (.ref a :: st) h = gF (h.1 a) 9 0 (fun v => ru 97 36 ls (v :: st) h)) ∧
  (∀ (x0 x1 : Option Value) (v : Int32) (t : eL) (st : List Value) (h : eH), ru 97 36 (x0 :: x1 :: some (.int v) :: t) st h = ru 97 37 (x0 :: x1 :: some (.int v) :: t) (.int v :: st) h) ∧
  (∀ (i : Int32) (a : Nat) (ls : eL) (st : List Value) (h : eH), ru 97 37 ls (.int i :: .ref a :: st) h = aI (h.1 a) 0 i (fun v => ru 97 38 ls (.int v :: st) h)) ∧
  (∀ (x0 : Option Value) (v : Nat) (t : eL) (st : List Value) (h : eH), ru 97 38 (x0 :: some (.ref v) :: t) st h = ru 97 39 (x0 :: some (.ref v) :: t) (.ref v :: st) h) ∧
  (∀ (a : Nat) (ls : eL) (st : List Value) (h : eH), ru 97 39 ls (.ref a :: st) h = gF (h.1 a) 9 0 (fun v => ru 97 42 ls (v :: st) h)) ∧
  (∀ (x0 x1 : Option Value) (v : Int32) (t : eL) (st : List Value) (h : eH), ru 97 42 (x0 :: x1 :: some (.int v) :: t) st h = ru 97 43 (x0 :: x1 :: some (.int v) :: t) (.int v :: st) h) ∧
  (∀ (i : Int32) (a : Nat) (ls : eL) (st : List Value) (h : eH), ru 97 43 ls (.int i :: .ref a :: st) h = aI (h.1 a) 0 i (fun v => ru 97 44 ls (.int v :: st) h)) ∧
  (∀ (x y : Int32) (ls : eL) (st : List Value) (h : eH), ru 97 44 ls (.int y :: .int x :: st) h = if x = y then ru 97 61 ls st h else ru 97 47 ls st h) ∧
  (∀ (v : Nat) (t : eL) (st : List Value) (h : eH), ru 97 47 (some (.ref v) :: t) st h = ru 97 48 (some (.ref v) :: t) (.ref v :: st) h) ∧
  (∀ (a : Nat) (ls : eL) (st : List Value) (h : eH), ru 97 48 ls (.ref a :: st) h = gF (h.1 a) 9 0 (fun v => ru 97 51 ls (v :: st) h)) ∧
  (∀ (x0 x1 : Option Value) (v : Int32) (t : eL) (st : List Value) (h : eH), ru 97 51 (x0 :: x1 :: some (.int v) :: t) st h = ru 97 52 (x0 :: x1 :: some (.int v) :: t) (.int v :: st) h) ∧
  (∀ (i : Int32) (a : Nat) (ls : eL) (st : List Value) (h : eH), ru 97 52 ls (.int i :: .ref a :: st) h = aI (h.1 a) 0 i (fun v => ru 97 53 ls (.int v :: st) h)) ∧
  (∀ (x0 : Option Value) (v : Nat) (t : eL) (st : List Value) (h : eH), ru 97 53 (x0 :: some (.ref v) :: t) st h = ru 97 54 (x0 :: some (.ref v) :: t) (.ref v :: st) h) ∧
  (∀ (a : Nat) (ls : eL) (st : List Value) (h : eH), ru 97 54 ls (.ref a :: st) h = gF (h.1 a) 9 0 (fun v => ru 97 57 ls (v :: st) h)) ∧
  (∀ (x0 x1 : Option Value) (v : Int32) (t : eL) (st : List Value) (h : eH), ru 97 57 (x0 :: x1 :: some (.int v) :: t) st h = ru 97 58 (x0 :: x1 :: some (.int v) :: t) (.int v :: st) h) ∧
  (∀ (i : Int32) (a : Nat) (ls : eL) (st : List Value) (h : eH), ru 97 58 ls (.int i :: .ref a :: st) h = aI (h.1 a) 0 i (fun v => ru 97 59 ls (.int v :: st) h)) ∧
  (∀ (x y : Int32) (ls : eL) (st : List Value) (h : eH), ru 97 59 ls (.int y :: .int x :: st) h = ru 97 60 ls (.int (x - y) :: st) h) ∧
  (∀ (x : Int32) (ls : eL) (h : eH), ru 97 60 ls [.int x] h = some (some (.int x), h)) ∧
  (∀ (x0 x1 : Option Value) (v : Int32) (t : eL) (st : List Value) (h : eH), ru 97 61 (x0 :: x1 :: some (.int v) :: t) st h = ru 97 64 (x0 :: eKl x1 :: some (.int (v + (-1))) :: t) st h) ∧
  (∀ (ls : eL) (st : List Value) (h : eH), ru 97 64 ls st h = ru 97 28 ls st h) ∧
  (∀ (x : Int32) (ls : eL) (h : eH), ru 97 68 ls [.int x] h = some (some (.int x), h)) := ⟨fun v t st h => ru_go rfl rfl,
  fun a ls st h => ru_getf rfl,
  fun x0 v t st h => ru_go rfl rfl,
  fun a ls st h => ru_getf rfl,
  fun x y ls st h => ru_if rfl rfl,
  fun v t st h => ru_go rfl rfl,
  fun a ls st h => ru_getf rfl,
  fun x0 v t st h => ru_go rfl rfl,
  fun a ls st h => ru_getf rfl,
  fun x y ls st h => ru_go rfl rfl,
  fun x ls h => ru_ret rfl rfl,
  fun v t st h => ru_go rfl rfl,
  fun a ls st h => ru_getf rfl,
  fun ls st h => ru_go rfl rfl,
  fun x y ls st h => ru_go rfl rfl,
  fun x0 x1 x2 v t st h => ru_go rfl rfl,
  fun x ls st h => ru_if rfl rfl,
  fun v t st h => ru_go rfl rfl,
  fun a ls st h => ru_getf rfl,
  fun x0 x1 v t st h => ru_go rfl rfl,
  fun i a ls st h => ru_iald rfl,
  fun x0 v t st h => ru_go rfl rfl,
  fun a ls st h => ru_getf rfl,
  fun x0 x1 v t st h => ru_go rfl rfl,
  fun i a ls st h => ru_iald rfl,
  fun x y ls st h => ru_if rfl rfl,
  fun v t st h => ru_go rfl rfl,
  fun a ls st h => ru_getf rfl,
  fun x0 x1 v t st h => ru_go rfl rfl,
  fun i a ls st h => ru_iald rfl,
  fun x0 v t st h => ru_go rfl rfl,
  fun a ls st h => ru_getf rfl,
  fun x0 x1 v t st h => ru_go rfl rfl,
  fun i a ls st h => ru_iald rfl,
  fun x y ls st h => ru_go rfl rfl,
  fun x ls h => ru_ret rfl rfl,
  fun x0 x1 v t st h => ru_go rfl rfl,
  fun ls st h => ru_go rfl rfl,
  fun x ls h => ru_ret rfl rfl⟩
theorem E97 (a0 : Nat) (a1 : Nat) {h : eH} {fs : List Value} (ha : h.1 a0 = .inr (9, fs)) : den 97 [.ref a0, .ref a1] h = ru 97 0 [some (.ref a0), some (.ref a1), none] [] h := den_ob (Nat.le_of_ble_eq_true rfl) ha
/-! 98 X9_partAt -/
set_option maxRecDepth 100000 in
theorem S98 : (∀ (x0 : Option Value) (v : Int32) (t : eL) (st : List Value) (h : eH), ru 98 0 (x0 :: some (.int v) :: t) st h = ru 98 1 (x0 :: some (.int v) :: t) (.int v :: st) h) ∧
  (∀ (x : Int32) (ls : eL) (st : List Value) (h : eH), ru 98 1 ls (.int x :: st) h = if x < 0 then ru 98 21 ls st h else ru 98 4 ls st h) ∧
  (∀ (x0 : Option Value) (v : Int32) (t : eL) (st : List Value) (h : eH), ru 98 4 (x0 :: some (.int v) :: t) st h = ru 98 5 (x0 :: some (.int v) :: t) (.int v :: st) h) ∧
  (∀ (v : Nat) (t : eL) (st : List Value) (h : eH), ru 98 5 (some (.ref v) :: t) st h = ru 98 6 (some (.ref v) :: t) (.ref v :: st) h) ∧
  (∀ (a : Nat) (ls : eL) (st : List Value) (h : eH), ru 98 6 ls (.ref a :: st) h = gF (h.1 a) 9 1 (fun v => ru 98 9 ls (v :: st) h)) ∧
  (∀ (x y : Int32) (ls : eL) (st : List Value) (h : eH), ru 98 9 ls (.int y :: .int x :: st) h = if y ≤ x then ru 98 21 ls st h else ru 98 12 ls st h) ∧
  (∀ (v : Nat) (t : eL) (st : List Value) (h : eH), ru 98 12 (some (.ref v) :: t) st h = ru 98 13 (some (.ref v) :: t) (.ref v :: st) h) ∧
  (∀ (a : Nat) (ls : eL) (st : List Value) (h : eH), ru 98 13 ls (.ref a :: st) h = gF (h.1 a) 9 0 (fun v => ru 98 16 ls (v :: st) h)) ∧
  (∀ (x0 : Option Value) (v : Int32) (t : eL) (st : List Value) (h : eH), ru 98 16 (x0 :: some (.int v) :: t) st h = ru 98 17 (x0 :: some (.int v) :: t) (.int v :: st) h) ∧
  (∀ (i : Int32) (a : Nat) (ls : eL) (st : List Value) (h : eH), ru 98 17 ls (.int i :: .ref a :: st) h = aI (h.1 a) 0 i (fun v => ru 98 18 ls (.int v :: st) h)) ∧
  (∀ (ls : eL) (st : List Value) (h : eH), ru 98 18 ls st h = ru 98 22 ls st h) ∧
  (∀ (ls : eL) (st : List Value) (h : eH), ru 98 21 ls st h = ru 98 22 ls (.int (nI 0) :: st) h) ∧
  (∀ (x : Int32) (ls : eL) (h : eH), ru 98 22 ls [.int x] h = some (some (.int x), h)) := ⟨fun x0 v t st h => ru_go rfl rfl,
  fun x ls st h => ru_if rfl rfl,
  fun x0 v t st h => ru_go rfl rfl,
  fun v t st h => ru_go rfl rfl,
  fun a ls st h => ru_getf rfl,
  fun x y ls st h => ru_if rfl rfl,
  fun v t st h => ru_go rfl rfl,
  fun a ls st h => ru_getf rfl,
  fun x0 v t st h => ru_go rfl rfl,
  fun i a ls st h => ru_iald rfl,
  fun ls st h => ru_go rfl rfl,
  fun ls st h => ru_go rfl rfl,
  fun x ls h => ru_ret rfl rfl⟩
theorem E98 (a0 : Nat) (a1 : Int32) {h : eH} {fs : List Value} (ha : h.1 a0 = .inr (9, fs)) : den 98 [.ref a0, .int a1] h = ru 98 0 [some (.ref a0), some (.int a1)] [] h := den_ob (Nat.le_of_ble_eq_true rfl) ha
/-! 99 X9_join -/
set_option maxRecDepth 100000 in
theorem H99_87 : (∀ (x0 x1 x2 x3 x4 x5 x6 x7 x8 x9 : Option Value) (v : Int32) (t : eL) (st : List Value) (h : eH), ru 99 87 (x0 :: x1 :: x2 :: x3 :: x4 :: x5 :: x6 :: x7 :: x8 :: x9 :: some (.int v) :: t) st h = ru 99 89 (x0 :: x1 :: x2 :: x3 :: x4 :: x5 :: x6 :: x7 :: x8 :: x9 :: some (.int v) :: t) (.int v :: st) h) := fun x0 x1 x2 x3 x4 x5 x6 x7 x8 x9 v t st h => ru_go rfl rfl
set_option maxRecDepth 100000 in
theorem H99_154 : (∀ (v : Nat) (t : eL) (st : List Value) (h : eH), ru 99 154 (some (.ref v) :: t) st h = ru 99 155 (some (.ref v) :: t) (.ref v :: st) h) := fun v t st h => ru_go rfl rfl
set_option maxRecDepth 100000 in
theorem S99 : (∀ (x0 : Option Value) (v : Nat) (t : eL) (st : List Value) (h : eH), ru 99 0 (x0 :: some (.ref v) :: t) st h = ru 99 1 (x0 :: some (.ref v) :: t) (.ref v :: st) h) ∧
  (∀ (a : Nat) (ls : eL) (st : List Value) (h : eH), ru 99 1 ls (.ref a :: st) h = gF (h.1 a) 9 2 (fun v => ru 99 4 ls (v :: st) h)) ∧
  (∀ (x0 x1 : Option Value) (v : Int32) (t : eL) (st : List Value) (h : eH), ru 99 4 (x0 :: x1 :: some (.int v) :: t) st h = ru 99 5 (x0 :: x1 :: some (.int v) :: t) (.int v :: st) h) ∧
  (∀ (x y : Int32) (ls : eL) (st : List Value) (h : eH), ru 99 5 ls (.int y :: .int x :: st) h = if x = y then ru 99 12 ls st h else ru 99 8 ls st h) ∧
  (∀ (ls : eL) (st : List Value) (h : eH), ru 99 8 ls st h = ru 99 9 ls (.int (nI 1) :: st) h) ∧
  (∀ (ls : eL) (st : List Value) (h : eH), ru 99 9 ls st h = ru 99 13 ls st h) ∧
  (∀ (ls : eL) (st : List Value) (h : eH), ru 99 12 ls st h = ru 99 13 ls (.int (nI 0) :: st) h) ∧
  (∀ (x0 x1 x2 x3 : Option Value) (v : Int32) (t : eL) (st : List Value) (h : eH), ru 99 13 (x0 :: x1 :: x2 :: x3 :: t) (.int v :: st) h = ru 99 14 (x0 :: x1 :: eKl x2 :: some (.int v) :: t) st h) ∧
  (∀ (v : Nat) (t : eL) (st : List Value) (h : eH), ru 99 14 (some (.ref v) :: t) st h = ru 99 15 (some (.ref v) :: t) (.ref v :: st) h) ∧
  (∀ (a : Nat) (ls : eL) (st : List Value) (h : eH), ru 99 15 ls (.ref a :: st) h = gF (h.1 a) 9 2 (fun v => ru 99 18 ls (v :: st) h)) ∧
  (∀ (x0 x1 x2 : Option Value) (v : Int32) (t : eL) (st : List Value) (h : eH), ru 99 18 (x0 :: x1 :: x2 :: some (.int v) :: t) st h = ru 99 19 (x0 :: x1 :: x2 :: some (.int v) :: t) (.int v :: st) h) ∧
  (∀ (x y : Int32) (ls : eL) (st : List Value) (h : eH), ru 99 19 ls (.int y :: .int x :: st) h = if x = y then ru 99 22 ls st h else ru 99 26 ls st h) ∧
  (∀ (ls : eL) (st : List Value) (h : eH), ru 99 22 ls st h = ru 99 23 ls (.int (nI 1) :: st) h) ∧
  (∀ (ls : eL) (st : List Value) (h : eH), ru 99 23 ls st h = ru 99 27 ls st h) ∧
  (∀ (ls : eL) (st : List Value) (h : eH), ru 99 26 ls st h = ru 99 27 ls (.int ((-1)) :: st) h) ∧
  (∀ (x0 x1 x2 x3 x4 : Option Value) (v : Int32) (t : eL) (st : List Value) (h : eH), ru 99 27 (x0 :: x1 :: x2 :: x3 :: x4 :: t) (.int v :: st) h = ru 99 29 (x0 :: x1 :: x2 :: eKl x3 :: some (.int v) :: t) st h) ∧
  (∀ (v : Nat) (t : eL) (st : List Value) (h : eH), ru 99 29 (some (.ref v) :: t) st h = ru 99 30 (some (.ref v) :: t) (.ref v :: st) h) ∧
  (∀ (x0 : Option Value) (v : Nat) (t : eL) (st : List Value) (h : eH), ru 99 30 (x0 :: some (.ref v) :: t) st h = ru 99 31 (x0 :: some (.ref v) :: t) (.ref v :: st) h) ∧
  (∀ (a0 : Nat) (a1 : Nat) (ls : eL) (h : eH), ru 99 31 ls [.ref a1, .ref a0] h = cl (den 97 [.ref a0, .ref a1] h) (fun v h => ru 99 34 ls (v.toList ++ []) h)) ∧
  (∀ (x : Int32) (ls : eL) (st : List Value) (h : eH), ru 99 34 ls (.int x :: st) h = if 0 ≤ x then ru 99 41 ls st h else ru 99 37 ls st h) ∧
  (∀ (ls : eL) (st : List Value) (h : eH), ru 99 37 ls st h = ru 99 38 ls (.int (nI 1) :: st) h) ∧
  (∀ (ls : eL) (st : List Value) (h : eH), ru 99 38 ls st h = ru 99 42 ls st h) ∧
  (∀ (ls : eL) (st : List Value) (h : eH), ru 99 41 ls st h = ru 99 42 ls (.int (nI 0) :: st) h) ∧
  (∀ (x0 x1 x2 x3 x4 x5 : Option Value) (v : Int32) (t : eL) (st : List Value) (h : eH), ru 99 42 (x0 :: x1 :: x2 :: x3 :: x4 :: x5 :: t) (.int v :: st) h = ru 99 44 (x0 :: x1 :: x2 :: x3 :: eKl x4 :: some (.int v) :: t) st h) ∧
  (∀ (x0 x1 x2 x3 x4 : Option Value) (v : Int32) (t : eL) (st : List Value) (h : eH), ru 99 44 (x0 :: x1 :: x2 :: x3 :: x4 :: some (.int v) :: t) st h = ru 99 46 (x0 :: x1 :: x2 :: x3 :: x4 :: some (.int v) :: t) (.int v :: st) h) ∧
  (∀ (x : Int32) (ls : eL) (st : List Value) (h : eH), ru 99 46 ls (.int x :: st) h = if x = 0 then ru 99 53 ls st h else ru 99 49 ls st h) ∧
  (∀ (x0 : Option Value) (v : Nat) (t : eL) (st : List Value) (h : eH), ru 99 49 (x0 :: some (.ref v) :: t) st h = ru 99 50 (x0 :: some (.ref v) :: t) (.ref v :: st) h) ∧
  (∀ (ls : eL) (st : List Value) (h : eH), ru 99 50 ls st h = ru 99 54 ls st h) ∧
  (∀ (v : Nat) (t : eL) (st : List Value) (h : eH), ru 99 53 (some (.ref v) :: t) st h = ru 99 54 (some (.ref v) :: t) (.ref v :: st) h) ∧
  (∀ (x0 x1 x2 x3 x4 x5 x6 : Option Value) (v : Nat) (t : eL) (st : List Value) (h : eH), ru 99 54 (x0 :: x1 :: x2 :: x3 :: x4 :: x5 :: x6 :: t) (.ref v :: st) h = ru 99 56 (x0 :: x1 :: x2 :: x3 :: x4 :: eKl x5 :: some (.ref v) :: t) st h) ∧
  (∀ (x0 x1 x2 x3 x4 : Option Value) (v : Int32) (t : eL) (st : List Value) (h : eH), ru 99 56 (x0 :: x1 :: x2 :: x3 :: x4 :: some (.int v) :: t) st h = ru 99 58 (x0 :: x1 :: x2 :: x3 :: x4 :: some (.int v) :: t) (.int v :: st) h) ∧
  (∀ (x : Int32) (ls : eL) (st : List Value) (h : eH), ru 99 58 ls (.int x :: st) h = if x = 0 then ru 99 65 ls st h else ru 99 61 ls st h) ∧
  (∀ (v : Nat) (t : eL) (st : List Value) (h : eH), ru 99 61 (some (.ref v) :: t) st h = ru 99 62 (some (.ref v) :: t) (.ref v :: st) h) ∧
  (∀ (ls : eL) (st : List Value) (h : eH), ru 99 62 ls st h = ru 99 66 ls st h) ∧
  (∀ (x0 : Option Value) (v : Nat) (t : eL) (st : List Value) (h : eH), ru 99 65 (x0 :: some (.ref v) :: t) st h = ru 99 66 (x0 :: some (.ref v) :: t) (.ref v :: st) h) ∧
  (∀ (x0 x1 x2 x3 x4 x5 x6 x7 : Option Value) (v : Nat) (t : eL) (st : List Value) (h : eH), ru 99 66 (x0 :: x1 :: x2 :: x3 :: x4 :: x5 :: x6 :: x7 :: t) (.ref v :: st) h = ru 99 68 (x0 :: x1 :: x2 :: x3 :: x4 :: x5 :: eKl x6 :: some (.ref v) :: t) st h) ∧
  (∀ (v : Nat) (t : eL) (st : List Value) (h : eH), ru 99 68 (some (.ref v) :: t) st h = ru 99 69 (some (.ref v) :: t) (.ref v :: st) h) ∧
  (∀ (x0 x1 x2 x3 x4 x5 : Option Value) (v : Nat) (t : eL) (st : List Value) (h : eH), ru 99 69 (x0 :: x1 :: x2 :: x3 :: x4 :: x5 :: some (.ref v) :: t) st h = ru 99 71 (x0 :: x1 :: x2 :: x3 :: x4 :: x5 :: some (.ref v) :: t) (.ref v :: st) h) ∧
  (∀ (a : Nat) (ls : eL) (st : List Value) (h : eH), ru 99 71 ls (.ref a :: st) h = gF (h.1 a) 9 1 (fun v => ru 99 74 ls (v :: st) h)) ∧
  (∀ (ls : eL) (st : List Value) (h : eH), ru 99 74 ls st h = ru 99 75 ls (.int (nI 1) :: st) h) ∧
  (∀ (x y : Int32) (ls : eL) (st : List Value) (h : eH), ru 99 75 ls (.int y :: .int x :: st) h = ru 99 76 ls (.int (x + y) :: st) h) ∧
  (∀ (a0 : Nat) (a1 : Int32) (ls : eL) (h : eH), ru 99 76 ls [.int a1, .ref a0] h = cl (den 94 [.ref a0, .int a1] h) (fun v h => ru 99 79 ls (v.toList ++ []) h)) ∧
  (∀ (x0 x1 x2 x3 x4 x5 x6 x7 x8 : Option Value) (v : Int32) (t : eL) (st : List Value) (h : eH), ru 99 79 (x0 :: x1 :: x2 :: x3 :: x4 :: x5 :: x6 :: x7 :: x8 :: t) (.int v :: st) h = ru 99 81 (x0 :: x1 :: x2 :: x3 :: x4 :: x5 :: x6 :: eKl x7 :: some (.int v) :: t) st h) ∧
  (∀ (ls : eL) (st : List Value) (h : eH), ru 99 81 ls st h = ru 99 82 ls (.int (nI 0) :: st) h) ∧
  (∀ (x0 x1 x2 x3 x4 x5 x6 x7 x8 x9 : Option Value) (v : Int32) (t : eL) (st : List Value) (h : eH), ru 99 82 (x0 :: x1 :: x2 :: x3 :: x4 :: x5 :: x6 :: x7 :: x8 :: x9 :: t) (.int v :: st) h = ru 99 84 (x0 :: x1 :: x2 :: x3 :: x4 :: x5 :: x6 :: x7 :: eKl x8 :: some (.int v) :: t) st h) ∧
  (∀ (ls : eL) (st : List Value) (h : eH), ru 99 84 ls st h = ru 99 85 ls (.int (nI 0) :: st) h) ∧
  (∀ (x0 x1 x2 x3 x4 x5 x6 x7 x8 x9 x10 : Option Value) (v : Int32) (t : eL) (st : List Value) (h : eH), ru 99 85 (x0 :: x1 :: x2 :: x3 :: x4 :: x5 :: x6 :: x7 :: x8 :: x9 :: x10 :: t) (.int v :: st) h = ru 99 87 (x0 :: x1 :: x2 :: x3 :: x4 :: x5 :: x6 :: x7 :: x8 :: eKl x9 :: some (.int v) :: t) st h) ∧
  (∀ (x0 x1 x2 x3 x4 x5 x6 x7 : Option Value) (v : Int32) (t : eL) (st : List Value) (h : eH), ru 99 89 (x0 :: x1 :: x2 :: x3 :: x4 :: x5 :: x6 :: x7 :: some (.int v) :: t) st h = ru 99 91 (x0 :: x1 :: x2 :: x3 :: x4 :: x5 :: x6 :: x7 :: some (.int v) :: t) (.int v :: st) h) ∧
  (∀ (x y : Int32) (ls : eL) (st : List Value) (h : eH), ru 99 91 ls (.int y :: .int x :: st) h = if y ≤ x then ru 99 154 ls st h else ru 99 94 ls st h) ∧
  (∀ (x0 x1 x2 x3 x4 x5 : Option Value) (v : Nat) (t : eL) (st : List Value) (h : eH), ru 99 94 (x0 :: x1 :: x2 :: x3 :: x4 :: x5 :: some (.ref v) :: t) st h = ru 99 96 (x0 :: x1 :: x2 :: x3 :: x4 :: x5 :: some (.ref v) :: t) (.ref v :: st) h) ∧
  (∀ (x0 x1 x2 x3 x4 x5 x6 x7 x8 x9 : Option Value) (v : Int32) (t : eL) (st : List Value) (h : eH), ru 99 96 (x0 :: x1 :: x2 :: x3 :: x4 :: x5 :: x6 :: x7 :: x8 :: x9 :: some (.int v) :: t) st h = ru 99 98 (x0 :: x1 :: x2 :: x3 :: x4 :: x5 :: x6 :: x7 :: x8 :: x9 :: some (.int v) :: t) (.int v :: st) h) ∧
  (∀ (a0 : Nat) (a1 : Int32) (ls : eL) (h : eH), ru 99 98 ls [.int a1, .ref a0] h = cl (den 98 [.ref a0, .int a1] h) (fun v h => ru 99 101 ls (v.toList ++ []) h)) ∧
  (∀ (x0 x1 x2 x3 : Option Value) (v : Int32) (t : eL) (st : List Value) (h : eH), ru 99 101 (x0 :: x1 :: x2 :: x3 :: some (.int v) :: t) st h = ru 99 103 (x0 :: x1 :: x2 :: x3 :: some (.int v) :: t) (.int v :: st) h) ∧
  (∀ (x0 x1 x2 x3 x4 x5 x6 : Option Value) (v : Nat) (t : eL) (st : List Value) (h : eH), ru 99 103 (x0 :: x1 :: x2 :: x3 :: x4 :: x5 :: x6 :: some (.ref v) :: t) st h = ru 99 105 (x0 :: x1 :: x2 :: x3 :: x4 :: x5 :: x6 :: some (.ref v) :: t) (.ref v :: st) h) ∧
  (∀ (x0 x1 x2 x3 x4 x5 x6 x7 x8 x9 : Option Value) (v : Int32) (t : eL) (st : List Value) (h : eH), ru 99 105 (x0 :: x1 :: x2 :: x3 :: x4 :: x5 :: x6 :: x7 :: x8 :: x9 :: some (.int v) :: t) st h = ru 99 107 (x0 :: x1 :: x2 :: x3 :: x4 :: x5 :: x6 :: x7 :: x8 :: x9 :: some (.int v) :: t) (.int v :: st) h) ∧
  (∀ (a0 : Nat) (a1 : Int32) (u0 : Int32) (u1 : Int32) (ls : eL) (h : eH), ru 99 107 ls [.int a1, .ref a0, .int u0, .int u1] h = cl (den 98 [.ref a0, .int a1] h) (fun v h => ru 99 110 ls (v.toList ++ [.int u0, .int u1]) h)) ∧
  (∀ (x y : Int32) (ls : eL) (st : List Value) (h : eH), ru 99 110 ls (.int y :: .int x :: st) h = ru 99 111 ls (.int (x * y) :: st) h) ∧
  (∀ (x y : Int32) (ls : eL) (st : List Value) (h : eH), ru 99 111 ls (.int y :: .int x :: st) h = ru 99 112 ls (.int (x + y) :: st) h) ∧
  (∀ (x0 x1 x2 x3 x4 x5 x6 x7 x8 : Option Value) (v : Int32) (t : eL) (st : List Value) (h : eH), ru 99 112 (x0 :: x1 :: x2 :: x3 :: x4 :: x5 :: x6 :: x7 :: x8 :: some (.int v) :: t) st h = ru 99 114 (x0 :: x1 :: x2 :: x3 :: x4 :: x5 :: x6 :: x7 :: x8 :: some (.int v) :: t) (.int v :: st) h) ∧
  (∀ (x y : Int32) (ls : eL) (st : List Value) (h : eH), ru 99 114 ls (.int y :: .int x :: st) h = ru 99 115 ls (.int (x + y) :: st) h) ∧
  (∀ (x0 x1 x2 x3 x4 x5 x6 x7 x8 x9 x10 x11 : Option Value) (v : Int32) (t : eL) (st : List Value) (h : eH), ru 99 115 (x0 :: x1 :: x2 :: x3 :: x4 :: x5 :: x6 :: x7 :: x8 :: x9 :: x10 :: x11 :: t) (.int v :: st) h = ru 99 117 (x0 :: x1 :: x2 :: x3 :: x4 :: x5 :: x6 :: x7 :: x8 :: x9 :: eKl x10 :: some (.int v) :: t) st h) ∧
  (∀ (x0 x1 x2 x3 x4 x5 x6 x7 x8 x9 x10 : Option Value) (v : Int32) (t : eL) (st : List Value) (h : eH), ru 99 117 (x0 :: x1 :: x2 :: x3 :: x4 :: x5 :: x6 :: x7 :: x8 :: x9 :: x10 :: some (.int v) :: t) st h = ru 99 119 (x0 :: x1 :: x2 :: x3 :: x4 :: x5 :: x6 :: x7 :: x8 :: x9 :: x10 :: some (.int v) :: t) (.int v :: st) h) ∧
  (∀ (x : Int32) (ls : eL) (st : List Value) (h : eH), ru 99 119 ls (.int x :: st) h = if 0 ≤ x then ru 99 126 ls st h else ru 99 122 ls st h) ∧
  (∀ (ls : eL) (st : List Value) (h : eH), ru 99 122 ls st h = ru 99 123 ls (.int ((-1)) :: st) h) ∧
  (∀ (ls : eL) (st : List Value) (h : eH), ru 99 123 ls st h = ru 99 131 ls st h) ∧
  (∀ (x0 x1 x2 x3 x4 x5 x6 x7 x8 x9 x10 : Option Value) (v : Int32) (t : eL) (st : List Value) (h : eH), ru 99 126 (x0 :: x1 :: x2 :: x3 :: x4 :: x5 :: x6 :: x7 :: x8 :: x9 :: x10 :: some (.int v) :: t) st h = ru 99 128 (x0 :: x1 :: x2 :: x3 :: x4 :: x5 :: x6 :: x7 :: x8 :: x9 :: x10 :: some (.int v) :: t) (.int v :: st) h) ∧
  (∀ (ls : eL) (st : List Value) (h : eH), ru 99 128 ls st h = ru 99 130 ls (.int (nI 1000000000) :: st) h) ∧
  (∀ (x y : Int32) (ls : eL) (st : List Value) (h : eH), ru 99 130 ls (.int y :: .int x :: st) h = if y = 0 then none else ru 99 131 ls (.int (x / y) :: st) h) ∧
  (∀ (x0 x1 x2 x3 x4 x5 x6 x7 x8 x9 : Option Value) (v : Int32) (t : eL) (st : List Value) (h : eH), ru 99 131 (x0 :: x1 :: x2 :: x3 :: x4 :: x5 :: x6 :: x7 :: x8 :: x9 :: t) (.int v :: st) h = ru 99 133 (x0 :: x1 :: x2 :: x3 :: x4 :: x5 :: x6 :: x7 :: eKl x8 :: some (.int v) :: t) st h) ∧
  (∀ (v : Nat) (t : eL) (st : List Value) (h : eH), ru 99 133 (some (.ref v) :: t) st h = ru 99 134 (some (.ref v) :: t) (.ref v :: st) h) ∧
  (∀ (a : Nat) (ls : eL) (st : List Value) (h : eH), ru 99 134 ls (.ref a :: st) h = gF (h.1 a) 9 0 (fun v => ru 99 137 ls (v :: st) h)) ∧
  (∀ (x0 x1 x2 x3 x4 x5 x6 x7 x8 x9 : Option Value) (v : Int32) (t : eL) (st : List Value) (h : eH), ru 99 137 (x0 :: x1 :: x2 :: x3 :: x4 :: x5 :: x6 :: x7 :: x8 :: x9 :: some (.int v) :: t) st h = ru 99 139 (x0 :: x1 :: x2 :: x3 :: x4 :: x5 :: x6 :: x7 :: x8 :: x9 :: some (.int v) :: t) (.int v :: st) h) ∧
  (∀ (x0 x1 x2 x3 x4 x5 x6 x7 x8 x9 x10 : Option Value) (v : Int32) (t : eL) (st : List Value) (h : eH), ru 99 139 (x0 :: x1 :: x2 :: x3 :: x4 :: x5 :: x6 :: x7 :: x8 :: x9 :: x10 :: some (.int v) :: t) st h = ru 99 141 (x0 :: x1 :: x2 :: x3 :: x4 :: x5 :: x6 :: x7 :: x8 :: x9 :: x10 :: some (.int v) :: t) (.int v :: st) h) ∧
  (∀ (x0 x1 x2 x3 x4 x5 x6 x7 x8 : Option Value) (v : Int32) (t : eL) (st : List Value) (h : eH), ru 99 141 (x0 :: x1 :: x2 :: x3 :: x4 :: x5 :: x6 :: x7 :: x8 :: some (.int v) :: t) st h = ru 99 143 (x0 :: x1 :: x2 :: x3 :: x4 :: x5 :: x6 :: x7 :: x8 :: some (.int v) :: t) (.int v :: st) h) ∧
  (∀ (ls : eL) (st : List Value) (h : eH), ru 99 143 ls st h = ru 99 145 ls (.int (nI 1000000000) :: st) h) ∧
  (∀ (x y : Int32) (ls : eL) (st : List Value) (h : eH), ru 99 145 ls (.int y :: .int x :: st) h = ru 99 146 ls (.int (x * y) :: st) h) ∧
  (∀ (x y : Int32) (ls : eL) (st : List Value) (h : eH), ru 99 146 ls (.int y :: .int x :: st) h = ru 99 147 ls (.int (x - y) :: st) h) ∧
  (∀ (x : Int32) (i : Int32) (a : Nat) (ls : eL) (st : List Value) (h : eH), ru 99 147 ls (.int x :: .int i :: .ref a :: st) h = wI (h.1 a) i x (fun e => ru 99 148 ls st (eUp h a e))) ∧
  (∀ (x0 x1 x2 x3 x4 x5 x6 x7 x8 x9 : Option Value) (v : Int32) (t : eL) (st : List Value) (h : eH), ru 99 148 (x0 :: x1 :: x2 :: x3 :: x4 :: x5 :: x6 :: x7 :: x8 :: x9 :: some (.int v) :: t) st h = ru 99 151 (x0 :: x1 :: x2 :: x3 :: x4 :: x5 :: x6 :: x7 :: x8 :: eKl x9 :: some (.int (v + 1)) :: t) st h) ∧
  (∀ (ls : eL) (st : List Value) (h : eH), ru 99 151 ls st h = ru 99 87 ls st h) ∧
  (∀ (x0 x1 x2 x3 x4 : Option Value) (v : Int32) (t : eL) (st : List Value) (h : eH), ru 99 155 (x0 :: x1 :: x2 :: x3 :: x4 :: some (.int v) :: t) st h = ru 99 157 (x0 :: x1 :: x2 :: x3 :: x4 :: some (.int v) :: t) (.int v :: st) h) ∧
  (∀ (x : Int32) (ls : eL) (st : List Value) (h : eH), ru 99 157 ls (.int x :: st) h = if x = 0 then ru 99 164 ls st h else ru 99 160 ls st h) ∧
  (∀ (x0 x1 x2 : Option Value) (v : Int32) (t : eL) (st : List Value) (h : eH), ru 99 160 (x0 :: x1 :: x2 :: some (.int v) :: t) st h = ru 99 161 (x0 :: x1 :: x2 :: some (.int v) :: t) (.int v :: st) h) ∧
  (∀ (ls : eL) (st : List Value) (h : eH), ru 99 161 ls st h = ru 99 168 ls st h) ∧
  (∀ (v : Nat) (t : eL) (st : List Value) (h : eH), ru 99 164 (some (.ref v) :: t) st h = ru 99 165 (some (.ref v) :: t) (.ref v :: st) h) ∧
  (∀ (a : Nat) (ls : eL) (st : List Value) (h : eH), ru 99 165 ls (.ref a :: st) h = gF (h.1 a) 9 2 (fun v => ru 99 168 ls (v :: st) h)) ∧
  (∀ (v : Int32) (a : Nat) (ls : eL) (st : List Value) (h : eH), ru 99 168 ls (.int v :: .ref a :: st) h = pF (h.1 a) 9 2 (.int v) (fun e => ru 99 171 ls st (eUp h a e))) ∧
  (∀ (v : Nat) (t : eL) (st : List Value) (h : eH), ru 99 171 (some (.ref v) :: t) st h = ru 99 172 (some (.ref v) :: t) (.ref v :: st) h) ∧
  (∀ (x0 x1 x2 x3 x4 x5 x6 x7 : Option Value) (v : Int32) (t : eL) (st : List Value) (h : eH), ru 99 172 (x0 :: x1 :: x2 :: x3 :: x4 :: x5 :: x6 :: x7 :: some (.int v) :: t) st h = ru 99 174 (x0 :: x1 :: x2 :: x3 :: x4 :: x5 :: x6 :: x7 :: some (.int v) :: t) (.int v :: st) h) ∧
  (∀ (a0 : Nat) (a1 : Int32) (ls : eL) (h : eH), ru 99 174 ls [.int a1, .ref a0] h = cl (den 95 [.ref a0, .int a1] h) (fun v h => ru 99 177 ls (v.toList ++ []) h)) ∧
  (∀ (ls : eL) (h : eH), ru 99 177 ls [] h = some (none, h)) := ⟨fun x0 v t st h => ru_go rfl rfl,
  fun a ls st h => ru_getf rfl,
  fun x0 x1 v t st h => ru_go rfl rfl,
  fun x y ls st h => ru_if rfl rfl,
  fun ls st h => ru_go rfl rfl,
  fun ls st h => ru_go rfl rfl,
  fun ls st h => ru_go rfl rfl,
  fun x0 x1 x2 x3 v t st h => ru_go rfl rfl,
  fun v t st h => ru_go rfl rfl,
  fun a ls st h => ru_getf rfl,
  fun x0 x1 x2 v t st h => ru_go rfl rfl,
  fun x y ls st h => ru_if rfl rfl,
  fun ls st h => ru_go rfl rfl,
  fun ls st h => ru_go rfl rfl,
  fun ls st h => ru_go rfl rfl,
  fun x0 x1 x2 x3 x4 v t st h => ru_go rfl rfl,
  fun v t st h => ru_go rfl rfl,
  fun x0 v t st h => ru_go rfl rfl,
  fun a0 a1 ls h => ru_inv rfl (by decide) rfl (Nat.le_of_ble_eq_true rfl),
  fun x ls st h => ru_if rfl rfl,
  fun ls st h => ru_go rfl rfl,
  fun ls st h => ru_go rfl rfl,
  fun ls st h => ru_go rfl rfl,
  fun x0 x1 x2 x3 x4 x5 v t st h => ru_go rfl rfl,
  fun x0 x1 x2 x3 x4 v t st h => ru_go rfl rfl,
  fun x ls st h => ru_if rfl rfl,
  fun x0 v t st h => ru_go rfl rfl,
  fun ls st h => ru_go rfl rfl,
  fun v t st h => ru_go rfl rfl,
  fun x0 x1 x2 x3 x4 x5 x6 v t st h => ru_go rfl rfl,
  fun x0 x1 x2 x3 x4 v t st h => ru_go rfl rfl,
  fun x ls st h => ru_if rfl rfl,
  fun v t st h => ru_go rfl rfl,
  fun ls st h => ru_go rfl rfl,
  fun x0 v t st h => ru_go rfl rfl,
  fun x0 x1 x2 x3 x4 x5 x6 x7 v t st h => ru_go rfl rfl,
  fun v t st h => ru_go rfl rfl,
  fun x0 x1 x2 x3 x4 x5 v t st h => ru_go rfl rfl,
  fun a ls st h => ru_getf rfl,
  fun ls st h => ru_go rfl rfl,
  fun x y ls st h => ru_go rfl rfl,
  fun a0 a1 ls h => ru_inv rfl (by decide) rfl (Nat.le_of_ble_eq_true rfl),
  fun x0 x1 x2 x3 x4 x5 x6 x7 x8 v t st h => ru_go rfl rfl,
  fun ls st h => ru_go rfl rfl,
  fun x0 x1 x2 x3 x4 x5 x6 x7 x8 x9 v t st h => ru_go rfl rfl,
  fun ls st h => ru_go rfl rfl,
  fun x0 x1 x2 x3 x4 x5 x6 x7 x8 x9 x10 v t st h => ru_go rfl rfl,
  fun x0 x1 x2 x3 x4 x5 x6 x7 v t st h => ru_go rfl rfl,
  fun x y ls st h => ru_if rfl rfl,
  fun x0 x1 x2 x3 x4 x5 v t st h => ru_go rfl rfl,
  fun x0 x1 x2 x3 x4 x5 x6 x7 x8 x9 v t st h => ru_go rfl rfl,
  fun a0 a1 ls h => ru_inv rfl (by decide) rfl (Nat.le_of_ble_eq_true rfl),
  fun x0 x1 x2 x3 v t st h => ru_go rfl rfl,
  fun x0 x1 x2 x3 x4 x5 x6 v t st h => ru_go rfl rfl,
  fun x0 x1 x2 x3 x4 x5 x6 x7 x8 x9 v t st h => ru_go rfl rfl,
  fun a0 a1 u0 u1 ls h => ru_inv rfl (by decide) rfl (Nat.le_of_ble_eq_true rfl),
  fun x y ls st h => ru_go rfl rfl,
  fun x y ls st h => ru_go rfl rfl,
  fun x0 x1 x2 x3 x4 x5 x6 x7 x8 v t st h => ru_go rfl rfl,
  fun x y ls st h => ru_go rfl rfl,
  fun x0 x1 x2 x3 x4 x5 x6 x7 x8 x9 x10 x11 v t st h => ru_go rfl rfl,
  fun x0 x1 x2 x3 x4 x5 x6 x7 x8 x9 x10 v t st h => ru_go rfl rfl,
  fun x ls st h => ru_if rfl rfl,
  fun ls st h => ru_go rfl rfl,
  fun ls st h => ru_go rfl rfl,
  fun x0 x1 x2 x3 x4 x5 x6 x7 x8 x9 x10 v t st h => ru_go rfl rfl,
  fun ls st h => ru_go rfl rfl,
  fun x y ls st h => ru_guard rfl rfl,
  fun x0 x1 x2 x3 x4 x5 x6 x7 x8 x9 v t st h => ru_go rfl rfl,
  fun v t st h => ru_go rfl rfl,
  fun a ls st h => ru_getf rfl,
  fun x0 x1 x2 x3 x4 x5 x6 x7 x8 x9 v t st h => ru_go rfl rfl,
  fun x0 x1 x2 x3 x4 x5 x6 x7 x8 x9 x10 v t st h => ru_go rfl rfl,
  fun x0 x1 x2 x3 x4 x5 x6 x7 x8 v t st h => ru_go rfl rfl,
  fun ls st h => ru_go rfl rfl,
  fun x y ls st h => ru_go rfl rfl,
  fun x y ls st h => ru_go rfl rfl,
  fun x i a ls st h => ru_iast rfl,
  fun x0 x1 x2 x3 x4 x5 x6 x7 x8 x9 v t st h => ru_go rfl rfl,
  fun ls st h => ru_go rfl rfl,
  fun x0 x1 x2 x3 x4 v t st h => ru_go rfl rfl,
  fun x ls st h => ru_if rfl rfl,
  fun x0 x1 x2 v t st h => ru_go rfl rfl,
  fun ls st h => ru_go rfl rfl,
  fun v t st h => ru_go rfl rfl,
  fun a ls st h => ru_getf rfl,
  fun v a ls st h => ru_putf rfl,
  fun v t st h => ru_go rfl rfl,
  fun x0 x1 x2 x3 x4 x5 x6 x7 v t st h => ru_go rfl rfl,
  fun a0 a1 ls h => ru_inv rfl (by decide) rfl (Nat.le_of_ble_eq_true rfl),
  fun ls h => ru_ret rfl rfl⟩
theorem E99 (a0 : Nat) (a1 : Nat) (a2 : Int32) {h : eH} {fs : List Value} (ha : h.1 a0 = .inr (9, fs)) : den 99 [.ref a0, .ref a1, .int a2] h = ru 99 0 [some (.ref a0), some (.ref a1), some (.int a2), none, none, none, none, none, none, none, none, none] [] h := den_ob (Nat.le_of_ble_eq_true rfl) ha
/-! 100 X9_sign -/
set_option maxRecDepth 100000 in
theorem S100 : (∀ (v : Nat) (t : eL) (st : List Value) (h : eH), ru 100 0 (some (.ref v) :: t) st h = ru 100 1 (some (.ref v) :: t) (.ref v :: st) h) ∧
  (∀ (a : Nat) (ls : eL) (st : List Value) (h : eH), ru 100 1 ls (.ref a :: st) h = gF (h.1 a) 9 1 (fun v => ru 100 4 ls (v :: st) h)) ∧
  (∀ (x : Int32) (ls : eL) (st : List Value) (h : eH), ru 100 4 ls (.int x :: st) h = if x = 0 then ru 100 7 ls st h else ru 100 9 ls st h) ∧
  (∀ (ls : eL) (st : List Value) (h : eH), ru 100 7 ls st h = ru 100 8 ls (.int (nI 0) :: st) h) ∧
  (∀ (x : Int32) (ls : eL) (h : eH), ru 100 8 ls [.int x] h = some (some (.int x), h)) ∧
  (∀ (v : Nat) (t : eL) (st : List Value) (h : eH), ru 100 9 (some (.ref v) :: t) st h = ru 100 10 (some (.ref v) :: t) (.ref v :: st) h) ∧
  (∀ (a : Nat) (ls : eL) (st : List Value) (h : eH), ru 100 10 ls (.ref a :: st) h = gF (h.1 a) 9 2 (fun v => ru 100 13 ls (v :: st) h)) ∧
  (∀ (x : Int32) (ls : eL) (st : List Value) (h : eH), ru 100 13 ls (.int x :: st) h = if x = 0 then ru 100 20 ls st h else ru 100 16 ls st h) ∧
  (∀ (ls : eL) (st : List Value) (h : eH), ru 100 16 ls st h = ru 100 17 ls (.int ((-1)) :: st) h) ∧
  (∀ (ls : eL) (st : List Value) (h : eH), ru 100 17 ls st h = ru 100 21 ls st h) ∧
  (∀ (ls : eL) (st : List Value) (h : eH), ru 100 20 ls st h = ru 100 21 ls (.int (nI 1) :: st) h) ∧
  (∀ (x : Int32) (ls : eL) (h : eH), ru 100 21 ls [.int x] h = some (some (.int x), h)) := ⟨fun v t st h => ru_go rfl rfl,
  fun a ls st h => ru_getf rfl,
  fun x ls st h => ru_if rfl rfl,
  fun ls st h => ru_go rfl rfl,
  fun x ls h => ru_ret rfl rfl,
  fun v t st h => ru_go rfl rfl,
  fun a ls st h => ru_getf rfl,
  fun x ls st h => ru_if rfl rfl,
  fun ls st h => ru_go rfl rfl,
  fun ls st h => ru_go rfl rfl,
  fun ls st h => ru_go rfl rfl,
  fun x ls h => ru_ret rfl rfl⟩
theorem E100 (a0 : Nat) {h : eH} {fs : List Value} (ha : h.1 a0 = .inr (9, fs)) : den 100 [.ref a0] h = ru 100 0 [some (.ref a0)] [] h := den_ob (Nat.le_of_ble_eq_true rfl) ha
/-! 101 X0_signOfProduct -/
set_option maxRecDepth 100000 in
theorem H101_9 : (∀ (x0 x1 x2 : Option Value) (v : Int32) (t : eL) (st : List Value) (h : eH), ru 101 9 (x0 :: x1 :: x2 :: some (.int v) :: t) st h = ru 101 10 (x0 :: x1 :: x2 :: some (.int v) :: t) (.int v :: st) h) := fun x0 x1 x2 v t st h => ru_go rfl rfl
set_option maxRecDepth 100000 in
theorem H101_51 : (∀ (v : Nat) (t : eL) (st : List Value) (h : eH), ru 101 51 (some (.ref v) :: t) st h = ru 101 52 (some (.ref v) :: t) (.ref v :: st) h) := fun v t st h => ru_go rfl rfl
set_option maxRecDepth 100000 in
theorem S101 : (∀ (v : Nat) (t : eL) (st : List Value) (h : eH), ru 101 0 (some (.ref v) :: t) st h = ru 101 1 (some (.ref v) :: t) (.ref v :: st) h) ∧
  (∀ (a : Nat) (ls : eL) (st : List Value) (h : eH), ru 101 1 ls (.ref a :: st) h = gF (h.1 a) 0 3 (fun v => ru 101 4 ls (v :: st) h)) ∧
  (∀ (a0 : Nat) (ls : eL) (h : eH), ru 101 4 ls [.ref a0] h = cl (den 82 [.ref a0] h) (fun v h => ru 101 7 ls (v.toList ++ []) h)) ∧
  (∀ (ls : eL) (st : List Value) (h : eH), ru 101 7 ls st h = ru 101 8 ls (.int (nI 0) :: st) h) ∧
  (∀ (x0 x1 x2 x3 : Option Value) (v : Int32) (t : eL) (st : List Value) (h : eH), ru 101 8 (x0 :: x1 :: x2 :: x3 :: t) (.int v :: st) h = ru 101 9 (x0 :: x1 :: eKl x2 :: some (.int v) :: t) st h) ∧
  (∀ (ls : eL) (st : List Value) (h : eH), ru 101 10 ls st h = ru 101 11 ls (.int (nI 3) :: st) h) ∧
  (∀ (x y : Int32) (ls : eL) (st : List Value) (h : eH), ru 101 11 ls (.int y :: .int x :: st) h = if y ≤ x then ru 101 51 ls st h else ru 101 14 ls st h) ∧
  (∀ (v : Nat) (t : eL) (st : List Value) (h : eH), ru 101 14 (some (.ref v) :: t) st h = ru 101 15 (some (.ref v) :: t) (.ref v :: st) h) ∧
  (∀ (a : Nat) (ls : eL) (st : List Value) (h : eH), ru 101 15 ls (.ref a :: st) h = gF (h.1 a) 0 4 (fun v => ru 101 18 ls (v :: st) h)) ∧
  (∀ (x0 : Option Value) (v : Nat) (t : eL) (st : List Value) (h : eH), ru 101 18 (x0 :: some (.ref v) :: t) st h = ru 101 19 (x0 :: some (.ref v) :: t) (.ref v :: st) h) ∧
  (∀ (a : Nat) (ls : eL) (st : List Value) (h : eH), ru 101 19 ls (.ref a :: st) h = gF (h.1 a) 8 0 (fun v => ru 101 22 ls (v :: st) h)) ∧
  (∀ (x0 x1 x2 : Option Value) (v : Int32) (t : eL) (st : List Value) (h : eH), ru 101 22 (x0 :: x1 :: x2 :: some (.int v) :: t) st h = ru 101 23 (x0 :: x1 :: x2 :: some (.int v) :: t) (.int v :: st) h) ∧
  (∀ (i : Int32) (a : Nat) (ls : eL) (st : List Value) (h : eH), ru 101 23 ls (.int i :: .ref a :: st) h = aQ (h.1 a) i (fun v => ru 101 24 ls (.ref v :: st) h)) ∧
  (∀ (x0 x1 : Option Value) (v : Nat) (t : eL) (st : List Value) (h : eH), ru 101 24 (x0 :: x1 :: some (.ref v) :: t) st h = ru 101 25 (x0 :: x1 :: some (.ref v) :: t) (.ref v :: st) h) ∧
  (∀ (a : Nat) (ls : eL) (st : List Value) (h : eH), ru 101 25 ls (.ref a :: st) h = gF (h.1 a) 8 0 (fun v => ru 101 28 ls (v :: st) h)) ∧
  (∀ (x0 x1 x2 : Option Value) (v : Int32) (t : eL) (st : List Value) (h : eH), ru 101 28 (x0 :: x1 :: x2 :: some (.int v) :: t) st h = ru 101 29 (x0 :: x1 :: x2 :: some (.int v) :: t) (.int v :: st) h) ∧
  (∀ (i : Int32) (a : Nat) (ls : eL) (st : List Value) (h : eH), ru 101 29 ls (.int i :: .ref a :: st) h = aQ (h.1 a) i (fun v => ru 101 30 ls (.ref v :: st) h)) ∧
  (∀ (a0 : Nat) (a1 : Nat) (a2 : Nat) (ls : eL) (h : eH), ru 101 30 ls [.ref a2, .ref a1, .ref a0] h = cl (den 96 [.ref a0, .ref a1, .ref a2] h) (fun v h => ru 101 33 ls (v.toList ++ []) h)) ∧
  (∀ (v : Nat) (t : eL) (st : List Value) (h : eH), ru 101 33 (some (.ref v) :: t) st h = ru 101 34 (some (.ref v) :: t) (.ref v :: st) h) ∧
  (∀ (a : Nat) (ls : eL) (st : List Value) (h : eH), ru 101 34 ls (.ref a :: st) h = gF (h.1 a) 0 3 (fun v => ru 101 37 ls (v :: st) h)) ∧
  (∀ (v : Nat) (t : eL) (st : List Value) (h : eH), ru 101 37 (some (.ref v) :: t) st h = ru 101 38 (some (.ref v) :: t) (.ref v :: st) h) ∧
  (∀ (a : Nat) (ls : eL) (st : List Value) (h : eH), ru 101 38 ls (.ref a :: st) h = gF (h.1 a) 0 4 (fun v => ru 101 41 ls (v :: st) h)) ∧
  (∀ (ls : eL) (st : List Value) (h : eH), ru 101 41 ls st h = ru 101 42 ls (.int (nI 0) :: st) h) ∧
  (∀ (a0 : Nat) (a1 : Nat) (a2 : Int32) (ls : eL) (h : eH), ru 101 42 ls [.int a2, .ref a1, .ref a0] h = cl (den 99 [.ref a0, .ref a1, .int a2] h) (fun v h => ru 101 45 ls (v.toList ++ []) h)) ∧
  (∀ (x0 x1 x2 : Option Value) (v : Int32) (t : eL) (st : List Value) (h : eH), ru 101 45 (x0 :: x1 :: x2 :: some (.int v) :: t) st h = ru 101 48 (x0 :: x1 :: eKl x2 :: some (.int (v + 1)) :: t) st h) ∧
  (∀ (ls : eL) (st : List Value) (h : eH), ru 101 48 ls st h = ru 101 9 ls st h) ∧
  (∀ (a : Nat) (ls : eL) (st : List Value) (h : eH), ru 101 52 ls (.ref a :: st) h = gF (h.1 a) 0 3 (fun v => ru 101 55 ls (v :: st) h)) ∧
  (∀ (a0 : Nat) (ls : eL) (h : eH), ru 101 55 ls [.ref a0] h = cl (den 100 [.ref a0] h) (fun v h => ru 101 58 ls (v.toList ++ []) h)) ∧
  (∀ (x : Int32) (ls : eL) (h : eH), ru 101 58 ls [.int x] h = some (some (.int x), h)) := ⟨fun v t st h => ru_go rfl rfl,
  fun a ls st h => ru_getf rfl,
  fun a0 ls h => ru_inv rfl (by decide) rfl (Nat.le_of_ble_eq_true rfl),
  fun ls st h => ru_go rfl rfl,
  fun x0 x1 x2 x3 v t st h => ru_go rfl rfl,
  fun ls st h => ru_go rfl rfl,
  fun x y ls st h => ru_if rfl rfl,
  fun v t st h => ru_go rfl rfl,
  fun a ls st h => ru_getf rfl,
  fun x0 v t st h => ru_go rfl rfl,
  fun a ls st h => ru_getf rfl,
  fun x0 x1 x2 v t st h => ru_go rfl rfl,
  fun i a ls st h => ru_aald rfl,
  fun x0 x1 v t st h => ru_go rfl rfl,
  fun a ls st h => ru_getf rfl,
  fun x0 x1 x2 v t st h => ru_go rfl rfl,
  fun i a ls st h => ru_aald rfl,
  fun a0 a1 a2 ls h => ru_inv rfl (by decide) rfl (Nat.le_of_ble_eq_true rfl),
  fun v t st h => ru_go rfl rfl,
  fun a ls st h => ru_getf rfl,
  fun v t st h => ru_go rfl rfl,
  fun a ls st h => ru_getf rfl,
  fun ls st h => ru_go rfl rfl,
  fun a0 a1 a2 ls h => ru_inv rfl (by decide) rfl (Nat.le_of_ble_eq_true rfl),
  fun x0 x1 x2 v t st h => ru_go rfl rfl,
  fun ls st h => ru_go rfl rfl,
  fun a ls st h => ru_getf rfl,
  fun a0 ls h => ru_inv rfl (by decide) rfl (Nat.le_of_ble_eq_true rfl),
  fun x ls h => ru_ret rfl rfl⟩
theorem E101 (a0 : Nat) (a1 : Nat) (a2 : Nat) {h : eH} {fs : List Value} (ha : h.1 a0 = .inr (0, fs)) : den 101 [.ref a0, .ref a1, .ref a2] h = ru 101 0 [some (.ref a0), some (.ref a1), some (.ref a2), none] [] h := den_ob (Nat.le_of_ble_eq_true rfl) ha
/-! 102 X0_tryRay -/
set_option maxRecDepth 100000 in
theorem H102_12 : (∀ (x0 x1 x2 : Option Value) (v : Int32) (t : eL) (st : List Value) (h : eH), ru 102 12 (x0 :: x1 :: x2 :: some (.int v) :: t) st h = ru 102 13 (x0 :: x1 :: x2 :: some (.int v) :: t) (.int v :: st) h) := fun x0 x1 x2 v t st h => ru_go rfl rfl
set_option maxRecDepth 100000 in
theorem H102_75 : (∀ (ls : eL) (st : List Value) (h : eH), ru 102 75 ls st h = ru 102 76 ls (.int (nI 0) :: st) h) := fun ls st h => ru_go rfl rfl
set_option maxRecDepth 100000 in
theorem H102_77 : (∀ (x0 x1 x2 : Option Value) (v : Int32) (t : eL) (st : List Value) (h : eH), ru 102 77 (x0 :: x1 :: x2 :: some (.int v) :: t) st h = ru 102 78 (x0 :: x1 :: x2 :: some (.int v) :: t) (.int v :: st) h) := fun x0 x1 x2 v t st h => ru_go rfl rfl
set_option maxRecDepth 100000 in
theorem S102 : (∀ (x0 : Option Value) (v : Nat) (t : eL) (st : List Value) (h : eH), ru 102 0 (x0 :: some (.ref v) :: t) st h = ru 102 1 (x0 :: some (.ref v) :: t) (.ref v :: st) h) ∧
  (∀ (a0 : Nat) (ls : eL) (h : eH), ru 102 1 ls [.ref a0] h = cl (den 93 [.ref a0] h) (fun v h => ru 102 4 ls (v.toList ++ []) h)) ∧
  (∀ (x : Int32) (ls : eL) (st : List Value) (h : eH), ru 102 4 ls (.int x :: st) h = if x = 0 then ru 102 8 ls st h else ru 102 7 ls st h) ∧
  (∀ (ls : eL) (h : eH), ru 102 7 ls [] h = some (none, h)) ∧
  (∀ (ls : eL) (st : List Value) (h : eH), ru 102 8 ls st h = ru 102 9 ls (.int (nI 0) :: st) h) ∧
  (∀ (x0 x1 x2 : Option Value) (v : Int32) (t : eL) (st : List Value) (h : eH), ru 102 9 (x0 :: x1 :: x2 :: t) (.int v :: st) h = ru 102 10 (x0 :: eKl x1 :: some (.int v) :: t) st h) ∧
  (∀ (ls : eL) (st : List Value) (h : eH), ru 102 10 ls st h = ru 102 11 ls (.int (nI 0) :: st) h) ∧
  (∀ (x0 x1 x2 x3 : Option Value) (v : Int32) (t : eL) (st : List Value) (h : eH), ru 102 11 (x0 :: x1 :: x2 :: x3 :: t) (.int v :: st) h = ru 102 12 (x0 :: x1 :: eKl x2 :: some (.int v) :: t) st h) ∧
  (∀ (v : Nat) (t : eL) (st : List Value) (h : eH), ru 102 13 (some (.ref v) :: t) st h = ru 102 14 (some (.ref v) :: t) (.ref v :: st) h) ∧
  (∀ (a : Nat) (ls : eL) (st : List Value) (h : eH), ru 102 14 ls (.ref a :: st) h = gF (h.1 a) 0 7 (fun v => ru 102 17 ls (v :: st) h)) ∧
  (∀ (x y : Int32) (ls : eL) (st : List Value) (h : eH), ru 102 17 ls (.int y :: .int x :: st) h = if y ≤ x then ru 102 75 ls st h else ru 102 20 ls st h) ∧
  (∀ (v : Nat) (t : eL) (st : List Value) (h : eH), ru 102 20 (some (.ref v) :: t) st h = ru 102 21 (some (.ref v) :: t) (.ref v :: st) h) ∧
  (∀ (a : Nat) (ls : eL) (st : List Value) (h : eH), ru 102 21 ls (.ref a :: st) h = gF (h.1 a) 0 5 (fun v => ru 102 24 ls (v :: st) h)) ∧
  (∀ (x0 x1 x2 : Option Value) (v : Int32) (t : eL) (st : List Value) (h : eH), ru 102 24 (x0 :: x1 :: x2 :: some (.int v) :: t) st h = ru 102 25 (x0 :: x1 :: x2 :: some (.int v) :: t) (.int v :: st) h) ∧
  (∀ (v : Nat) (t : eL) (st : List Value) (h : eH), ru 102 25 (some (.ref v) :: t) st h = ru 102 26 (some (.ref v) :: t) (.ref v :: st) h) ∧
  (∀ (v : Nat) (t : eL) (st : List Value) (h : eH), ru 102 26 (some (.ref v) :: t) st h = ru 102 27 (some (.ref v) :: t) (.ref v :: st) h) ∧
  (∀ (a : Nat) (ls : eL) (st : List Value) (h : eH), ru 102 27 ls (.ref a :: st) h = gF (h.1 a) 0 0 (fun v => ru 102 30 ls (v :: st) h)) ∧
  (∀ (x0 x1 x2 : Option Value) (v : Int32) (t : eL) (st : List Value) (h : eH), ru 102 30 (x0 :: x1 :: x2 :: some (.int v) :: t) st h = ru 102 31 (x0 :: x1 :: x2 :: some (.int v) :: t) (.int v :: st) h) ∧
  (∀ (i : Int32) (a : Nat) (ls : eL) (st : List Value) (h : eH), ru 102 31 ls (.int i :: .ref a :: st) h = aQ (h.1 a) i (fun v => ru 102 32 ls (.ref v :: st) h)) ∧
  (∀ (x0 : Option Value) (v : Nat) (t : eL) (st : List Value) (h : eH), ru 102 32 (x0 :: some (.ref v) :: t) st h = ru 102 33 (x0 :: some (.ref v) :: t) (.ref v :: st) h) ∧
  (∀ (a0 : Nat) (a1 : Nat) (a2 : Nat) (u0 : Int32) (u1 : Nat) (ls : eL) (h : eH), ru 102 33 ls [.ref a2, .ref a1, .ref a0, .int u0, .ref u1] h = cl (den 101 [.ref a0, .ref a1, .ref a2] h) (fun v h => ru 102 36 ls (v.toList ++ [.int u0, .ref u1]) h)) ∧
  (∀ (x : Int32) (i : Int32) (a : Nat) (ls : eL) (st : List Value) (h : eH), ru 102 36 ls (.int x :: .int i :: .ref a :: st) h = wI (h.1 a) i x (fun e => ru 102 37 ls st (eUp h a e))) ∧
  (∀ (v : Nat) (t : eL) (st : List Value) (h : eH), ru 102 37 (some (.ref v) :: t) st h = ru 102 38 (some (.ref v) :: t) (.ref v :: st) h) ∧
  (∀ (a : Nat) (ls : eL) (st : List Value) (h : eH), ru 102 38 ls (.ref a :: st) h = gF (h.1 a) 0 5 (fun v => ru 102 41 ls (v :: st) h)) ∧
  (∀ (x0 x1 x2 : Option Value) (v : Int32) (t : eL) (st : List Value) (h : eH), ru 102 41 (x0 :: x1 :: x2 :: some (.int v) :: t) st h = ru 102 42 (x0 :: x1 :: x2 :: some (.int v) :: t) (.int v :: st) h) ∧
  (∀ (i : Int32) (a : Nat) (ls : eL) (st : List Value) (h : eH), ru 102 42 ls (.int i :: .ref a :: st) h = aI (h.1 a) 0 i (fun v => ru 102 43 ls (.int v :: st) h)) ∧
  (∀ (x0 x1 : Option Value) (v : Int32) (t : eL) (st : List Value) (h : eH), ru 102 43 (x0 :: x1 :: some (.int v) :: t) st h = ru 102 44 (x0 :: x1 :: some (.int v) :: t) (.int v :: st) h) ∧
  (∀ (x y : Int32) (ls : eL) (st : List Value) (h : eH), ru 102 44 ls (.int y :: .int x :: st) h = ru 102 45 ls (.int (x * y) :: st) h) ∧
  (∀ (x : Int32) (ls : eL) (st : List Value) (h : eH), ru 102 45 ls (.int x :: st) h = if 0 ≤ x then ru 102 49 ls st h else ru 102 48 ls st h) ∧
  (∀ (ls : eL) (h : eH), ru 102 48 ls [] h = some (none, h)) ∧
  (∀ (v : Nat) (t : eL) (st : List Value) (h : eH), ru 102 49 (some (.ref v) :: t) st h = ru 102 50 (some (.ref v) :: t) (.ref v :: st) h) ∧
  (∀ (a : Nat) (ls : eL) (st : List Value) (h : eH), ru 102 50 ls (.ref a :: st) h = gF (h.1 a) 0 5 (fun v => ru 102 53 ls (v :: st) h)) ∧
  (∀ (x0 x1 x2 : Option Value) (v : Int32) (t : eL) (st : List Value) (h : eH), ru 102 53 (x0 :: x1 :: x2 :: some (.int v) :: t) st h = ru 102 54 (x0 :: x1 :: x2 :: some (.int v) :: t) (.int v :: st) h) ∧
  (∀ (i : Int32) (a : Nat) (ls : eL) (st : List Value) (h : eH), ru 102 54 ls (.int i :: .ref a :: st) h = aI (h.1 a) 0 i (fun v => ru 102 55 ls (.int v :: st) h)) ∧
  (∀ (x : Int32) (ls : eL) (st : List Value) (h : eH), ru 102 55 ls (.int x :: st) h = if x = 0 then ru 102 58 ls st h else ru 102 62 ls st h) ∧
  (∀ (x0 x1 : Option Value) (v : Int32) (t : eL) (st : List Value) (h : eH), ru 102 58 (x0 :: x1 :: some (.int v) :: t) st h = ru 102 59 (x0 :: x1 :: some (.int v) :: t) (.int v :: st) h) ∧
  (∀ (ls : eL) (st : List Value) (h : eH), ru 102 59 ls st h = ru 102 68 ls st h) ∧
  (∀ (v : Nat) (t : eL) (st : List Value) (h : eH), ru 102 62 (some (.ref v) :: t) st h = ru 102 63 (some (.ref v) :: t) (.ref v :: st) h) ∧
  (∀ (a : Nat) (ls : eL) (st : List Value) (h : eH), ru 102 63 ls (.ref a :: st) h = gF (h.1 a) 0 5 (fun v => ru 102 66 ls (v :: st) h)) ∧
  (∀ (x0 x1 x2 : Option Value) (v : Int32) (t : eL) (st : List Value) (h : eH), ru 102 66 (x0 :: x1 :: x2 :: some (.int v) :: t) st h = ru 102 67 (x0 :: x1 :: x2 :: some (.int v) :: t) (.int v :: st) h) ∧
  (∀ (i : Int32) (a : Nat) (ls : eL) (st : List Value) (h : eH), ru 102 67 ls (.int i :: .ref a :: st) h = aI (h.1 a) 0 i (fun v => ru 102 68 ls (.int v :: st) h)) ∧
  (∀ (x0 x1 x2 : Option Value) (v : Int32) (t : eL) (st : List Value) (h : eH), ru 102 68 (x0 :: x1 :: x2 :: t) (.int v :: st) h = ru 102 69 (x0 :: eKl x1 :: some (.int v) :: t) st h) ∧
  (∀ (x0 x1 x2 : Option Value) (v : Int32) (t : eL) (st : List Value) (h : eH), ru 102 69 (x0 :: x1 :: x2 :: some (.int v) :: t) st h = ru 102 72 (x0 :: x1 :: eKl x2 :: some (.int (v + 1)) :: t) st h) ∧
  (∀ (ls : eL) (st : List Value) (h : eH), ru 102 72 ls st h = ru 102 12 ls st h) ∧
  (∀ (x0 x1 x2 x3 : Option Value) (v : Int32) (t : eL) (st : List Value) (h : eH), ru 102 76 (x0 :: x1 :: x2 :: x3 :: t) (.int v :: st) h = ru 102 77 (x0 :: x1 :: eKl x2 :: some (.int v) :: t) st h) ∧
  (∀ (v : Nat) (t : eL) (st : List Value) (h : eH), ru 102 78 (some (.ref v) :: t) st h = ru 102 79 (some (.ref v) :: t) (.ref v :: st) h) ∧
  (∀ (a : Nat) (ls : eL) (st : List Value) (h : eH), ru 102 79 ls (.ref a :: st) h = gF (h.1 a) 0 7 (fun v => ru 102 82 ls (v :: st) h)) ∧
  (∀ (x y : Int32) (ls : eL) (st : List Value) (h : eH), ru 102 82 ls (.int y :: .int x :: st) h = if y ≤ x then ru 102 120 ls st h else ru 102 85 ls st h) ∧
  (∀ (v : Nat) (t : eL) (st : List Value) (h : eH), ru 102 85 (some (.ref v) :: t) st h = ru 102 86 (some (.ref v) :: t) (.ref v :: st) h) ∧
  (∀ (a : Nat) (ls : eL) (st : List Value) (h : eH), ru 102 86 ls (.ref a :: st) h = gF (h.1 a) 0 6 (fun v => ru 102 89 ls (v :: st) h)) ∧
  (∀ (x0 x1 x2 : Option Value) (v : Int32) (t : eL) (st : List Value) (h : eH), ru 102 89 (x0 :: x1 :: x2 :: some (.int v) :: t) st h = ru 102 90 (x0 :: x1 :: x2 :: some (.int v) :: t) (.int v :: st) h) ∧
  (∀ (v : Nat) (t : eL) (st : List Value) (h : eH), ru 102 90 (some (.ref v) :: t) st h = ru 102 91 (some (.ref v) :: t) (.ref v :: st) h) ∧
  (∀ (a : Nat) (ls : eL) (st : List Value) (h : eH), ru 102 91 ls (.ref a :: st) h = gF (h.1 a) 0 6 (fun v => ru 102 94 ls (v :: st) h)) ∧
  (∀ (x0 x1 x2 : Option Value) (v : Int32) (t : eL) (st : List Value) (h : eH), ru 102 94 (x0 :: x1 :: x2 :: some (.int v) :: t) st h = ru 102 95 (x0 :: x1 :: x2 :: some (.int v) :: t) (.int v :: st) h) ∧
  (∀ (i : Int32) (a : Nat) (ls : eL) (st : List Value) (h : eH), ru 102 95 ls (.int i :: .ref a :: st) h = aI (h.1 a) 2 i (fun v => ru 102 96 ls (.int v :: st) h)) ∧
  (∀ (x : Int32) (ls : eL) (st : List Value) (h : eH), ru 102 96 ls (.int x :: st) h = if x = 0 then ru 102 99 ls st h else ru 102 108 ls st h) ∧
  (∀ (v : Nat) (t : eL) (st : List Value) (h : eH), ru 102 99 (some (.ref v) :: t) st h = ru 102 100 (some (.ref v) :: t) (.ref v :: st) h) ∧
  (∀ (a : Nat) (ls : eL) (st : List Value) (h : eH), ru 102 100 ls (.ref a :: st) h = gF (h.1 a) 0 5 (fun v => ru 102 103 ls (v :: st) h)) ∧
  (∀ (x0 x1 x2 : Option Value) (v : Int32) (t : eL) (st : List Value) (h : eH), ru 102 103 (x0 :: x1 :: x2 :: some (.int v) :: t) st h = ru 102 104 (x0 :: x1 :: x2 :: some (.int v) :: t) (.int v :: st) h) ∧
  (∀ (i : Int32) (a : Nat) (ls : eL) (st : List Value) (h : eH), ru 102 104 ls (.int i :: .ref a :: st) h = aI (h.1 a) 0 i (fun v => ru 102 105 ls (.int v :: st) h)) ∧
  (∀ (x : Int32) (ls : eL) (st : List Value) (h : eH), ru 102 105 ls (.int x :: st) h = if x = 0 then ru 102 112 ls st h else ru 102 108 ls st h) ∧
  (∀ (ls : eL) (st : List Value) (h : eH), ru 102 108 ls st h = ru 102 109 ls (.int (nI 1) :: st) h) ∧
  (∀ (ls : eL) (st : List Value) (h : eH), ru 102 109 ls st h = ru 102 113 ls st h) ∧
  (∀ (ls : eL) (st : List Value) (h : eH), ru 102 112 ls st h = ru 102 113 ls (.int (nI 0) :: st) h) ∧
  (∀ (x : Int32) (i : Int32) (a : Nat) (ls : eL) (st : List Value) (h : eH), ru 102 113 ls (.int x :: .int i :: .ref a :: st) h = wZ (h.1 a) i x (fun e => ru 102 114 ls st (eUp h a e))) ∧
  (∀ (x0 x1 x2 : Option Value) (v : Int32) (t : eL) (st : List Value) (h : eH), ru 102 114 (x0 :: x1 :: x2 :: some (.int v) :: t) st h = ru 102 117 (x0 :: x1 :: eKl x2 :: some (.int (v + 1)) :: t) st h) ∧
  (∀ (ls : eL) (st : List Value) (h : eH), ru 102 117 ls st h = ru 102 77 ls st h) ∧
  (∀ (ls : eL) (h : eH), ru 102 120 ls [] h = some (none, h)) := ⟨fun x0 v t st h => ru_go rfl rfl,
  fun a0 ls h => ru_inv rfl (by decide) rfl (Nat.le_of_ble_eq_true rfl),
  fun x ls st h => ru_if rfl rfl,
  fun ls h => ru_ret rfl rfl,
  fun ls st h => ru_go rfl rfl,
  fun x0 x1 x2 v t st h => ru_go rfl rfl,
  fun ls st h => ru_go rfl rfl,
  fun x0 x1 x2 x3 v t st h => ru_go rfl rfl,
  fun v t st h => ru_go rfl rfl,
  fun a ls st h => ru_getf rfl,
  fun x y ls st h => ru_if rfl rfl,
  fun v t st h => ru_go rfl rfl,
  fun a ls st h => ru_getf rfl,
  fun x0 x1 x2 v t st h => ru_go rfl rfl,
  fun v t st h => ru_go rfl rfl,
  fun v t st h => ru_go rfl rfl,
  fun a ls st h => ru_getf rfl,
  fun x0 x1 x2 v t st h => ru_go rfl rfl,
  fun i a ls st h => ru_aald rfl,
  fun x0 v t st h => ru_go rfl rfl,
  fun a0 a1 a2 u0 u1 ls h => ru_inv rfl (by decide) rfl (Nat.le_of_ble_eq_true rfl),
  fun x i a ls st h => ru_iast rfl,
  fun v t st h => ru_go rfl rfl,
  fun a ls st h => ru_getf rfl,
  fun x0 x1 x2 v t st h => ru_go rfl rfl,
  fun i a ls st h => ru_iald rfl,
  fun x0 x1 v t st h => ru_go rfl rfl,
  fun x y ls st h => ru_go rfl rfl,
  fun x ls st h => ru_if rfl rfl,
  fun ls h => ru_ret rfl rfl,
  fun v t st h => ru_go rfl rfl,
  fun a ls st h => ru_getf rfl,
  fun x0 x1 x2 v t st h => ru_go rfl rfl,
  fun i a ls st h => ru_iald rfl,
  fun x ls st h => ru_if rfl rfl,
  fun x0 x1 v t st h => ru_go rfl rfl,
  fun ls st h => ru_go rfl rfl,
  fun v t st h => ru_go rfl rfl,
  fun a ls st h => ru_getf rfl,
  fun x0 x1 x2 v t st h => ru_go rfl rfl,
  fun i a ls st h => ru_iald rfl,
  fun x0 x1 x2 v t st h => ru_go rfl rfl,
  fun x0 x1 x2 v t st h => ru_go rfl rfl,
  fun ls st h => ru_go rfl rfl,
  fun x0 x1 x2 x3 v t st h => ru_go rfl rfl,
  fun v t st h => ru_go rfl rfl,
  fun a ls st h => ru_getf rfl,
  fun x y ls st h => ru_if rfl rfl,
  fun v t st h => ru_go rfl rfl,
  fun a ls st h => ru_getf rfl,
  fun x0 x1 x2 v t st h => ru_go rfl rfl,
  fun v t st h => ru_go rfl rfl,
  fun a ls st h => ru_getf rfl,
  fun x0 x1 x2 v t st h => ru_go rfl rfl,
  fun i a ls st h => ru_zald rfl,
  fun x ls st h => ru_if rfl rfl,
  fun v t st h => ru_go rfl rfl,
  fun a ls st h => ru_getf rfl,
  fun x0 x1 x2 v t st h => ru_go rfl rfl,
  fun i a ls st h => ru_iald rfl,
  fun x ls st h => ru_if rfl rfl,
  fun ls st h => ru_go rfl rfl,
  fun ls st h => ru_go rfl rfl,
  fun ls st h => ru_go rfl rfl,
  fun x i a ls st h => ru_zast rfl,
  fun x0 x1 x2 v t st h => ru_go rfl rfl,
  fun ls st h => ru_go rfl rfl,
  fun ls h => ru_ret rfl rfl⟩
theorem E102 (a0 : Nat) (a1 : Nat) {h : eH} {fs : List Value} (ha : h.1 a0 = .inr (0, fs)) : den 102 [.ref a0, .ref a1] h = ru 102 0 [some (.ref a0), some (.ref a1), none, none] [] h := den_ob (Nat.le_of_ble_eq_true rfl) ha
/-! 103 X8_becomeCross -/
set_option maxRecDepth 100000 in
theorem H103_3 : (∀ (x0 x1 x2 x3 : Option Value) (v : Int32) (t : eL) (st : List Value) (h : eH), ru 103 3 (x0 :: x1 :: x2 :: x3 :: some (.int v) :: t) st h = ru 103 5 (x0 :: x1 :: x2 :: x3 :: some (.int v) :: t) (.int v :: st) h) := fun x0 x1 x2 x3 v t st h => ru_go rfl rfl
set_option maxRecDepth 100000 in
theorem S103 : (∀ (ls : eL) (st : List Value) (h : eH), ru 103 0 ls st h = ru 103 1 ls (.int (nI 0) :: st) h) ∧
  (∀ (x0 x1 x2 x3 x4 : Option Value) (v : Int32) (t : eL) (st : List Value) (h : eH), ru 103 1 (x0 :: x1 :: x2 :: x3 :: x4 :: t) (.int v :: st) h = ru 103 3 (x0 :: x1 :: x2 :: eKl x3 :: some (.int v) :: t) st h) ∧
  (∀ (ls : eL) (st : List Value) (h : eH), ru 103 5 ls st h = ru 103 6 ls (.int (nI 3) :: st) h) ∧
  (∀ (x y : Int32) (ls : eL) (st : List Value) (h : eH), ru 103 6 ls (.int y :: .int x :: st) h = if y ≤ x then ru 103 85 ls st h else ru 103 9 ls st h) ∧
  (∀ (x0 x1 x2 x3 : Option Value) (v : Int32) (t : eL) (st : List Value) (h : eH), ru 103 9 (x0 :: x1 :: x2 :: x3 :: some (.int v) :: t) st h = ru 103 11 (x0 :: x1 :: x2 :: x3 :: some (.int v) :: t) (.int v :: st) h) ∧
  (∀ (ls : eL) (st : List Value) (h : eH), ru 103 11 ls st h = ru 103 12 ls (.int (nI 1) :: st) h) ∧
  (∀ (x y : Int32) (ls : eL) (st : List Value) (h : eH), ru 103 12 ls (.int y :: .int x :: st) h = ru 103 13 ls (.int (x + y) :: st) h) ∧
  (∀ (ls : eL) (st : List Value) (h : eH), ru 103 13 ls st h = ru 103 14 ls (.int (nI 3) :: st) h) ∧
  (∀ (x y : Int32) (ls : eL) (st : List Value) (h : eH), ru 103 14 ls (.int y :: .int x :: st) h = if y = 0 then none else ru 103 15 ls (.int (x - x / y * y) :: st) h) ∧
  (∀ (x0 x1 x2 x3 x4 x5 : Option Value) (v : Int32) (t : eL) (st : List Value) (h : eH), ru 103 15 (x0 :: x1 :: x2 :: x3 :: x4 :: x5 :: t) (.int v :: st) h = ru 103 17 (x0 :: x1 :: x2 :: x3 :: eKl x4 :: some (.int v) :: t) st h) ∧
  (∀ (x0 x1 x2 x3 : Option Value) (v : Int32) (t : eL) (st : List Value) (h : eH), ru 103 17 (x0 :: x1 :: x2 :: x3 :: some (.int v) :: t) st h = ru 103 19 (x0 :: x1 :: x2 :: x3 :: some (.int v) :: t) (.int v :: st) h) ∧
  (∀ (ls : eL) (st : List Value) (h : eH), ru 103 19 ls st h = ru 103 20 ls (.int (nI 2) :: st) h) ∧
  (∀ (x y : Int32) (ls : eL) (st : List Value) (h : eH), ru 103 20 ls (.int y :: .int x :: st) h = ru 103 21 ls (.int (x + y) :: st) h) ∧
  (∀ (ls : eL) (st : List Value) (h : eH), ru 103 21 ls st h = ru 103 22 ls (.int (nI 3) :: st) h) ∧
  (∀ (x y : Int32) (ls : eL) (st : List Value) (h : eH), ru 103 22 ls (.int y :: .int x :: st) h = if y = 0 then none else ru 103 23 ls (.int (x - x / y * y) :: st) h) ∧
  (∀ (x0 x1 x2 x3 x4 x5 x6 : Option Value) (v : Int32) (t : eL) (st : List Value) (h : eH), ru 103 23 (x0 :: x1 :: x2 :: x3 :: x4 :: x5 :: x6 :: t) (.int v :: st) h = ru 103 25 (x0 :: x1 :: x2 :: x3 :: x4 :: eKl x5 :: some (.int v) :: t) st h) ∧
  (∀ (v : Nat) (t : eL) (st : List Value) (h : eH), ru 103 25 (some (.ref v) :: t) st h = ru 103 26 (some (.ref v) :: t) (.ref v :: st) h) ∧
  (∀ (a : Nat) (ls : eL) (st : List Value) (h : eH), ru 103 26 ls (.ref a :: st) h = gF (h.1 a) 8 0 (fun v => ru 103 29 ls (v :: st) h)) ∧
  (∀ (x0 x1 x2 x3 : Option Value) (v : Int32) (t : eL) (st : List Value) (h : eH), ru 103 29 (x0 :: x1 :: x2 :: x3 :: some (.int v) :: t) st h = ru 103 31 (x0 :: x1 :: x2 :: x3 :: some (.int v) :: t) (.int v :: st) h) ∧
  (∀ (i : Int32) (a : Nat) (ls : eL) (st : List Value) (h : eH), ru 103 31 ls (.int i :: .ref a :: st) h = aQ (h.1 a) i (fun v => ru 103 32 ls (.ref v :: st) h)) ∧
  (∀ (x0 : Option Value) (v : Nat) (t : eL) (st : List Value) (h : eH), ru 103 32 (x0 :: some (.ref v) :: t) st h = ru 103 33 (x0 :: some (.ref v) :: t) (.ref v :: st) h) ∧
  (∀ (a : Nat) (ls : eL) (st : List Value) (h : eH), ru 103 33 ls (.ref a :: st) h = gF (h.1 a) 8 0 (fun v => ru 103 36 ls (v :: st) h)) ∧
  (∀ (x0 x1 x2 x3 x4 : Option Value) (v : Int32) (t : eL) (st : List Value) (h : eH), ru 103 36 (x0 :: x1 :: x2 :: x3 :: x4 :: some (.int v) :: t) st h = ru 103 38 (x0 :: x1 :: x2 :: x3 :: x4 :: some (.int v) :: t) (.int v :: st) h) ∧
  (∀ (i : Int32) (a : Nat) (ls : eL) (st : List Value) (h : eH), ru 103 38 ls (.int i :: .ref a :: st) h = aQ (h.1 a) i (fun v => ru 103 39 ls (.ref v :: st) h)) ∧
  (∀ (x0 x1 : Option Value) (v : Nat) (t : eL) (st : List Value) (h : eH), ru 103 39 (x0 :: x1 :: some (.ref v) :: t) st h = ru 103 40 (x0 :: x1 :: some (.ref v) :: t) (.ref v :: st) h) ∧
  (∀ (a : Nat) (ls : eL) (st : List Value) (h : eH), ru 103 40 ls (.ref a :: st) h = gF (h.1 a) 8 0 (fun v => ru 103 43 ls (v :: st) h)) ∧
  (∀ (x0 x1 x2 x3 x4 x5 : Option Value) (v : Int32) (t : eL) (st : List Value) (h : eH), ru 103 43 (x0 :: x1 :: x2 :: x3 :: x4 :: x5 :: some (.int v) :: t) st h = ru 103 45 (x0 :: x1 :: x2 :: x3 :: x4 :: x5 :: some (.int v) :: t) (.int v :: st) h) ∧
  (∀ (i : Int32) (a : Nat) (ls : eL) (st : List Value) (h : eH), ru 103 45 ls (.int i :: .ref a :: st) h = aQ (h.1 a) i (fun v => ru 103 46 ls (.ref v :: st) h)) ∧
  (∀ (a0 : Nat) (a1 : Nat) (a2 : Nat) (ls : eL) (h : eH), ru 103 46 ls [.ref a2, .ref a1, .ref a0] h = cl (den 96 [.ref a0, .ref a1, .ref a2] h) (fun v h => ru 103 49 ls (v.toList ++ []) h)) ∧
  (∀ (x0 x1 x2 : Option Value) (v : Nat) (t : eL) (st : List Value) (h : eH), ru 103 49 (x0 :: x1 :: x2 :: some (.ref v) :: t) st h = ru 103 50 (x0 :: x1 :: x2 :: some (.ref v) :: t) (.ref v :: st) h) ∧
  (∀ (x0 : Option Value) (v : Nat) (t : eL) (st : List Value) (h : eH), ru 103 50 (x0 :: some (.ref v) :: t) st h = ru 103 51 (x0 :: some (.ref v) :: t) (.ref v :: st) h) ∧
  (∀ (a : Nat) (ls : eL) (st : List Value) (h : eH), ru 103 51 ls (.ref a :: st) h = gF (h.1 a) 8 0 (fun v => ru 103 54 ls (v :: st) h)) ∧
  (∀ (x0 x1 x2 x3 x4 x5 : Option Value) (v : Int32) (t : eL) (st : List Value) (h : eH), ru 103 54 (x0 :: x1 :: x2 :: x3 :: x4 :: x5 :: some (.int v) :: t) st h = ru 103 56 (x0 :: x1 :: x2 :: x3 :: x4 :: x5 :: some (.int v) :: t) (.int v :: st) h) ∧
  (∀ (i : Int32) (a : Nat) (ls : eL) (st : List Value) (h : eH), ru 103 56 ls (.int i :: .ref a :: st) h = aQ (h.1 a) i (fun v => ru 103 57 ls (.ref v :: st) h)) ∧
  (∀ (x0 x1 : Option Value) (v : Nat) (t : eL) (st : List Value) (h : eH), ru 103 57 (x0 :: x1 :: some (.ref v) :: t) st h = ru 103 58 (x0 :: x1 :: some (.ref v) :: t) (.ref v :: st) h) ∧
  (∀ (a : Nat) (ls : eL) (st : List Value) (h : eH), ru 103 58 ls (.ref a :: st) h = gF (h.1 a) 8 0 (fun v => ru 103 61 ls (v :: st) h)) ∧
  (∀ (x0 x1 x2 x3 x4 : Option Value) (v : Int32) (t : eL) (st : List Value) (h : eH), ru 103 61 (x0 :: x1 :: x2 :: x3 :: x4 :: some (.int v) :: t) st h = ru 103 63 (x0 :: x1 :: x2 :: x3 :: x4 :: some (.int v) :: t) (.int v :: st) h) ∧
  (∀ (i : Int32) (a : Nat) (ls : eL) (st : List Value) (h : eH), ru 103 63 ls (.int i :: .ref a :: st) h = aQ (h.1 a) i (fun v => ru 103 64 ls (.ref v :: st) h)) ∧
  (∀ (a0 : Nat) (a1 : Nat) (a2 : Nat) (ls : eL) (h : eH), ru 103 64 ls [.ref a2, .ref a1, .ref a0] h = cl (den 96 [.ref a0, .ref a1, .ref a2] h) (fun v h => ru 103 67 ls (v.toList ++ []) h)) ∧
  (∀ (v : Nat) (t : eL) (st : List Value) (h : eH), ru 103 67 (some (.ref v) :: t) st h = ru 103 68 (some (.ref v) :: t) (.ref v :: st) h) ∧
  (∀ (a : Nat) (ls : eL) (st : List Value) (h : eH), ru 103 68 ls (.ref a :: st) h = gF (h.1 a) 8 0 (fun v => ru 103 71 ls (v :: st) h)) ∧
  (∀ (x0 x1 x2 x3 : Option Value) (v : Int32) (t : eL) (st : List Value) (h : eH), ru 103 71 (x0 :: x1 :: x2 :: x3 :: some (.int v) :: t) st h = ru 103 73 (x0 :: x1 :: x2 :: x3 :: some (.int v) :: t) (.int v :: st) h) ∧
  (∀ (i : Int32) (a : Nat) (ls : eL) (st : List Value) (h : eH), ru 103 73 ls (.int i :: .ref a :: st) h = aQ (h.1 a) i (fun v => ru 103 74 ls (.ref v :: st) h)) ∧
  (∀ (x0 x1 x2 : Option Value) (v : Nat) (t : eL) (st : List Value) (h : eH), ru 103 74 (x0 :: x1 :: x2 :: some (.ref v) :: t) st h = ru 103 75 (x0 :: x1 :: x2 :: some (.ref v) :: t) (.ref v :: st) h) ∧
  (∀ (ls : eL) (st : List Value) (h : eH), ru 103 75 ls st h = ru 103 76 ls (.int (nI 1) :: st) h) ∧
  (∀ (a0 : Nat) (a1 : Nat) (a2 : Int32) (ls : eL) (h : eH), ru 103 76 ls [.int a2, .ref a1, .ref a0] h = cl (den 99 [.ref a0, .ref a1, .int a2] h) (fun v h => ru 103 79 ls (v.toList ++ []) h)) ∧
  (∀ (x0 x1 x2 x3 : Option Value) (v : Int32) (t : eL) (st : List Value) (h : eH), ru 103 79 (x0 :: x1 :: x2 :: x3 :: some (.int v) :: t) st h = ru 103 82 (x0 :: x1 :: x2 :: eKl x3 :: some (.int (v + 1)) :: t) st h) ∧
  (∀ (ls : eL) (st : List Value) (h : eH), ru 103 82 ls st h = ru 103 3 ls st h) ∧
  (∀ (ls : eL) (h : eH), ru 103 85 ls [] h = some (none, h)) := ⟨fun ls st h => ru_go rfl rfl,
  fun x0 x1 x2 x3 x4 v t st h => ru_go rfl rfl,
  fun ls st h => ru_go rfl rfl,
  fun x y ls st h => ru_if rfl rfl,
  fun x0 x1 x2 x3 v t st h => ru_go rfl rfl,
  fun ls st h => ru_go rfl rfl,
  fun x y ls st h => ru_go rfl rfl,
  fun ls st h => ru_go rfl rfl,
  fun x y ls st h => ru_guard rfl rfl,
  fun x0 x1 x2 x3 x4 x5 v t st h => ru_go rfl rfl,
  fun x0 x1 x2 x3 v t st h => ru_go rfl rfl,
  fun ls st h => ru_go rfl rfl,
  fun x y ls st h => ru_go rfl rfl,
  fun ls st h => ru_go rfl rfl,
  fun x y ls st h => ru_guard rfl rfl,
  fun x0 x1 x2 x3 x4 x5 x6 v t st h => ru_go rfl rfl,
  fun v t st h => ru_go rfl rfl,
  fun a ls st h => ru_getf rfl,
  fun x0 x1 x2 x3 v t st h => ru_go rfl rfl,
  fun i a ls st h => ru_aald rfl,
  fun x0 v t st h => ru_go rfl rfl,
  fun a ls st h => ru_getf rfl,
  fun x0 x1 x2 x3 x4 v t st h => ru_go rfl rfl,
  fun i a ls st h => ru_aald rfl,
  fun x0 x1 v t st h => ru_go rfl rfl,
  fun a ls st h => ru_getf rfl,
  fun x0 x1 x2 x3 x4 x5 v t st h => ru_go rfl rfl,
  fun i a ls st h => ru_aald rfl,
  fun a0 a1 a2 ls h => ru_inv rfl (by decide) rfl (Nat.le_of_ble_eq_true rfl),
  fun x0 x1 x2 v t st h => ru_go rfl rfl,
  fun x0 v t st h => ru_go rfl rfl,
  fun a ls st h => ru_getf rfl,
  fun x0 x1 x2 x3 x4 x5 v t st h => ru_go rfl rfl,
  fun i a ls st h => ru_aald rfl,
  fun x0 x1 v t st h => ru_go rfl rfl,
  fun a ls st h => ru_getf rfl,
  fun x0 x1 x2 x3 x4 v t st h => ru_go rfl rfl,
  fun i a ls st h => ru_aald rfl,
  fun a0 a1 a2 ls h => ru_inv rfl (by decide) rfl (Nat.le_of_ble_eq_true rfl),
  fun v t st h => ru_go rfl rfl,
  fun a ls st h => ru_getf rfl,
  fun x0 x1 x2 x3 v t st h => ru_go rfl rfl,
  fun i a ls st h => ru_aald rfl,
  fun x0 x1 x2 v t st h => ru_go rfl rfl,
  fun ls st h => ru_go rfl rfl,
  fun a0 a1 a2 ls h => ru_inv rfl (by decide) rfl (Nat.le_of_ble_eq_true rfl),
  fun x0 x1 x2 x3 v t st h => ru_go rfl rfl,
  fun ls st h => ru_go rfl rfl,
  fun ls h => ru_ret rfl rfl⟩
theorem E103 (a0 : Nat) (a1 : Nat) (a2 : Nat) (a3 : Nat) {h : eH} {fs : List Value} (ha : h.1 a0 = .inr (8, fs)) : den 103 [.ref a0, .ref a1, .ref a2, .ref a3] h = ru 103 0 [some (.ref a0), some (.ref a1), some (.ref a2), some (.ref a3), none, none, none] [] h := den_ob (Nat.le_of_ble_eq_true rfl) ha
/-! 104 X0_tryPlane -/
set_option maxRecDepth 100000 in
theorem H104_2 : (∀ (x0 : Option Value) (v : Int32) (t : eL) (st : List Value) (h : eH), ru 104 2 (x0 :: some (.int v) :: t) st h = ru 104 3 (x0 :: some (.int v) :: t) (.int v :: st) h) := fun x0 v t st h => ru_go rfl rfl
set_option maxRecDepth 100000 in
theorem S104 : (∀ (ls : eL) (st : List Value) (h : eH), ru 104 0 ls st h = ru 104 1 ls (.int (nI 0) :: st) h) ∧
  (∀ (x0 x1 : Option Value) (v : Int32) (t : eL) (st : List Value) (h : eH), ru 104 1 (x0 :: x1 :: t) (.int v :: st) h = ru 104 2 (eKl x0 :: some (.int v) :: t) st h) ∧
  (∀ (v : Nat) (t : eL) (st : List Value) (h : eH), ru 104 3 (some (.ref v) :: t) st h = ru 104 4 (some (.ref v) :: t) (.ref v :: st) h) ∧
  (∀ (a : Nat) (ls : eL) (st : List Value) (h : eH), ru 104 4 ls (.ref a :: st) h = gF (h.1 a) 0 7 (fun v => ru 104 7 ls (v :: st) h)) ∧
  (∀ (x y : Int32) (ls : eL) (st : List Value) (h : eH), ru 104 7 ls (.int y :: .int x :: st) h = if y ≤ x then ru 104 45 ls st h else ru 104 10 ls st h) ∧
  (∀ (v : Nat) (t : eL) (st : List Value) (h : eH), ru 104 10 (some (.ref v) :: t) st h = ru 104 11 (some (.ref v) :: t) (.ref v :: st) h) ∧
  (∀ (a : Nat) (ls : eL) (st : List Value) (h : eH), ru 104 11 ls (.ref a :: st) h = gF (h.1 a) 0 2 (fun v => ru 104 14 ls (v :: st) h)) ∧
  (∀ (v : Nat) (t : eL) (st : List Value) (h : eH), ru 104 14 (some (.ref v) :: t) st h = ru 104 15 (some (.ref v) :: t) (.ref v :: st) h) ∧
  (∀ (a : Nat) (ls : eL) (st : List Value) (h : eH), ru 104 15 ls (.ref a :: st) h = gF (h.1 a) 0 1 (fun v => ru 104 18 ls (v :: st) h)) ∧
  (∀ (v : Nat) (t : eL) (st : List Value) (h : eH), ru 104 18 (some (.ref v) :: t) st h = ru 104 19 (some (.ref v) :: t) (.ref v :: st) h) ∧
  (∀ (a : Nat) (ls : eL) (st : List Value) (h : eH), ru 104 19 ls (.ref a :: st) h = gF (h.1 a) 0 0 (fun v => ru 104 22 ls (v :: st) h)) ∧
  (∀ (x0 : Option Value) (v : Int32) (t : eL) (st : List Value) (h : eH), ru 104 22 (x0 :: some (.int v) :: t) st h = ru 104 23 (x0 :: some (.int v) :: t) (.int v :: st) h) ∧
  (∀ (i : Int32) (a : Nat) (ls : eL) (st : List Value) (h : eH), ru 104 23 ls (.int i :: .ref a :: st) h = aQ (h.1 a) i (fun v => ru 104 24 ls (.ref v :: st) h)) ∧
  (∀ (v : Nat) (t : eL) (st : List Value) (h : eH), ru 104 24 (some (.ref v) :: t) st h = ru 104 25 (some (.ref v) :: t) (.ref v :: st) h) ∧
  (∀ (a : Nat) (ls : eL) (st : List Value) (h : eH), ru 104 25 ls (.ref a :: st) h = gF (h.1 a) 0 4 (fun v => ru 104 28 ls (v :: st) h)) ∧
  (∀ (a0 : Nat) (a1 : Nat) (a2 : Nat) (a3 : Nat) (ls : eL) (h : eH), ru 104 28 ls [.ref a3, .ref a2, .ref a1, .ref a0] h = cl (den 103 [.ref a0, .ref a1, .ref a2, .ref a3] h) (fun v h => ru 104 31 ls (v.toList ++ []) h)) ∧
  (∀ (v : Nat) (t : eL) (st : List Value) (h : eH), ru 104 31 (some (.ref v) :: t) st h = ru 104 32 (some (.ref v) :: t) (.ref v :: st) h) ∧
  (∀ (v : Nat) (t : eL) (st : List Value) (h : eH), ru 104 32 (some (.ref v) :: t) st h = ru 104 33 (some (.ref v) :: t) (.ref v :: st) h) ∧
  (∀ (a : Nat) (ls : eL) (st : List Value) (h : eH), ru 104 33 ls (.ref a :: st) h = gF (h.1 a) 0 2 (fun v => ru 104 36 ls (v :: st) h)) ∧
  (∀ (a0 : Nat) (a1 : Nat) (ls : eL) (h : eH), ru 104 36 ls [.ref a1, .ref a0] h = cl (den 102 [.ref a0, .ref a1] h) (fun v h => ru 104 39 ls (v.toList ++ []) h)) ∧
  (∀ (x0 : Option Value) (v : Int32) (t : eL) (st : List Value) (h : eH), ru 104 39 (x0 :: some (.int v) :: t) st h = ru 104 42 (eKl x0 :: some (.int (v + 1)) :: t) st h) ∧
  (∀ (ls : eL) (st : List Value) (h : eH), ru 104 42 ls st h = ru 104 2 ls st h) ∧
  (∀ (ls : eL) (h : eH), ru 104 45 ls [] h = some (none, h)) := ⟨fun ls st h => ru_go rfl rfl,
  fun x0 x1 v t st h => ru_go rfl rfl,
  fun v t st h => ru_go rfl rfl,
  fun a ls st h => ru_getf rfl,
  fun x y ls st h => ru_if rfl rfl,
  fun v t st h => ru_go rfl rfl,
  fun a ls st h => ru_getf rfl,
  fun v t st h => ru_go rfl rfl,
  fun a ls st h => ru_getf rfl,
  fun v t st h => ru_go rfl rfl,
  fun a ls st h => ru_getf rfl,
  fun x0 v t st h => ru_go rfl rfl,
  fun i a ls st h => ru_aald rfl,
  fun v t st h => ru_go rfl rfl,
  fun a ls st h => ru_getf rfl,
  fun a0 a1 a2 a3 ls h => ru_inv rfl (by decide) rfl (Nat.le_of_ble_eq_true rfl),
  fun v t st h => ru_go rfl rfl,
  fun v t st h => ru_go rfl rfl,
  fun a ls st h => ru_getf rfl,
  fun a0 a1 ls h => ru_inv rfl (by decide) rfl (Nat.le_of_ble_eq_true rfl),
  fun x0 v t st h => ru_go rfl rfl,
  fun ls st h => ru_go rfl rfl,
  fun ls h => ru_ret rfl rfl⟩
theorem E104 (a0 : Nat) {h : eH} {fs : List Value} (ha : h.1 a0 = .inr (0, fs)) : den 104 [.ref a0] h = ru 104 0 [some (.ref a0), none] [] h := den_ob (Nat.le_of_ble_eq_true rfl) ha
/-! 105 X0_isOpen -/
set_option maxRecDepth 100000 in
theorem H105_11 : (∀ (x0 x1 x2 x3 : Option Value) (v : Int32) (t : eL) (st : List Value) (h : eH), ru 105 11 (x0 :: x1 :: x2 :: x3 :: some (.int v) :: t) st h = ru 105 13 (x0 :: x1 :: x2 :: x3 :: some (.int v) :: t) (.int v :: st) h) := fun x0 x1 x2 x3 v t st h => ru_go rfl rfl
set_option maxRecDepth 100000 in
theorem H105_41 : (∀ (x0 x1 x2 x3 x4 : Option Value) (v : Int32) (t : eL) (st : List Value) (h : eH), ru 105 41 (x0 :: x1 :: x2 :: x3 :: x4 :: some (.int v) :: t) st h = ru 105 43 (x0 :: x1 :: x2 :: x3 :: x4 :: some (.int v) :: t) (.int v :: st) h) := fun x0 x1 x2 x3 x4 v t st h => ru_go rfl rfl
set_option maxRecDepth 100000 in
theorem H105_107 : (∀ (x0 x1 x2 x3 : Option Value) (v : Int32) (t : eL) (st : List Value) (h : eH), ru 105 107 (x0 :: x1 :: x2 :: x3 :: some (.int v) :: t) st h = ru 105 110 (x0 :: x1 :: x2 :: eKl x3 :: some (.int (v + 1)) :: t) st h) := fun x0 x1 x2 x3 v t st h => ru_go rfl rfl
set_option maxRecDepth 100000 in
theorem H105_113 : (∀ (v : Nat) (t : eL) (st : List Value) (h : eH), ru 105 113 (some (.ref v) :: t) st h = ru 105 114 (some (.ref v) :: t) (.ref v :: st) h) := fun v t st h => ru_go rfl rfl
set_option maxRecDepth 100000 in
theorem S105 : (∀ (v : Nat) (t : eL) (st : List Value) (h : eH), ru 105 0 (some (.ref v) :: t) st h = ru 105 1 (some (.ref v) :: t) (.ref v :: st) h) ∧
  (∀ (x0 : Option Value) (v : Nat) (t : eL) (st : List Value) (h : eH), ru 105 1 (x0 :: some (.ref v) :: t) st h = ru 105 2 (x0 :: some (.ref v) :: t) (.ref v :: st) h) ∧
  (∀ (x0 x1 : Option Value) (v : Nat) (t : eL) (st : List Value) (h : eH), ru 105 2 (x0 :: x1 :: some (.ref v) :: t) st h = ru 105 3 (x0 :: x1 :: some (.ref v) :: t) (.ref v :: st) h) ∧
  (∀ (a0 : Nat) (a1 : Nat) (a2 : Nat) (ls : eL) (h : eH), ru 105 3 ls [.ref a2, .ref a1, .ref a0] h = cl (den 89 [.ref a0, .ref a1, .ref a2] h) (fun v h => ru 105 6 ls (v.toList ++ []) h)) ∧
  (∀ (ls : eL) (st : List Value) (h : eH), ru 105 6 ls st h = ru 105 7 ls (.int (nI 0) :: st) h) ∧
  (∀ (x0 x1 x2 x3 : Option Value) (v : Int32) (t : eL) (st : List Value) (h : eH), ru 105 7 (x0 :: x1 :: x2 :: x3 :: t) (.int v :: st) h = ru 105 8 (x0 :: x1 :: eKl x2 :: some (.int v) :: t) st h) ∧
  (∀ (ls : eL) (st : List Value) (h : eH), ru 105 8 ls st h = ru 105 9 ls (.int (nI 0) :: st) h) ∧
  (∀ (x0 x1 x2 x3 x4 : Option Value) (v : Int32) (t : eL) (st : List Value) (h : eH), ru 105 9 (x0 :: x1 :: x2 :: x3 :: x4 :: t) (.int v :: st) h = ru 105 11 (x0 :: x1 :: x2 :: eKl x3 :: some (.int v) :: t) st h) ∧
  (∀ (v : Nat) (t : eL) (st : List Value) (h : eH), ru 105 13 (some (.ref v) :: t) st h = ru 105 14 (some (.ref v) :: t) (.ref v :: st) h) ∧
  (∀ (a : Nat) (ls : eL) (st : List Value) (h : eH), ru 105 14 ls (.ref a :: st) h = gF (h.1 a) 0 7 (fun v => ru 105 17 ls (v :: st) h)) ∧
  (∀ (x y : Int32) (ls : eL) (st : List Value) (h : eH), ru 105 17 ls (.int y :: .int x :: st) h = if y ≤ x then ru 105 113 ls st h else ru 105 20 ls st h) ∧
  (∀ (v : Nat) (t : eL) (st : List Value) (h : eH), ru 105 20 (some (.ref v) :: t) st h = ru 105 21 (some (.ref v) :: t) (.ref v :: st) h) ∧
  (∀ (a0 : Nat) (ls : eL) (h : eH), ru 105 21 ls [.ref a0] h = cl (den 81 [.ref a0] h) (fun v h => ru 105 24 ls (v.toList ++ []) h)) ∧
  (∀ (x : Int32) (ls : eL) (st : List Value) (h : eH), ru 105 24 ls (.int x :: st) h = if x = 0 then ru 105 27 ls st h else ru 105 113 ls st h) ∧
  (∀ (v : Nat) (t : eL) (st : List Value) (h : eH), ru 105 27 (some (.ref v) :: t) st h = ru 105 28 (some (.ref v) :: t) (.ref v :: st) h) ∧
  (∀ (v : Nat) (t : eL) (st : List Value) (h : eH), ru 105 28 (some (.ref v) :: t) st h = ru 105 29 (some (.ref v) :: t) (.ref v :: st) h) ∧
  (∀ (a : Nat) (ls : eL) (st : List Value) (h : eH), ru 105 29 ls (.ref a :: st) h = gF (h.1 a) 0 0 (fun v => ru 105 32 ls (v :: st) h)) ∧
  (∀ (x0 x1 x2 x3 : Option Value) (v : Int32) (t : eL) (st : List Value) (h : eH), ru 105 32 (x0 :: x1 :: x2 :: x3 :: some (.int v) :: t) st h = ru 105 34 (x0 :: x1 :: x2 :: x3 :: some (.int v) :: t) (.int v :: st) h) ∧
  (∀ (i : Int32) (a : Nat) (ls : eL) (st : List Value) (h : eH), ru 105 34 ls (.int i :: .ref a :: st) h = aQ (h.1 a) i (fun v => ru 105 35 ls (.ref v :: st) h)) ∧
  (∀ (a0 : Nat) (a1 : Nat) (ls : eL) (h : eH), ru 105 35 ls [.ref a1, .ref a0] h = cl (den 102 [.ref a0, .ref a1] h) (fun v h => ru 105 38 ls (v.toList ++ []) h)) ∧
  (∀ (ls : eL) (st : List Value) (h : eH), ru 105 38 ls st h = ru 105 39 ls (.int (nI 0) :: st) h) ∧
  (∀ (x0 x1 x2 x3 x4 x5 : Option Value) (v : Int32) (t : eL) (st : List Value) (h : eH), ru 105 39 (x0 :: x1 :: x2 :: x3 :: x4 :: x5 :: t) (.int v :: st) h = ru 105 41 (x0 :: x1 :: x2 :: x3 :: eKl x4 :: some (.int v) :: t) st h) ∧
  (∀ (x0 x1 x2 x3 : Option Value) (v : Int32) (t : eL) (st : List Value) (h : eH), ru 105 43 (x0 :: x1 :: x2 :: x3 :: some (.int v) :: t) st h = ru 105 45 (x0 :: x1 :: x2 :: x3 :: some (.int v) :: t) (.int v :: st) h) ∧
  (∀ (x y : Int32) (ls : eL) (st : List Value) (h : eH), ru 105 45 ls (.int y :: .int x :: st) h = if y ≤ x then ru 105 107 ls st h else ru 105 48 ls st h) ∧
  (∀ (v : Nat) (t : eL) (st : List Value) (h : eH), ru 105 48 (some (.ref v) :: t) st h = ru 105 49 (some (.ref v) :: t) (.ref v :: st) h) ∧
  (∀ (a : Nat) (ls : eL) (st : List Value) (h : eH), ru 105 49 ls (.ref a :: st) h = gF (h.1 a) 0 1 (fun v => ru 105 52 ls (v :: st) h)) ∧
  (∀ (v : Nat) (t : eL) (st : List Value) (h : eH), ru 105 52 (some (.ref v) :: t) st h = ru 105 53 (some (.ref v) :: t) (.ref v :: st) h) ∧
  (∀ (a : Nat) (ls : eL) (st : List Value) (h : eH), ru 105 53 ls (.ref a :: st) h = gF (h.1 a) 0 0 (fun v => ru 105 56 ls (v :: st) h)) ∧
  (∀ (x0 x1 x2 x3 : Option Value) (v : Int32) (t : eL) (st : List Value) (h : eH), ru 105 56 (x0 :: x1 :: x2 :: x3 :: some (.int v) :: t) st h = ru 105 58 (x0 :: x1 :: x2 :: x3 :: some (.int v) :: t) (.int v :: st) h) ∧
  (∀ (i : Int32) (a : Nat) (ls : eL) (st : List Value) (h : eH), ru 105 58 ls (.int i :: .ref a :: st) h = aQ (h.1 a) i (fun v => ru 105 59 ls (.ref v :: st) h)) ∧
  (∀ (v : Nat) (t : eL) (st : List Value) (h : eH), ru 105 59 (some (.ref v) :: t) st h = ru 105 60 (some (.ref v) :: t) (.ref v :: st) h) ∧
  (∀ (a : Nat) (ls : eL) (st : List Value) (h : eH), ru 105 60 ls (.ref a :: st) h = gF (h.1 a) 0 0 (fun v => ru 105 63 ls (v :: st) h)) ∧
  (∀ (x0 x1 x2 x3 x4 : Option Value) (v : Int32) (t : eL) (st : List Value) (h : eH), ru 105 63 (x0 :: x1 :: x2 :: x3 :: x4 :: some (.int v) :: t) st h = ru 105 65 (x0 :: x1 :: x2 :: x3 :: x4 :: some (.int v) :: t) (.int v :: st) h) ∧
  (∀ (i : Int32) (a : Nat) (ls : eL) (st : List Value) (h : eH), ru 105 65 ls (.int i :: .ref a :: st) h = aQ (h.1 a) i (fun v => ru 105 66 ls (.ref v :: st) h)) ∧
  (∀ (v : Nat) (t : eL) (st : List Value) (h : eH), ru 105 66 (some (.ref v) :: t) st h = ru 105 67 (some (.ref v) :: t) (.ref v :: st) h) ∧
  (∀ (a : Nat) (ls : eL) (st : List Value) (h : eH), ru 105 67 ls (.ref a :: st) h = gF (h.1 a) 0 4 (fun v => ru 105 70 ls (v :: st) h)) ∧
  (∀ (a0 : Nat) (a1 : Nat) (a2 : Nat) (a3 : Nat) (ls : eL) (h : eH), ru 105 70 ls [.ref a3, .ref a2, .ref a1, .ref a0] h = cl (den 103 [.ref a0, .ref a1, .ref a2, .ref a3] h) (fun v h => ru 105 73 ls (v.toList ++ []) h)) ∧
  (∀ (v : Nat) (t : eL) (st : List Value) (h : eH), ru 105 73 (some (.ref v) :: t) st h = ru 105 74 (some (.ref v) :: t) (.ref v :: st) h) ∧
  (∀ (v : Nat) (t : eL) (st : List Value) (h : eH), ru 105 74 (some (.ref v) :: t) st h = ru 105 75 (some (.ref v) :: t) (.ref v :: st) h) ∧
  (∀ (a : Nat) (ls : eL) (st : List Value) (h : eH), ru 105 75 ls (.ref a :: st) h = gF (h.1 a) 0 1 (fun v => ru 105 78 ls (v :: st) h)) ∧
  (∀ (a0 : Nat) (a1 : Nat) (ls : eL) (h : eH), ru 105 78 ls [.ref a1, .ref a0] h = cl (den 102 [.ref a0, .ref a1] h) (fun v h => ru 105 81 ls (v.toList ++ []) h)) ∧
  (∀ (x0 x1 x2 : Option Value) (v : Int32) (t : eL) (st : List Value) (h : eH), ru 105 81 (x0 :: x1 :: x2 :: some (.int v) :: t) st h = ru 105 82 (x0 :: x1 :: x2 :: some (.int v) :: t) (.int v :: st) h) ∧
  (∀ (x : Int32) (ls : eL) (st : List Value) (h : eH), ru 105 82 ls (.int x :: st) h = if x = 0 then ru 105 85 ls st h else ru 105 101 ls st h) ∧
  (∀ (v : Nat) (t : eL) (st : List Value) (h : eH), ru 105 85 (some (.ref v) :: t) st h = ru 105 86 (some (.ref v) :: t) (.ref v :: st) h) ∧
  (∀ (a : Nat) (ls : eL) (st : List Value) (h : eH), ru 105 86 ls (.ref a :: st) h = gF (h.1 a) 0 1 (fun v => ru 105 89 ls (v :: st) h)) ∧
  (∀ (a0 : Nat) (ls : eL) (h : eH), ru 105 89 ls [.ref a0] h = cl (den 93 [.ref a0] h) (fun v h => ru 105 92 ls (v.toList ++ []) h)) ∧
  (∀ (x : Int32) (ls : eL) (st : List Value) (h : eH), ru 105 92 ls (.int x :: st) h = if x = 0 then ru 105 95 ls st h else ru 105 101 ls st h) ∧
  (∀ (v : Nat) (t : eL) (st : List Value) (h : eH), ru 105 95 (some (.ref v) :: t) st h = ru 105 96 (some (.ref v) :: t) (.ref v :: st) h) ∧
  (∀ (a0 : Nat) (ls : eL) (h : eH), ru 105 96 ls [.ref a0] h = cl (den 104 [.ref a0] h) (fun v h => ru 105 99 ls (v.toList ++ []) h)) ∧
  (∀ (ls : eL) (st : List Value) (h : eH), ru 105 99 ls st h = ru 105 100 ls (.int (nI 1) :: st) h) ∧
  (∀ (x0 x1 x2 x3 : Option Value) (v : Int32) (t : eL) (st : List Value) (h : eH), ru 105 100 (x0 :: x1 :: x2 :: x3 :: t) (.int v :: st) h = ru 105 101 (x0 :: x1 :: eKl x2 :: some (.int v) :: t) st h) ∧
  (∀ (x0 x1 x2 x3 x4 : Option Value) (v : Int32) (t : eL) (st : List Value) (h : eH), ru 105 101 (x0 :: x1 :: x2 :: x3 :: x4 :: some (.int v) :: t) st h = ru 105 104 (x0 :: x1 :: x2 :: x3 :: eKl x4 :: some (.int (v + 1)) :: t) st h) ∧
  (∀ (ls : eL) (st : List Value) (h : eH), ru 105 104 ls st h = ru 105 41 ls st h) ∧
  (∀ (ls : eL) (st : List Value) (h : eH), ru 105 110 ls st h = ru 105 11 ls st h) ∧
  (∀ (a0 : Nat) (ls : eL) (h : eH), ru 105 114 ls [.ref a0] h = cl (den 81 [.ref a0] h) (fun v h => ru 105 117 ls (v.toList ++ []) h)) ∧
  (∀ (x : Int32) (ls : eL) (h : eH), ru 105 117 ls [.int x] h = bo (x == 0 || x == 1) (some (some (.int x), h))) := ⟨fun v t st h => ru_go rfl rfl,
  fun x0 v t st h => ru_go rfl rfl,
  fun x0 x1 v t st h => ru_go rfl rfl,
  fun a0 a1 a2 ls h => ru_inv rfl (by decide) rfl (Nat.le_of_ble_eq_true rfl),
  fun ls st h => ru_go rfl rfl,
  fun x0 x1 x2 x3 v t st h => ru_go rfl rfl,
  fun ls st h => ru_go rfl rfl,
  fun x0 x1 x2 x3 x4 v t st h => ru_go rfl rfl,
  fun v t st h => ru_go rfl rfl,
  fun a ls st h => ru_getf rfl,
  fun x y ls st h => ru_if rfl rfl,
  fun v t st h => ru_go rfl rfl,
  fun a0 ls h => ru_inv rfl (by decide) rfl (Nat.le_of_ble_eq_true rfl),
  fun x ls st h => ru_if rfl rfl,
  fun v t st h => ru_go rfl rfl,
  fun v t st h => ru_go rfl rfl,
  fun a ls st h => ru_getf rfl,
  fun x0 x1 x2 x3 v t st h => ru_go rfl rfl,
  fun i a ls st h => ru_aald rfl,
  fun a0 a1 ls h => ru_inv rfl (by decide) rfl (Nat.le_of_ble_eq_true rfl),
  fun ls st h => ru_go rfl rfl,
  fun x0 x1 x2 x3 x4 x5 v t st h => ru_go rfl rfl,
  fun x0 x1 x2 x3 v t st h => ru_go rfl rfl,
  fun x y ls st h => ru_if rfl rfl,
  fun v t st h => ru_go rfl rfl,
  fun a ls st h => ru_getf rfl,
  fun v t st h => ru_go rfl rfl,
  fun a ls st h => ru_getf rfl,
  fun x0 x1 x2 x3 v t st h => ru_go rfl rfl,
  fun i a ls st h => ru_aald rfl,
  fun v t st h => ru_go rfl rfl,
  fun a ls st h => ru_getf rfl,
  fun x0 x1 x2 x3 x4 v t st h => ru_go rfl rfl,
  fun i a ls st h => ru_aald rfl,
  fun v t st h => ru_go rfl rfl,
  fun a ls st h => ru_getf rfl,
  fun a0 a1 a2 a3 ls h => ru_inv rfl (by decide) rfl (Nat.le_of_ble_eq_true rfl),
  fun v t st h => ru_go rfl rfl,
  fun v t st h => ru_go rfl rfl,
  fun a ls st h => ru_getf rfl,
  fun a0 a1 ls h => ru_inv rfl (by decide) rfl (Nat.le_of_ble_eq_true rfl),
  fun x0 x1 x2 v t st h => ru_go rfl rfl,
  fun x ls st h => ru_if rfl rfl,
  fun v t st h => ru_go rfl rfl,
  fun a ls st h => ru_getf rfl,
  fun a0 ls h => ru_inv rfl (by decide) rfl (Nat.le_of_ble_eq_true rfl),
  fun x ls st h => ru_if rfl rfl,
  fun v t st h => ru_go rfl rfl,
  fun a0 ls h => ru_inv rfl (by decide) rfl (Nat.le_of_ble_eq_true rfl),
  fun ls st h => ru_go rfl rfl,
  fun x0 x1 x2 x3 v t st h => ru_go rfl rfl,
  fun x0 x1 x2 x3 x4 v t st h => ru_go rfl rfl,
  fun ls st h => ru_go rfl rfl,
  fun ls st h => ru_go rfl rfl,
  fun a0 ls h => ru_inv rfl (by decide) rfl (Nat.le_of_ble_eq_true rfl),
  fun x ls h => ru_bret rfl rfl⟩
theorem E105 (a0 : Nat) (a1 : Nat) (a2 : Nat) {h : eH} {fs : List Value} (ha : h.1 a0 = .inr (0, fs)) : den 105 [.ref a0, .ref a1, .ref a2] h = ru 105 0 [some (.ref a0), some (.ref a1), some (.ref a2), none, none, none] [] h := den_ob (Nat.le_of_ble_eq_true rfl) ha
/-! 106 X5_begin -/
set_option maxRecDepth 100000 in
theorem S106 : (∀ (v : Nat) (t : eL) (st : List Value) (h : eH), ru 106 0 (some (.ref v) :: t) st h = ru 106 1 (some (.ref v) :: t) (.ref v :: st) h) ∧
  (∀ (x0 : Option Value) (v : Int32) (t : eL) (st : List Value) (h : eH), ru 106 1 (x0 :: some (.int v) :: t) st h = ru 106 2 (x0 :: some (.int v) :: t) (.int v :: st) h) ∧
  (∀ (v : Nat) (t : eL) (st : List Value) (h : eH), ru 106 2 (some (.ref v) :: t) st h = ru 106 3 (some (.ref v) :: t) (.ref v :: st) h) ∧
  (∀ (a : Nat) (ls : eL) (st : List Value) (h : eH), ru 106 3 ls (.ref a :: st) h = gF (h.1 a) 5 0 (fun v => ru 106 6 ls (v :: st) h)) ∧
  (∀ (a0 : Int32) (a1 : Int32) (u0 : Nat) (ls : eL) (h : eH), ru 106 6 ls [.int a1, .int a0, .ref u0] h = cl (den 9 [.int a0, .int a1] h) (fun v h => ru 106 9 ls (v.toList ++ [.ref u0]) h)) ∧
  (∀ (v : Int32) (a : Nat) (ls : eL) (st : List Value) (h : eH), ru 106 9 ls (.int v :: .ref a :: st) h = pF (h.1 a) 5 6 (.int v) (fun e => ru 106 12 ls st (eUp h a e))) ∧
  (∀ (v : Nat) (t : eL) (st : List Value) (h : eH), ru 106 12 (some (.ref v) :: t) st h = ru 106 13 (some (.ref v) :: t) (.ref v :: st) h) ∧
  (∀ (x0 x1 : Option Value) (v : Int32) (t : eL) (st : List Value) (h : eH), ru 106 13 (x0 :: x1 :: some (.int v) :: t) st h = ru 106 14 (x0 :: x1 :: some (.int v) :: t) (.int v :: st) h) ∧
  (∀ (x0 x1 x2 : Option Value) (v : Int32) (t : eL) (st : List Value) (h : eH), ru 106 14 (x0 :: x1 :: x2 :: some (.int v) :: t) st h = ru 106 15 (x0 :: x1 :: x2 :: some (.int v) :: t) (.int v :: st) h) ∧
  (∀ (x y : Int32) (ls : eL) (st : List Value) (h : eH), ru 106 15 ls (.int y :: .int x :: st) h = ru 106 16 ls (.int (x + y) :: st) h) ∧
  (∀ (v : Nat) (t : eL) (st : List Value) (h : eH), ru 106 16 (some (.ref v) :: t) st h = ru 106 17 (some (.ref v) :: t) (.ref v :: st) h) ∧
  (∀ (a : Nat) (ls : eL) (st : List Value) (h : eH), ru 106 17 ls (.ref a :: st) h = gF (h.1 a) 5 1 (fun v => ru 106 20 ls (v :: st) h)) ∧
  (∀ (a0 : Int32) (a1 : Int32) (u0 : Nat) (ls : eL) (h : eH), ru 106 20 ls [.int a1, .int a0, .ref u0] h = cl (den 9 [.int a0, .int a1] h) (fun v h => ru 106 23 ls (v.toList ++ [.ref u0]) h)) ∧
  (∀ (v : Int32) (a : Nat) (ls : eL) (st : List Value) (h : eH), ru 106 23 ls (.int v :: .ref a :: st) h = pF (h.1 a) 5 8 (.int v) (fun e => ru 106 26 ls st (eUp h a e))) ∧
  (∀ (v : Nat) (t : eL) (st : List Value) (h : eH), ru 106 26 (some (.ref v) :: t) st h = ru 106 27 (some (.ref v) :: t) (.ref v :: st) h) ∧
  (∀ (x0 x1 : Option Value) (v : Int32) (t : eL) (st : List Value) (h : eH), ru 106 27 (x0 :: x1 :: some (.int v) :: t) st h = ru 106 28 (x0 :: x1 :: some (.int v) :: t) (.int v :: st) h) ∧
  (∀ (v : Nat) (t : eL) (st : List Value) (h : eH), ru 106 28 (some (.ref v) :: t) st h = ru 106 29 (some (.ref v) :: t) (.ref v :: st) h) ∧
  (∀ (a : Nat) (ls : eL) (st : List Value) (h : eH), ru 106 29 ls (.ref a :: st) h = gF (h.1 a) 5 8 (fun v => ru 106 32 ls (v :: st) h)) ∧
  (∀ (a0 : Int32) (a1 : Int32) (u0 : Nat) (ls : eL) (h : eH), ru 106 32 ls [.int a1, .int a0, .ref u0] h = cl (den 9 [.int a0, .int a1] h) (fun v h => ru 106 35 ls (v.toList ++ [.ref u0]) h)) ∧
  (∀ (v : Int32) (a : Nat) (ls : eL) (st : List Value) (h : eH), ru 106 35 ls (.int v :: .ref a :: st) h = pF (h.1 a) 5 7 (.int v) (fun e => ru 106 38 ls st (eUp h a e))) ∧
  (∀ (v : Nat) (t : eL) (st : List Value) (h : eH), ru 106 38 (some (.ref v) :: t) st h = ru 106 39 (some (.ref v) :: t) (.ref v :: st) h) ∧
  (∀ (a : Nat) (ls : eL) (st : List Value) (h : eH), ru 106 39 ls (.ref a :: st) h = gF (h.1 a) 5 4 (fun v => ru 106 42 ls (v :: st) h)) ∧
  (∀ (ls : eL) (st : List Value) (h : eH), ru 106 42 ls st h = ru 106 43 ls (.int (nI 0) :: st) h) ∧
  (∀ (a0 : Nat) (a1 : Int32) (ls : eL) (h : eH), ru 106 43 ls [.int a1, .ref a0] h = cl (den 1 [.ref a0, .int a1] h) (fun v h => ru 106 46 ls (v.toList ++ []) h)) ∧
  (∀ (ls : eL) (h : eH), ru 106 46 ls [] h = some (none, h)) := ⟨fun v t st h => ru_go rfl rfl,
  fun x0 v t st h => ru_go rfl rfl,
  fun v t st h => ru_go rfl rfl,
  fun a ls st h => ru_getf rfl,
  fun a0 a1 u0 ls h => ru_inv rfl (by decide) rfl (Nat.le_of_ble_eq_true rfl),
  fun v a ls st h => ru_putf rfl,
  fun v t st h => ru_go rfl rfl,
  fun x0 x1 v t st h => ru_go rfl rfl,
  fun x0 x1 x2 v t st h => ru_go rfl rfl,
  fun x y ls st h => ru_go rfl rfl,
  fun v t st h => ru_go rfl rfl,
  fun a ls st h => ru_getf rfl,
  fun a0 a1 u0 ls h => ru_inv rfl (by decide) rfl (Nat.le_of_ble_eq_true rfl),
  fun v a ls st h => ru_putf rfl,
  fun v t st h => ru_go rfl rfl,
  fun x0 x1 v t st h => ru_go rfl rfl,
  fun v t st h => ru_go rfl rfl,
  fun a ls st h => ru_getf rfl,
  fun a0 a1 u0 ls h => ru_inv rfl (by decide) rfl (Nat.le_of_ble_eq_true rfl),
  fun v a ls st h => ru_putf rfl,
  fun v t st h => ru_go rfl rfl,
  fun a ls st h => ru_getf rfl,
  fun ls st h => ru_go rfl rfl,
  fun a0 a1 ls h => ru_inv rfl (by decide) rfl (Nat.le_of_ble_eq_true rfl),
  fun ls h => ru_ret rfl rfl⟩
theorem E106 (a0 : Nat) (a1 : Int32) (a2 : Int32) (a3 : Int32) {h : eH} {fs : List Value} (ha : h.1 a0 = .inr (5, fs)) : den 106 [.ref a0, .int a1, .int a2, .int a3] h = ru 106 0 [some (.ref a0), some (.int a1), some (.int a2), some (.int a3)] [] h := den_ob (Nat.le_of_ble_eq_true rfl) ha
/-! 107 X6_isFixed -/
set_option maxRecDepth 100000 in
theorem S107 : (∀ (v : Nat) (t : eL) (st : List Value) (h : eH), ru 107 0 (some (.ref v) :: t) st h = ru 107 1 (some (.ref v) :: t) (.ref v :: st) h) ∧
  (∀ (a : Nat) (ls : eL) (st : List Value) (h : eH), ru 107 1 ls (.ref a :: st) h = gF (h.1 a) 6 5 (fun v => ru 107 4 ls (v :: st) h)) ∧
  (∀ (x0 : Option Value) (v : Int32) (t : eL) (st : List Value) (h : eH), ru 107 4 (x0 :: some (.int v) :: t) st h = ru 107 5 (x0 :: some (.int v) :: t) (.int v :: st) h) ∧
  (∀ (i : Int32) (a : Nat) (ls : eL) (st : List Value) (h : eH), ru 107 5 ls (.int i :: .ref a :: st) h = aI (h.1 a) 0 i (fun v => ru 107 6 ls (.int v :: st) h)) ∧
  (∀ (ls : eL) (st : List Value) (h : eH), ru 107 6 ls st h = ru 107 7 ls (.int ((-1)) :: st) h) ∧
  (∀ (x y : Int32) (ls : eL) (st : List Value) (h : eH), ru 107 7 ls (.int y :: .int x :: st) h = if x = y then ru 107 10 ls st h else ru 107 14 ls st h) ∧
  (∀ (ls : eL) (st : List Value) (h : eH), ru 107 10 ls st h = ru 107 11 ls (.int (nI 1) :: st) h) ∧
  (∀ (ls : eL) (st : List Value) (h : eH), ru 107 11 ls st h = ru 107 15 ls st h) ∧
  (∀ (ls : eL) (st : List Value) (h : eH), ru 107 14 ls st h = ru 107 15 ls (.int (nI 0) :: st) h) ∧
  (∀ (x : Int32) (ls : eL) (h : eH), ru 107 15 ls [.int x] h = bo (x == 0 || x == 1) (some (some (.int x), h))) := ⟨fun v t st h => ru_go rfl rfl,
  fun a ls st h => ru_getf rfl,
  fun x0 v t st h => ru_go rfl rfl,
  fun i a ls st h => ru_iald rfl,
  fun ls st h => ru_go rfl rfl,
  fun x y ls st h => ru_if rfl rfl,
  fun ls st h => ru_go rfl rfl,
  fun ls st h => ru_go rfl rfl,
  fun ls st h => ru_go rfl rfl,
  fun x ls h => ru_bret rfl rfl⟩
theorem E107 (a0 : Nat) (a1 : Int32) {h : eH} {fs : List Value} (ha : h.1 a0 = .inr (6, fs)) : den 107 [.ref a0, .int a1] h = ru 107 0 [some (.ref a0), some (.int a1)] [] h := den_ob (Nat.le_of_ble_eq_true rfl) ha
/-! 108 X6_moveOf -/
set_option maxRecDepth 100000 in
theorem S108 : (∀ (v : Nat) (t : eL) (st : List Value) (h : eH), ru 108 0 (some (.ref v) :: t) st h = ru 108 1 (some (.ref v) :: t) (.ref v :: st) h) ∧
  (∀ (x0 : Option Value) (v : Int32) (t : eL) (st : List Value) (h : eH), ru 108 1 (x0 :: some (.int v) :: t) st h = ru 108 2 (x0 :: some (.int v) :: t) (.int v :: st) h) ∧
  (∀ (a0 : Nat) (a1 : Int32) (ls : eL) (h : eH), ru 108 2 ls [.int a1, .ref a0] h = cl (den 107 [.ref a0, .int a1] h) (fun v h => ru 108 5 ls (v.toList ++ []) h)) ∧
  (∀ (x : Int32) (ls : eL) (st : List Value) (h : eH), ru 108 5 ls (.int x :: st) h = if x = 0 then ru 108 12 ls st h else ru 108 8 ls st h) ∧
  (∀ (ls : eL) (st : List Value) (h : eH), ru 108 8 ls st h = ru 108 9 ls (.int ((-1)) :: st) h) ∧
  (∀ (ls : eL) (st : List Value) (h : eH), ru 108 9 ls st h = ru 108 22 ls st h) ∧
  (∀ (ls : eL) (st : List Value) (h : eH), ru 108 12 ls st h = ru 108 13 ls (.int (nI 2) :: st) h) ∧
  (∀ (v : Nat) (t : eL) (st : List Value) (h : eH), ru 108 13 (some (.ref v) :: t) st h = ru 108 14 (some (.ref v) :: t) (.ref v :: st) h) ∧
  (∀ (a : Nat) (ls : eL) (st : List Value) (h : eH), ru 108 14 ls (.ref a :: st) h = gF (h.1 a) 6 5 (fun v => ru 108 17 ls (v :: st) h)) ∧
  (∀ (x0 : Option Value) (v : Int32) (t : eL) (st : List Value) (h : eH), ru 108 17 (x0 :: some (.int v) :: t) st h = ru 108 18 (x0 :: some (.int v) :: t) (.int v :: st) h) ∧
  (∀ (i : Int32) (a : Nat) (ls : eL) (st : List Value) (h : eH), ru 108 18 ls (.int i :: .ref a :: st) h = aI (h.1 a) 0 i (fun v => ru 108 19 ls (.int v :: st) h)) ∧
  (∀ (x y : Int32) (ls : eL) (st : List Value) (h : eH), ru 108 19 ls (.int y :: .int x :: st) h = ru 108 20 ls (.int (x * y) :: st) h) ∧
  (∀ (x0 x1 : Option Value) (v : Int32) (t : eL) (st : List Value) (h : eH), ru 108 20 (x0 :: x1 :: some (.int v) :: t) st h = ru 108 21 (x0 :: x1 :: some (.int v) :: t) (.int v :: st) h) ∧
  (∀ (x y : Int32) (ls : eL) (st : List Value) (h : eH), ru 108 21 ls (.int y :: .int x :: st) h = ru 108 22 ls (.int (x + y) :: st) h) ∧
  (∀ (x : Int32) (ls : eL) (h : eH), ru 108 22 ls [.int x] h = some (some (.int x), h)) := ⟨fun v t st h => ru_go rfl rfl,
  fun x0 v t st h => ru_go rfl rfl,
  fun a0 a1 ls h => ru_inv rfl (by decide) rfl (Nat.le_of_ble_eq_true rfl),
  fun x ls st h => ru_if rfl rfl,
  fun ls st h => ru_go rfl rfl,
  fun ls st h => ru_go rfl rfl,
  fun ls st h => ru_go rfl rfl,
  fun v t st h => ru_go rfl rfl,
  fun a ls st h => ru_getf rfl,
  fun x0 v t st h => ru_go rfl rfl,
  fun i a ls st h => ru_iald rfl,
  fun x y ls st h => ru_go rfl rfl,
  fun x0 x1 v t st h => ru_go rfl rfl,
  fun x y ls st h => ru_go rfl rfl,
  fun x ls h => ru_ret rfl rfl⟩
theorem E108 (a0 : Nat) (a1 : Int32) (a2 : Int32) {h : eH} {fs : List Value} (ha : h.1 a0 = .inr (6, fs)) : den 108 [.ref a0, .int a1, .int a2] h = ru 108 0 [some (.ref a0), some (.int a1), some (.int a2)] [] h := den_ob (Nat.le_of_ble_eq_true rfl) ha
/-! 109 X6_span -/
set_option maxRecDepth 100000 in
theorem S109 : (∀ (v : Nat) (t : eL) (st : List Value) (h : eH), ru 109 0 (some (.ref v) :: t) st h = ru 109 1 (some (.ref v) :: t) (.ref v :: st) h) ∧
  (∀ (a : Nat) (ls : eL) (st : List Value) (h : eH), ru 109 1 ls (.ref a :: st) h = gF (h.1 a) 6 3 (fun v => ru 109 4 ls (v :: st) h)) ∧
  (∀ (x0 x1 : Option Value) (v : Int32) (t : eL) (st : List Value) (h : eH), ru 109 4 (x0 :: x1 :: some (.int v) :: t) st h = ru 109 5 (x0 :: x1 :: some (.int v) :: t) (.int v :: st) h) ∧
  (∀ (i : Int32) (a : Nat) (ls : eL) (st : List Value) (h : eH), ru 109 5 ls (.int i :: .ref a :: st) h = aQ (h.1 a) i (fun v => ru 109 6 ls (.ref v :: st) h)) ∧
  (∀ (v : Nat) (t : eL) (st : List Value) (h : eH), ru 109 6 (some (.ref v) :: t) st h = ru 109 7 (some (.ref v) :: t) (.ref v :: st) h) ∧
  (∀ (a : Nat) (ls : eL) (st : List Value) (h : eH), ru 109 7 ls (.ref a :: st) h = gF (h.1 a) 6 7 (fun v => ru 109 10 ls (v :: st) h)) ∧
  (∀ (x0 : Option Value) (v : Int32) (t : eL) (st : List Value) (h : eH), ru 109 10 (x0 :: some (.int v) :: t) st h = ru 109 11 (x0 :: some (.int v) :: t) (.int v :: st) h) ∧
  (∀ (i : Int32) (a : Nat) (ls : eL) (st : List Value) (h : eH), ru 109 11 ls (.int i :: .ref a :: st) h = aI (h.1 a) 0 i (fun v => ru 109 12 ls (.int v :: st) h)) ∧
  (∀ (i : Int32) (a : Nat) (ls : eL) (st : List Value) (h : eH), ru 109 12 ls (.int i :: .ref a :: st) h = aI (h.1 a) 0 i (fun v => ru 109 13 ls (.int v :: st) h)) ∧
  (∀ (v : Nat) (t : eL) (st : List Value) (h : eH), ru 109 13 (some (.ref v) :: t) st h = ru 109 14 (some (.ref v) :: t) (.ref v :: st) h) ∧
  (∀ (a : Nat) (ls : eL) (st : List Value) (h : eH), ru 109 14 ls (.ref a :: st) h = gF (h.1 a) 6 3 (fun v => ru 109 17 ls (v :: st) h)) ∧
  (∀ (x0 x1 : Option Value) (v : Int32) (t : eL) (st : List Value) (h : eH), ru 109 17 (x0 :: x1 :: some (.int v) :: t) st h = ru 109 18 (x0 :: x1 :: some (.int v) :: t) (.int v :: st) h) ∧
  (∀ (i : Int32) (a : Nat) (ls : eL) (st : List Value) (h : eH), ru 109 18 ls (.int i :: .ref a :: st) h = aQ (h.1 a) i (fun v => ru 109 19 ls (.ref v :: st) h)) ∧
  (∀ (v : Nat) (t : eL) (st : List Value) (h : eH), ru 109 19 (some (.ref v) :: t) st h = ru 109 20 (some (.ref v) :: t) (.ref v :: st) h) ∧
  (∀ (a : Nat) (ls : eL) (st : List Value) (h : eH), ru 109 20 ls (.ref a :: st) h = gF (h.1 a) 6 6 (fun v => ru 109 23 ls (v :: st) h)) ∧
  (∀ (x0 : Option Value) (v : Int32) (t : eL) (st : List Value) (h : eH), ru 109 23 (x0 :: some (.int v) :: t) st h = ru 109 24 (x0 :: some (.int v) :: t) (.int v :: st) h) ∧
  (∀ (i : Int32) (a : Nat) (ls : eL) (st : List Value) (h : eH), ru 109 24 ls (.int i :: .ref a :: st) h = aI (h.1 a) 0 i (fun v => ru 109 25 ls (.int v :: st) h)) ∧
  (∀ (i : Int32) (a : Nat) (ls : eL) (st : List Value) (h : eH), ru 109 25 ls (.int i :: .ref a :: st) h = aI (h.1 a) 0 i (fun v => ru 109 26 ls (.int v :: st) h)) ∧
  (∀ (x y : Int32) (ls : eL) (st : List Value) (h : eH), ru 109 26 ls (.int y :: .int x :: st) h = ru 109 27 ls (.int (x - y) :: st) h) ∧
  (∀ (x : Int32) (ls : eL) (h : eH), ru 109 27 ls [.int x] h = some (some (.int x), h)) := ⟨fun v t st h => ru_go rfl rfl,
  fun a ls st h => ru_getf rfl,
  fun x0 x1 v t st h => ru_go rfl rfl,
  fun i a ls st h => ru_aald rfl,
  fun v t st h => ru_go rfl rfl,
  fun a ls st h => ru_getf rfl,
  fun x0 v t st h => ru_go rfl rfl,
  fun i a ls st h => ru_iald rfl,
  fun i a ls st h => ru_iald rfl,
  fun v t st h => ru_go rfl rfl,
  fun a ls st h => ru_getf rfl,
  fun x0 x1 v t st h => ru_go rfl rfl,
  fun i a ls st h => ru_aald rfl,
  fun v t st h => ru_go rfl rfl,
  fun a ls st h => ru_getf rfl,
  fun x0 v t st h => ru_go rfl rfl,
  fun i a ls st h => ru_iald rfl,
  fun i a ls st h => ru_iald rfl,
  fun x y ls st h => ru_go rfl rfl,
  fun x ls h => ru_ret rfl rfl⟩
theorem E109 (a0 : Nat) (a1 : Int32) (a2 : Int32) {h : eH} {fs : List Value} (ha : h.1 a0 = .inr (6, fs)) : den 109 [.ref a0, .int a1, .int a2] h = ru 109 0 [some (.ref a0), some (.int a1), some (.int a2)] [] h := den_ob (Nat.le_of_ble_eq_true rfl) ha
/-! 110 X5_add -/
set_option maxRecDepth 100000 in
theorem S110 : (∀ (v : Nat) (t : eL) (st : List Value) (h : eH), ru 110 0 (some (.ref v) :: t) st h = ru 110 1 (some (.ref v) :: t) (.ref v :: st) h) ∧
  (∀ (x0 : Option Value) (v : Int32) (t : eL) (st : List Value) (h : eH), ru 110 1 (x0 :: some (.int v) :: t) st h = ru 110 2 (x0 :: some (.int v) :: t) (.int v :: st) h) ∧
  (∀ (x0 x1 : Option Value) (v : Int32) (t : eL) (st : List Value) (h : eH), ru 110 2 (x0 :: x1 :: some (.int v) :: t) st h = ru 110 3 (x0 :: x1 :: some (.int v) :: t) (.int v :: st) h) ∧
  (∀ (a0 : Nat) (a1 : Int32) (a2 : Int32) (ls : eL) (h : eH), ru 110 3 ls [.int a2, .int a1, .ref a0] h = cl (den 85 [.ref a0, .int a1, .int a2] h) (fun v h => ru 110 6 ls (v.toList ++ []) h)) ∧
  (∀ (x : Int32) (ls : eL) (st : List Value) (h : eH), ru 110 6 ls (.int x :: st) h = if x = 0 then ru 110 72 ls st h else ru 110 9 ls st h) ∧
  (∀ (x0 : Option Value) (v : Int32) (t : eL) (st : List Value) (h : eH), ru 110 9 (x0 :: some (.int v) :: t) st h = ru 110 10 (x0 :: some (.int v) :: t) (.int v :: st) h) ∧
  (∀ (v : Nat) (t : eL) (st : List Value) (h : eH), ru 110 10 (some (.ref v) :: t) st h = ru 110 11 (some (.ref v) :: t) (.ref v :: st) h) ∧
  (∀ (a : Nat) (ls : eL) (st : List Value) (h : eH), ru 110 11 ls (.ref a :: st) h = gF (h.1 a) 5 1 (fun v => ru 110 14 ls (v :: st) h)) ∧
  (∀ (x y : Int32) (ls : eL) (st : List Value) (h : eH), ru 110 14 ls (.int y :: .int x :: st) h = ru 110 15 ls (.int (x * y) :: st) h) ∧
  (∀ (x0 x1 : Option Value) (v : Int32) (t : eL) (st : List Value) (h : eH), ru 110 15 (x0 :: x1 :: some (.int v) :: t) st h = ru 110 16 (x0 :: x1 :: some (.int v) :: t) (.int v :: st) h) ∧
  (∀ (x y : Int32) (ls : eL) (st : List Value) (h : eH), ru 110 16 ls (.int y :: .int x :: st) h = ru 110 17 ls (.int (x + y) :: st) h) ∧
  (∀ (x0 x1 x2 x3 x4 : Option Value) (v : Int32) (t : eL) (st : List Value) (h : eH), ru 110 17 (x0 :: x1 :: x2 :: x3 :: x4 :: t) (.int v :: st) h = ru 110 19 (x0 :: x1 :: x2 :: eKl x3 :: some (.int v) :: t) st h) ∧
  (∀ (v : Nat) (t : eL) (st : List Value) (h : eH), ru 110 19 (some (.ref v) :: t) st h = ru 110 20 (some (.ref v) :: t) (.ref v :: st) h) ∧
  (∀ (a : Nat) (ls : eL) (st : List Value) (h : eH), ru 110 20 ls (.ref a :: st) h = gF (h.1 a) 5 4 (fun v => ru 110 23 ls (v :: st) h)) ∧
  (∀ (x0 x1 x2 x3 : Option Value) (v : Int32) (t : eL) (st : List Value) (h : eH), ru 110 23 (x0 :: x1 :: x2 :: x3 :: some (.int v) :: t) st h = ru 110 25 (x0 :: x1 :: x2 :: x3 :: some (.int v) :: t) (.int v :: st) h) ∧
  (∀ (i : Int32) (a : Nat) (ls : eL) (st : List Value) (h : eH), ru 110 25 ls (.int i :: .ref a :: st) h = aI (h.1 a) 0 i (fun v => ru 110 26 ls (.int v :: st) h)) ∧
  (∀ (v : Nat) (t : eL) (st : List Value) (h : eH), ru 110 26 (some (.ref v) :: t) st h = ru 110 27 (some (.ref v) :: t) (.ref v :: st) h) ∧
  (∀ (a : Nat) (ls : eL) (st : List Value) (h : eH), ru 110 27 ls (.ref a :: st) h = gF (h.1 a) 5 3 (fun v => ru 110 30 ls (v :: st) h)) ∧
  (∀ (x0 x1 x2 x3 : Option Value) (v : Int32) (t : eL) (st : List Value) (h : eH), ru 110 30 (x0 :: x1 :: x2 :: x3 :: some (.int v) :: t) st h = ru 110 32 (x0 :: x1 :: x2 :: x3 :: some (.int v) :: t) (.int v :: st) h) ∧
  (∀ (v : Nat) (t : eL) (st : List Value) (h : eH), ru 110 32 (some (.ref v) :: t) st h = ru 110 33 (some (.ref v) :: t) (.ref v :: st) h) ∧
  (∀ (a : Nat) (ls : eL) (st : List Value) (h : eH), ru 110 33 ls (.ref a :: st) h = gF (h.1 a) 5 2 (fun v => ru 110 36 ls (v :: st) h)) ∧
  (∀ (x y : Int32) (ls : eL) (st : List Value) (h : eH), ru 110 36 ls (.int y :: .int x :: st) h = ru 110 37 ls (.int (x * y) :: st) h) ∧
  (∀ (i : Int32) (a : Nat) (ls : eL) (st : List Value) (h : eH), ru 110 37 ls (.int i :: .ref a :: st) h = aI (h.1 a) 0 i (fun v => ru 110 38 ls (.int v :: st) h)) ∧
  (∀ (x y : Int32) (ls : eL) (st : List Value) (h : eH), ru 110 38 ls (.int y :: .int x :: st) h = ru 110 39 ls (.int (x * y) :: st) h) ∧
  (∀ (x0 x1 x2 : Option Value) (v : Int32) (t : eL) (st : List Value) (h : eH), ru 110 39 (x0 :: x1 :: x2 :: some (.int v) :: t) st h = ru 110 40 (x0 :: x1 :: x2 :: some (.int v) :: t) (.int v :: st) h) ∧
  (∀ (x y : Int32) (ls : eL) (st : List Value) (h : eH), ru 110 40 ls (.int y :: .int x :: st) h = ru 110 41 ls (.int (x + y) :: st) h) ∧
  (∀ (x0 x1 x2 x3 x4 x5 : Option Value) (v : Int32) (t : eL) (st : List Value) (h : eH), ru 110 41 (x0 :: x1 :: x2 :: x3 :: x4 :: x5 :: t) (.int v :: st) h = ru 110 43 (x0 :: x1 :: x2 :: x3 :: eKl x4 :: some (.int v) :: t) st h) ∧
  (∀ (v : Nat) (t : eL) (st : List Value) (h : eH), ru 110 43 (some (.ref v) :: t) st h = ru 110 44 (some (.ref v) :: t) (.ref v :: st) h) ∧
  (∀ (a : Nat) (ls : eL) (st : List Value) (h : eH), ru 110 44 ls (.ref a :: st) h = gF (h.1 a) 5 4 (fun v => ru 110 47 ls (v :: st) h)) ∧
  (∀ (x0 x1 x2 x3 : Option Value) (v : Int32) (t : eL) (st : List Value) (h : eH), ru 110 47 (x0 :: x1 :: x2 :: x3 :: some (.int v) :: t) st h = ru 110 49 (x0 :: x1 :: x2 :: x3 :: some (.int v) :: t) (.int v :: st) h) ∧
  (∀ (x0 x1 x2 x3 x4 : Option Value) (v : Int32) (t : eL) (st : List Value) (h : eH), ru 110 49 (x0 :: x1 :: x2 :: x3 :: x4 :: some (.int v) :: t) st h = ru 110 51 (x0 :: x1 :: x2 :: x3 :: x4 :: some (.int v) :: t) (.int v :: st) h) ∧
  (∀ (a0 : Int32) (u0 : Int32) (u1 : Nat) (ls : eL) (h : eH), ru 110 51 ls [.int a0, .int u0, .ref u1] h = cl (den 0 [.int a0] h) (fun v h => ru 110 54 ls (v.toList ++ [.int u0, .ref u1]) h)) ∧
  (∀ (x : Int32) (i : Int32) (a : Nat) (ls : eL) (st : List Value) (h : eH), ru 110 54 ls (.int x :: .int i :: .ref a :: st) h = wI (h.1 a) i x (fun e => ru 110 55 ls st (eUp h a e))) ∧
  (∀ (v : Nat) (t : eL) (st : List Value) (h : eH), ru 110 55 (some (.ref v) :: t) st h = ru 110 56 (some (.ref v) :: t) (.ref v :: st) h) ∧
  (∀ (a : Nat) (ls : eL) (st : List Value) (h : eH), ru 110 56 ls (.ref a :: st) h = gF (h.1 a) 5 3 (fun v => ru 110 59 ls (v :: st) h)) ∧
  (∀ (x0 x1 x2 x3 : Option Value) (v : Int32) (t : eL) (st : List Value) (h : eH), ru 110 59 (x0 :: x1 :: x2 :: x3 :: some (.int v) :: t) st h = ru 110 61 (x0 :: x1 :: x2 :: x3 :: some (.int v) :: t) (.int v :: st) h) ∧
  (∀ (v : Nat) (t : eL) (st : List Value) (h : eH), ru 110 61 (some (.ref v) :: t) st h = ru 110 62 (some (.ref v) :: t) (.ref v :: st) h) ∧
  (∀ (a : Nat) (ls : eL) (st : List Value) (h : eH), ru 110 62 ls (.ref a :: st) h = gF (h.1 a) 5 2 (fun v => ru 110 65 ls (v :: st) h)) ∧
  (∀ (x y : Int32) (ls : eL) (st : List Value) (h : eH), ru 110 65 ls (.int y :: .int x :: st) h = ru 110 66 ls (.int (x * y) :: st) h) ∧
  (∀ (x0 x1 x2 x3 x4 : Option Value) (v : Int32) (t : eL) (st : List Value) (h : eH), ru 110 66 (x0 :: x1 :: x2 :: x3 :: x4 :: some (.int v) :: t) st h = ru 110 68 (x0 :: x1 :: x2 :: x3 :: x4 :: some (.int v) :: t) (.int v :: st) h) ∧
  (∀ (a0 : Int32) (u0 : Int32) (u1 : Nat) (ls : eL) (h : eH), ru 110 68 ls [.int a0, .int u0, .ref u1] h = cl (den 5 [.int a0] h) (fun v h => ru 110 71 ls (v.toList ++ [.int u0, .ref u1]) h)) ∧
  (∀ (x : Int32) (i : Int32) (a : Nat) (ls : eL) (st : List Value) (h : eH), ru 110 71 ls (.int x :: .int i :: .ref a :: st) h = wI (h.1 a) i x (fun e => ru 110 72 ls st (eUp h a e))) ∧
  (∀ (ls : eL) (h : eH), ru 110 72 ls [] h = some (none, h)) := ⟨fun v t st h => ru_go rfl rfl,
  fun x0 v t st h => ru_go rfl rfl,
  fun x0 x1 v t st h => ru_go rfl rfl,
  fun a0 a1 a2 ls h => ru_inv rfl (by decide) rfl (Nat.le_of_ble_eq_true rfl),
  fun x ls st h => ru_if rfl rfl,
  fun x0 v t st h => ru_go rfl rfl,
  fun v t st h => ru_go rfl rfl,
  fun a ls st h => ru_getf rfl,
  fun x y ls st h => ru_go rfl rfl,
  fun x0 x1 v t st h => ru_go rfl rfl,
  fun x y ls st h => ru_go rfl rfl,
  fun x0 x1 x2 x3 x4 v t st h => ru_go rfl rfl,
  fun v t st h => ru_go rfl rfl,
  fun a ls st h => ru_getf rfl,
  fun x0 x1 x2 x3 v t st h => ru_go rfl rfl,
  fun i a ls st h => ru_iald rfl,
  fun v t st h => ru_go rfl rfl,
  fun a ls st h => ru_getf rfl,
  fun x0 x1 x2 x3 v t st h => ru_go rfl rfl,
  fun v t st h => ru_go rfl rfl,
  fun a ls st h => ru_getf rfl,
  fun x y ls st h => ru_go rfl rfl,
  fun i a ls st h => ru_iald rfl,
  fun x y ls st h => ru_go rfl rfl,
  fun x0 x1 x2 v t st h => ru_go rfl rfl,
  fun x y ls st h => ru_go rfl rfl,
  fun x0 x1 x2 x3 x4 x5 v t st h => ru_go rfl rfl,
  fun v t st h => ru_go rfl rfl,
  fun a ls st h => ru_getf rfl,
  fun x0 x1 x2 x3 v t st h => ru_go rfl rfl,
  fun x0 x1 x2 x3 x4 v t st h => ru_go rfl rfl,
  fun a0 u0 u1 ls h => ru_inv rfl (by decide) rfl (Nat.le_of_ble_eq_true rfl),
  fun x i a ls st h => ru_iast rfl,
  fun v t st h => ru_go rfl rfl,
  fun a ls st h => ru_getf rfl,
  fun x0 x1 x2 x3 v t st h => ru_go rfl rfl,
  fun v t st h => ru_go rfl rfl,
  fun a ls st h => ru_getf rfl,
  fun x y ls st h => ru_go rfl rfl,
  fun x0 x1 x2 x3 x4 v t st h => ru_go rfl rfl,
  fun a0 u0 u1 ls h => ru_inv rfl (by decide) rfl (Nat.le_of_ble_eq_true rfl),
  fun x i a ls st h => ru_iast rfl,
  fun ls h => ru_ret rfl rfl⟩
theorem E110 (a0 : Nat) (a1 : Int32) (a2 : Int32) (a3 : Int32) {h : eH} {fs : List Value} (ha : h.1 a0 = .inr (5, fs)) : den 110 [.ref a0, .int a1, .int a2, .int a3] h = ru 110 0 [some (.ref a0), some (.int a1), some (.int a2), some (.int a3), none, none] [] h := den_ob (Nat.le_of_ble_eq_true rfl) ha
/-! 111 X6_fillForces -/
set_option maxRecDepth 100000 in
theorem H111_17 : (∀ (x0 x1 : Option Value) (v : Int32) (t : eL) (st : List Value) (h : eH), ru 111 17 (x0 :: x1 :: some (.int v) :: t) st h = ru 111 18 (x0 :: x1 :: some (.int v) :: t) (.int v :: st) h) := fun x0 x1 v t st h => ru_go rfl rfl
set_option maxRecDepth 100000 in
theorem H111_24 : (∀ (x0 x1 x2 : Option Value) (v : Int32) (t : eL) (st : List Value) (h : eH), ru 111 24 (x0 :: x1 :: x2 :: some (.int v) :: t) st h = ru 111 25 (x0 :: x1 :: x2 :: some (.int v) :: t) (.int v :: st) h) := fun x0 x1 x2 v t st h => ru_go rfl rfl
set_option maxRecDepth 100000 in
theorem H111_83 : (∀ (ls : eL) (st : List Value) (h : eH), ru 111 83 ls st h = ru 111 84 ls (.int (nI 0) :: st) h) := fun ls st h => ru_go rfl rfl
set_option maxRecDepth 100000 in
theorem H111_85 : (∀ (x0 x1 x2 : Option Value) (v : Int32) (t : eL) (st : List Value) (h : eH), ru 111 85 (x0 :: x1 :: x2 :: some (.int v) :: t) st h = ru 111 86 (x0 :: x1 :: x2 :: some (.int v) :: t) (.int v :: st) h) := fun x0 x1 x2 v t st h => ru_go rfl rfl
set_option maxRecDepth 100000 in
theorem H111_122 : (∀ (x0 x1 : Option Value) (v : Int32) (t : eL) (st : List Value) (h : eH), ru 111 122 (x0 :: x1 :: some (.int v) :: t) st h = ru 111 125 (x0 :: eKl x1 :: some (.int (v + 1)) :: t) st h) := fun x0 x1 v t st h => ru_go rfl rfl
set_option maxRecDepth 100000 in
theorem S111 : (∀ (x0 : Option Value) (v : Nat) (t : eL) (st : List Value) (h : eH), ru 111 0 (x0 :: some (.ref v) :: t) st h = ru 111 1 (x0 :: some (.ref v) :: t) (.ref v :: st) h) ∧
  (∀ (ls : eL) (st : List Value) (h : eH), ru 111 1 ls st h = ru 111 2 ls (.int (nI 2) :: st) h) ∧
  (∀ (v : Nat) (t : eL) (st : List Value) (h : eH), ru 111 2 (some (.ref v) :: t) st h = ru 111 3 (some (.ref v) :: t) (.ref v :: st) h) ∧
  (∀ (a : Nat) (ls : eL) (st : List Value) (h : eH), ru 111 3 ls (.ref a :: st) h = gF (h.1 a) 6 1 (fun v => ru 111 6 ls (v :: st) h)) ∧
  (∀ (x y : Int32) (ls : eL) (st : List Value) (h : eH), ru 111 6 ls (.int y :: .int x :: st) h = ru 111 7 ls (.int (x * y) :: st) h) ∧
  (∀ (v : Nat) (t : eL) (st : List Value) (h : eH), ru 111 7 (some (.ref v) :: t) st h = ru 111 8 (some (.ref v) :: t) (.ref v :: st) h) ∧
  (∀ (a : Nat) (ls : eL) (st : List Value) (h : eH), ru 111 8 ls (.ref a :: st) h = gF (h.1 a) 6 2 (fun v => ru 111 11 ls (v :: st) h)) ∧
  (∀ (ls : eL) (st : List Value) (h : eH), ru 111 11 ls st h = ru 111 12 ls (.int (nI 1) :: st) h) ∧
  (∀ (a0 : Nat) (a1 : Int32) (a2 : Int32) (a3 : Int32) (ls : eL) (h : eH), ru 111 12 ls [.int a3, .int a2, .int a1, .ref a0] h = cl (den 106 [.ref a0, .int a1, .int a2, .int a3] h) (fun v h => ru 111 15 ls (v.toList ++ []) h)) ∧
  (∀ (ls : eL) (st : List Value) (h : eH), ru 111 15 ls st h = ru 111 16 ls (.int (nI 0) :: st) h) ∧
  (∀ (x0 x1 x2 : Option Value) (v : Int32) (t : eL) (st : List Value) (h : eH), ru 111 16 (x0 :: x1 :: x2 :: t) (.int v :: st) h = ru 111 17 (x0 :: eKl x1 :: some (.int v) :: t) st h) ∧
  (∀ (ls : eL) (st : List Value) (h : eH), ru 111 18 ls st h = ru 111 19 ls (.int (nI 2) :: st) h) ∧
  (∀ (x y : Int32) (ls : eL) (st : List Value) (h : eH), ru 111 19 ls (.int y :: .int x :: st) h = if y ≤ x then ru 111 128 ls st h else ru 111 22 ls st h) ∧
  (∀ (ls : eL) (st : List Value) (h : eH), ru 111 22 ls st h = ru 111 23 ls (.int (nI 0) :: st) h) ∧
  (∀ (x0 x1 x2 x3 : Option Value) (v : Int32) (t : eL) (st : List Value) (h : eH), ru 111 23 (x0 :: x1 :: x2 :: x3 :: t) (.int v :: st) h = ru 111 24 (x0 :: x1 :: eKl x2 :: some (.int v) :: t) st h) ∧
  (∀ (v : Nat) (t : eL) (st : List Value) (h : eH), ru 111 25 (some (.ref v) :: t) st h = ru 111 26 (some (.ref v) :: t) (.ref v :: st) h) ∧
  (∀ (a : Nat) (ls : eL) (st : List Value) (h : eH), ru 111 26 ls (.ref a :: st) h = gF (h.1 a) 6 2 (fun v => ru 111 29 ls (v :: st) h)) ∧
  (∀ (x y : Int32) (ls : eL) (st : List Value) (h : eH), ru 111 29 ls (.int y :: .int x :: st) h = if y ≤ x then ru 111 83 ls st h else ru 111 32 ls st h) ∧
  (∀ (x0 : Option Value) (v : Nat) (t : eL) (st : List Value) (h : eH), ru 111 32 (x0 :: some (.ref v) :: t) st h = ru 111 33 (x0 :: some (.ref v) :: t) (.ref v :: st) h) ∧
  (∀ (v : Nat) (t : eL) (st : List Value) (h : eH), ru 111 33 (some (.ref v) :: t) st h = ru 111 34 (some (.ref v) :: t) (.ref v :: st) h) ∧
  (∀ (v : Nat) (t : eL) (st : List Value) (h : eH), ru 111 34 (some (.ref v) :: t) st h = ru 111 35 (some (.ref v) :: t) (.ref v :: st) h) ∧
  (∀ (a : Nat) (ls : eL) (st : List Value) (h : eH), ru 111 35 ls (.ref a :: st) h = gF (h.1 a) 6 6 (fun v => ru 111 38 ls (v :: st) h)) ∧
  (∀ (x0 x1 x2 : Option Value) (v : Int32) (t : eL) (st : List Value) (h : eH), ru 111 38 (x0 :: x1 :: x2 :: some (.int v) :: t) st h = ru 111 39 (x0 :: x1 :: x2 :: some (.int v) :: t) (.int v :: st) h) ∧
  (∀ (i : Int32) (a : Nat) (ls : eL) (st : List Value) (h : eH), ru 111 39 ls (.int i :: .ref a :: st) h = aI (h.1 a) 0 i (fun v => ru 111 40 ls (.int v :: st) h)) ∧
  (∀ (x0 x1 : Option Value) (v : Int32) (t : eL) (st : List Value) (h : eH), ru 111 40 (x0 :: x1 :: some (.int v) :: t) st h = ru 111 41 (x0 :: x1 :: some (.int v) :: t) (.int v :: st) h) ∧
  (∀ (a0 : Nat) (a1 : Int32) (a2 : Int32) (u0 : Nat) (ls : eL) (h : eH), ru 111 41 ls [.int a2, .int a1, .ref a0, .ref u0] h = cl (den 108 [.ref a0, .int a1, .int a2] h) (fun v h => ru 111 44 ls (v.toList ++ [.ref u0]) h)) ∧
  (∀ (x0 x1 x2 : Option Value) (v : Int32) (t : eL) (st : List Value) (h : eH), ru 111 44 (x0 :: x1 :: x2 :: some (.int v) :: t) st h = ru 111 45 (x0 :: x1 :: x2 :: some (.int v) :: t) (.int v :: st) h) ∧
  (∀ (v : Nat) (t : eL) (st : List Value) (h : eH), ru 111 45 (some (.ref v) :: t) st h = ru 111 46 (some (.ref v) :: t) (.ref v :: st) h) ∧
  (∀ (x0 x1 x2 : Option Value) (v : Int32) (t : eL) (st : List Value) (h : eH), ru 111 46 (x0 :: x1 :: x2 :: some (.int v) :: t) st h = ru 111 47 (x0 :: x1 :: x2 :: some (.int v) :: t) (.int v :: st) h) ∧
  (∀ (x0 x1 : Option Value) (v : Int32) (t : eL) (st : List Value) (h : eH), ru 111 47 (x0 :: x1 :: some (.int v) :: t) st h = ru 111 48 (x0 :: x1 :: some (.int v) :: t) (.int v :: st) h) ∧
  (∀ (a0 : Nat) (a1 : Int32) (a2 : Int32) (u0 : Int32) (u1 : Int32) (u2 : Nat) (ls : eL) (h : eH), ru 111 48 ls [.int a2, .int a1, .ref a0, .int u0, .int u1, .ref u2] h = cl (den 109 [.ref a0, .int a1, .int a2] h) (fun v h => ru 111 51 ls (v.toList ++ [.int u0, .int u1, .ref u2]) h)) ∧
  (∀ (a0 : Nat) (a1 : Int32) (a2 : Int32) (a3 : Int32) (ls : eL) (h : eH), ru 111 51 ls [.int a3, .int a2, .int a1, .ref a0] h = cl (den 110 [.ref a0, .int a1, .int a2, .int a3] h) (fun v h => ru 111 54 ls (v.toList ++ []) h)) ∧
  (∀ (x0 : Option Value) (v : Nat) (t : eL) (st : List Value) (h : eH), ru 111 54 (x0 :: some (.ref v) :: t) st h = ru 111 55 (x0 :: some (.ref v) :: t) (.ref v :: st) h) ∧
  (∀ (v : Nat) (t : eL) (st : List Value) (h : eH), ru 111 55 (some (.ref v) :: t) st h = ru 111 56 (some (.ref v) :: t) (.ref v :: st) h) ∧
  (∀ (v : Nat) (t : eL) (st : List Value) (h : eH), ru 111 56 (some (.ref v) :: t) st h = ru 111 57 (some (.ref v) :: t) (.ref v :: st) h) ∧
  (∀ (a : Nat) (ls : eL) (st : List Value) (h : eH), ru 111 57 ls (.ref a :: st) h = gF (h.1 a) 6 7 (fun v => ru 111 60 ls (v :: st) h)) ∧
  (∀ (x0 x1 x2 : Option Value) (v : Int32) (t : eL) (st : List Value) (h : eH), ru 111 60 (x0 :: x1 :: x2 :: some (.int v) :: t) st h = ru 111 61 (x0 :: x1 :: x2 :: some (.int v) :: t) (.int v :: st) h) ∧
  (∀ (i : Int32) (a : Nat) (ls : eL) (st : List Value) (h : eH), ru 111 61 ls (.int i :: .ref a :: st) h = aI (h.1 a) 0 i (fun v => ru 111 62 ls (.int v :: st) h)) ∧
  (∀ (x0 x1 : Option Value) (v : Int32) (t : eL) (st : List Value) (h : eH), ru 111 62 (x0 :: x1 :: some (.int v) :: t) st h = ru 111 63 (x0 :: x1 :: some (.int v) :: t) (.int v :: st) h) ∧
  (∀ (a0 : Nat) (a1 : Int32) (a2 : Int32) (u0 : Nat) (ls : eL) (h : eH), ru 111 63 ls [.int a2, .int a1, .ref a0, .ref u0] h = cl (den 108 [.ref a0, .int a1, .int a2] h) (fun v h => ru 111 66 ls (v.toList ++ [.ref u0]) h)) ∧
  (∀ (x0 x1 x2 : Option Value) (v : Int32) (t : eL) (st : List Value) (h : eH), ru 111 66 (x0 :: x1 :: x2 :: some (.int v) :: t) st h = ru 111 67 (x0 :: x1 :: x2 :: some (.int v) :: t) (.int v :: st) h) ∧
  (∀ (v : Nat) (t : eL) (st : List Value) (h : eH), ru 111 67 (some (.ref v) :: t) st h = ru 111 68 (some (.ref v) :: t) (.ref v :: st) h) ∧
  (∀ (x0 x1 x2 : Option Value) (v : Int32) (t : eL) (st : List Value) (h : eH), ru 111 68 (x0 :: x1 :: x2 :: some (.int v) :: t) st h = ru 111 69 (x0 :: x1 :: x2 :: some (.int v) :: t) (.int v :: st) h) ∧
  (∀ (x0 x1 : Option Value) (v : Int32) (t : eL) (st : List Value) (h : eH), ru 111 69 (x0 :: x1 :: some (.int v) :: t) st h = ru 111 70 (x0 :: x1 :: some (.int v) :: t) (.int v :: st) h) ∧
  (∀ (a0 : Nat) (a1 : Int32) (a2 : Int32) (u0 : Int32) (u1 : Int32) (u2 : Nat) (ls : eL) (h : eH), ru 111 70 ls [.int a2, .int a1, .ref a0, .int u0, .int u1, .ref u2] h = cl (den 109 [.ref a0, .int a1, .int a2] h) (fun v h => ru 111 73 ls (v.toList ++ [.int u0, .int u1, .ref u2]) h)) ∧
  (∀ (x : Int32) (ls : eL) (st : List Value) (h : eH), ru 111 73 ls (.int x :: st) h = ru 111 74 ls (.int (-x) :: st) h) ∧
  (∀ (a0 : Nat) (a1 : Int32) (a2 : Int32) (a3 : Int32) (ls : eL) (h : eH), ru 111 74 ls [.int a3, .int a2, .int a1, .ref a0] h = cl (den 110 [.ref a0, .int a1, .int a2, .int a3] h) (fun v h => ru 111 77 ls (v.toList ++ []) h)) ∧
  (∀ (x0 x1 x2 : Option Value) (v : Int32) (t : eL) (st : List Value) (h : eH), ru 111 77 (x0 :: x1 :: x2 :: some (.int v) :: t) st h = ru 111 80 (x0 :: x1 :: eKl x2 :: some (.int (v + 1)) :: t) st h) ∧
  (∀ (ls : eL) (st : List Value) (h : eH), ru 111 80 ls st h = ru 111 24 ls st h) ∧
  (∀ (x0 x1 x2 x3 : Option Value) (v : Int32) (t : eL) (st : List Value) (h : eH), ru 111 84 (x0 :: x1 :: x2 :: x3 :: t) (.int v :: st) h = ru 111 85 (x0 :: x1 :: eKl x2 :: some (.int v) :: t) st h) ∧
  (∀ (v : Nat) (t : eL) (st : List Value) (h : eH), ru 111 86 (some (.ref v) :: t) st h = ru 111 87 (some (.ref v) :: t) (.ref v :: st) h) ∧
  (∀ (a : Nat) (ls : eL) (st : List Value) (h : eH), ru 111 87 ls (.ref a :: st) h = gF (h.1 a) 6 0 (fun v => ru 111 90 ls (v :: st) h)) ∧
  (∀ (x y : Int32) (ls : eL) (st : List Value) (h : eH), ru 111 90 ls (.int y :: .int x :: st) h = if y ≤ x then ru 111 122 ls st h else ru 111 93 ls st h) ∧
  (∀ (x0 : Option Value) (v : Nat) (t : eL) (st : List Value) (h : eH), ru 111 93 (x0 :: some (.ref v) :: t) st h = ru 111 94 (x0 :: some (.ref v) :: t) (.ref v :: st) h) ∧
  (∀ (v : Nat) (t : eL) (st : List Value) (h : eH), ru 111 94 (some (.ref v) :: t) st h = ru 111 95 (some (.ref v) :: t) (.ref v :: st) h) ∧
  (∀ (x0 x1 x2 : Option Value) (v : Int32) (t : eL) (st : List Value) (h : eH), ru 111 95 (x0 :: x1 :: x2 :: some (.int v) :: t) st h = ru 111 96 (x0 :: x1 :: x2 :: some (.int v) :: t) (.int v :: st) h) ∧
  (∀ (x0 x1 : Option Value) (v : Int32) (t : eL) (st : List Value) (h : eH), ru 111 96 (x0 :: x1 :: some (.int v) :: t) st h = ru 111 97 (x0 :: x1 :: some (.int v) :: t) (.int v :: st) h) ∧
  (∀ (a0 : Nat) (a1 : Int32) (a2 : Int32) (u0 : Nat) (ls : eL) (h : eH), ru 111 97 ls [.int a2, .int a1, .ref a0, .ref u0] h = cl (den 108 [.ref a0, .int a1, .int a2] h) (fun v h => ru 111 100 ls (v.toList ++ [.ref u0]) h)) ∧
  (∀ (v : Nat) (t : eL) (st : List Value) (h : eH), ru 111 100 (some (.ref v) :: t) st h = ru 111 101 (some (.ref v) :: t) (.ref v :: st) h) ∧
  (∀ (a : Nat) (ls : eL) (st : List Value) (h : eH), ru 111 101 ls (.ref a :: st) h = gF (h.1 a) 6 2 (fun v => ru 111 104 ls (v :: st) h)) ∧
  (∀ (v : Nat) (t : eL) (st : List Value) (h : eH), ru 111 104 (some (.ref v) :: t) st h = ru 111 105 (some (.ref v) :: t) (.ref v :: st) h) ∧
  (∀ (a : Nat) (ls : eL) (st : List Value) (h : eH), ru 111 105 ls (.ref a :: st) h = gF (h.1 a) 6 4 (fun v => ru 111 108 ls (v :: st) h)) ∧
  (∀ (x0 x1 : Option Value) (v : Int32) (t : eL) (st : List Value) (h : eH), ru 111 108 (x0 :: x1 :: some (.int v) :: t) st h = ru 111 109 (x0 :: x1 :: some (.int v) :: t) (.int v :: st) h) ∧
  (∀ (i : Int32) (a : Nat) (ls : eL) (st : List Value) (h : eH), ru 111 109 ls (.int i :: .ref a :: st) h = aQ (h.1 a) i (fun v => ru 111 110 ls (.ref v :: st) h)) ∧
  (∀ (x0 x1 x2 : Option Value) (v : Int32) (t : eL) (st : List Value) (h : eH), ru 111 110 (x0 :: x1 :: x2 :: some (.int v) :: t) st h = ru 111 111 (x0 :: x1 :: x2 :: some (.int v) :: t) (.int v :: st) h) ∧
  (∀ (i : Int32) (a : Nat) (ls : eL) (st : List Value) (h : eH), ru 111 111 ls (.int i :: .ref a :: st) h = aI (h.1 a) 0 i (fun v => ru 111 112 ls (.int v :: st) h)) ∧
  (∀ (x : Int32) (ls : eL) (st : List Value) (h : eH), ru 111 112 ls (.int x :: st) h = ru 111 113 ls (.int (-x) :: st) h) ∧
  (∀ (a0 : Nat) (a1 : Int32) (a2 : Int32) (a3 : Int32) (ls : eL) (h : eH), ru 111 113 ls [.int a3, .int a2, .int a1, .ref a0] h = cl (den 110 [.ref a0, .int a1, .int a2, .int a3] h) (fun v h => ru 111 116 ls (v.toList ++ []) h)) ∧
  (∀ (x0 x1 x2 : Option Value) (v : Int32) (t : eL) (st : List Value) (h : eH), ru 111 116 (x0 :: x1 :: x2 :: some (.int v) :: t) st h = ru 111 119 (x0 :: x1 :: eKl x2 :: some (.int (v + 1)) :: t) st h) ∧
  (∀ (ls : eL) (st : List Value) (h : eH), ru 111 119 ls st h = ru 111 85 ls st h) ∧
  (∀ (ls : eL) (st : List Value) (h : eH), ru 111 125 ls st h = ru 111 17 ls st h) ∧
  (∀ (ls : eL) (h : eH), ru 111 128 ls [] h = some (none, h)) := ⟨fun x0 v t st h => ru_go rfl rfl,
  fun ls st h => ru_go rfl rfl,
  fun v t st h => ru_go rfl rfl,
  fun a ls st h => ru_getf rfl,
  fun x y ls st h => ru_go rfl rfl,
  fun v t st h => ru_go rfl rfl,
  fun a ls st h => ru_getf rfl,
  fun ls st h => ru_go rfl rfl,
  fun a0 a1 a2 a3 ls h => ru_inv rfl (by decide) rfl (Nat.le_of_ble_eq_true rfl),
  fun ls st h => ru_go rfl rfl,
  fun x0 x1 x2 v t st h => ru_go rfl rfl,
  fun ls st h => ru_go rfl rfl,
  fun x y ls st h => ru_if rfl rfl,
  fun ls st h => ru_go rfl rfl,
  fun x0 x1 x2 x3 v t st h => ru_go rfl rfl,
  fun v t st h => ru_go rfl rfl,
  fun a ls st h => ru_getf rfl,
  fun x y ls st h => ru_if rfl rfl,
  fun x0 v t st h => ru_go rfl rfl,
  fun v t st h => ru_go rfl rfl,
  fun v t st h => ru_go rfl rfl,
  fun a ls st h => ru_getf rfl,
  fun x0 x1 x2 v t st h => ru_go rfl rfl,
  fun i a ls st h => ru_iald rfl,
  fun x0 x1 v t st h => ru_go rfl rfl,
  fun a0 a1 a2 u0 ls h => ru_inv rfl (by decide) rfl (Nat.le_of_ble_eq_true rfl),
  fun x0 x1 x2 v t st h => ru_go rfl rfl,
  fun v t st h => ru_go rfl rfl,
  fun x0 x1 x2 v t st h => ru_go rfl rfl,
  fun x0 x1 v t st h => ru_go rfl rfl,
  fun a0 a1 a2 u0 u1 u2 ls h => ru_inv rfl (by decide) rfl (Nat.le_of_ble_eq_true rfl),
  fun a0 a1 a2 a3 ls h => ru_inv rfl (by decide) rfl (Nat.le_of_ble_eq_true rfl),
  fun x0 v t st h => ru_go rfl rfl,
  fun v t st h => ru_go rfl rfl,
  fun v t st h => ru_go rfl rfl,
  fun a ls st h => ru_getf rfl,
  fun x0 x1 x2 v t st h => ru_go rfl rfl,
  fun i a ls st h => ru_iald rfl,
  fun x0 x1 v t st h => ru_go rfl rfl,
  fun a0 a1 a2 u0 ls h => ru_inv rfl (by decide) rfl (Nat.le_of_ble_eq_true rfl),
  fun x0 x1 x2 v t st h => ru_go rfl rfl,
  fun v t st h => ru_go rfl rfl,
  fun x0 x1 x2 v t st h => ru_go rfl rfl,
  fun x0 x1 v t st h => ru_go rfl rfl,
  fun a0 a1 a2 u0 u1 u2 ls h => ru_inv rfl (by decide) rfl (Nat.le_of_ble_eq_true rfl),
  fun x ls st h => ru_go rfl rfl,
  fun a0 a1 a2 a3 ls h => ru_inv rfl (by decide) rfl (Nat.le_of_ble_eq_true rfl),
  fun x0 x1 x2 v t st h => ru_go rfl rfl,
  fun ls st h => ru_go rfl rfl,
  fun x0 x1 x2 x3 v t st h => ru_go rfl rfl,
  fun v t st h => ru_go rfl rfl,
  fun a ls st h => ru_getf rfl,
  fun x y ls st h => ru_if rfl rfl,
  fun x0 v t st h => ru_go rfl rfl,
  fun v t st h => ru_go rfl rfl,
  fun x0 x1 x2 v t st h => ru_go rfl rfl,
  fun x0 x1 v t st h => ru_go rfl rfl,
  fun a0 a1 a2 u0 ls h => ru_inv rfl (by decide) rfl (Nat.le_of_ble_eq_true rfl),
  fun v t st h => ru_go rfl rfl,
  fun a ls st h => ru_getf rfl,
  fun v t st h => ru_go rfl rfl,
  fun a ls st h => ru_getf rfl,
  fun x0 x1 v t st h => ru_go rfl rfl,
  fun i a ls st h => ru_aald rfl,
  fun x0 x1 x2 v t st h => ru_go rfl rfl,
  fun i a ls st h => ru_iald rfl,
  fun x ls st h => ru_go rfl rfl,
  fun a0 a1 a2 a3 ls h => ru_inv rfl (by decide) rfl (Nat.le_of_ble_eq_true rfl),
  fun x0 x1 x2 v t st h => ru_go rfl rfl,
  fun ls st h => ru_go rfl rfl,
  fun ls st h => ru_go rfl rfl,
  fun ls h => ru_ret rfl rfl⟩
theorem E111 (a0 : Nat) (a1 : Nat) {h : eH} {fs : List Value} (ha : h.1 a0 = .inr (6, fs)) : den 111 [.ref a0, .ref a1] h = ru 111 0 [some (.ref a0), some (.ref a1), none, none] [] h := den_ob (Nat.le_of_ble_eq_true rfl) ha
