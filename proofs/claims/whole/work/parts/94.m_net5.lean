/-! THE REFERENCE: net, whole -/
theorem eUp_ns : (∀ (h : eH) (e : va_E), (eUp h 244 e).1 245 = h.1 245) ∧ (∀ (h : eH) (e : va_E), (eUp h 244 e).1 246 = h.1 246) ∧ (∀ (h : eH) (e : va_E), (eUp h 244 e).1 247 = h.1 247) ∧ (∀ (h : eH) (e : va_E), (eUp h 244 e).1 248 = h.1 248) ∧ (∀ (h : eH) (e : va_E), (eUp h 244 e).1 249 = h.1 249) ∧ (∀ (h : eH) (e : va_E), (eUp h 244 e).1 250 = h.1 250) ∧ (∀ (h : eH) (e : va_E), (eUp h 244 e).1 251 = h.1 251) ∧ (∀ (h : eH) (e : va_E), (eUp h 244 e).1 252 = h.1 252) ∧ (∀ (h : eH) (e : va_E), (eUp h 244 e).1 256 = h.1 256) ∧ (∀ (h : eH) (e : va_E), (eUp h 245 e).1 244 = h.1 244) ∧ (∀ (h : eH) (e : va_E), (eUp h 245 e).1 246 = h.1 246) ∧ (∀ (h : eH) (e : va_E), (eUp h 245 e).1 247 = h.1 247) ∧ (∀ (h : eH) (e : va_E), (eUp h 245 e).1 248 = h.1 248) ∧ (∀ (h : eH) (e : va_E), (eUp h 245 e).1 249 = h.1 249) ∧ (∀ (h : eH) (e : va_E), (eUp h 245 e).1 250 = h.1 250) ∧ (∀ (h : eH) (e : va_E), (eUp h 245 e).1 251 = h.1 251) ∧ (∀ (h : eH) (e : va_E), (eUp h 245 e).1 252 = h.1 252) ∧ (∀ (h : eH) (e : va_E), (eUp h 245 e).1 256 = h.1 256) ∧ (∀ (h : eH) (e : va_E), (eUp h 246 e).1 244 = h.1 244) ∧ (∀ (h : eH) (e : va_E), (eUp h 246 e).1 245 = h.1 245) ∧ (∀ (h : eH) (e : va_E), (eUp h 246 e).1 247 = h.1 247) ∧ (∀ (h : eH) (e : va_E), (eUp h 246 e).1 248 = h.1 248) ∧ (∀ (h : eH) (e : va_E), (eUp h 246 e).1 249 = h.1 249) ∧ (∀ (h : eH) (e : va_E), (eUp h 246 e).1 250 = h.1 250) ∧ (∀ (h : eH) (e : va_E), (eUp h 246 e).1 251 = h.1 251) ∧ (∀ (h : eH) (e : va_E), (eUp h 246 e).1 252 = h.1 252) ∧ (∀ (h : eH) (e : va_E), (eUp h 246 e).1 256 = h.1 256) ∧ (∀ (h : eH) (e : va_E), (eUp h 247 e).1 244 = h.1 244) ∧ (∀ (h : eH) (e : va_E), (eUp h 247 e).1 245 = h.1 245) ∧ (∀ (h : eH) (e : va_E), (eUp h 247 e).1 246 = h.1 246) ∧ (∀ (h : eH) (e : va_E), (eUp h 247 e).1 248 = h.1 248) ∧ (∀ (h : eH) (e : va_E), (eUp h 247 e).1 249 = h.1 249) ∧ (∀ (h : eH) (e : va_E), (eUp h 247 e).1 250 = h.1 250) ∧ (∀ (h : eH) (e : va_E), (eUp h 247 e).1 251 = h.1 251) ∧ (∀ (h : eH) (e : va_E), (eUp h 247 e).1 252 = h.1 252) ∧ (∀ (h : eH) (e : va_E), (eUp h 247 e).1 256 = h.1 256) ∧ (∀ (h : eH) (e : va_E), (eUp h 248 e).1 244 = h.1 244) ∧ (∀ (h : eH) (e : va_E), (eUp h 248 e).1 245 = h.1 245) ∧ (∀ (h : eH) (e : va_E), (eUp h 248 e).1 246 = h.1 246) ∧ (∀ (h : eH) (e : va_E), (eUp h 248 e).1 247 = h.1 247) ∧ (∀ (h : eH) (e : va_E), (eUp h 248 e).1 249 = h.1 249) ∧ (∀ (h : eH) (e : va_E), (eUp h 248 e).1 250 = h.1 250) ∧ (∀ (h : eH) (e : va_E), (eUp h 248 e).1 251 = h.1 251) ∧ (∀ (h : eH) (e : va_E), (eUp h 248 e).1 252 = h.1 252) ∧ (∀ (h : eH) (e : va_E), (eUp h 248 e).1 256 = h.1 256) ∧ (∀ (h : eH) (e : va_E), (eUp h 249 e).1 244 = h.1 244) ∧ (∀ (h : eH) (e : va_E), (eUp h 249 e).1 245 = h.1 245) ∧ (∀ (h : eH) (e : va_E), (eUp h 249 e).1 246 = h.1 246) ∧ (∀ (h : eH) (e : va_E), (eUp h 249 e).1 247 = h.1 247) ∧ (∀ (h : eH) (e : va_E), (eUp h 249 e).1 248 = h.1 248) ∧ (∀ (h : eH) (e : va_E), (eUp h 249 e).1 250 = h.1 250) ∧ (∀ (h : eH) (e : va_E), (eUp h 249 e).1 251 = h.1 251) ∧ (∀ (h : eH) (e : va_E), (eUp h 249 e).1 252 = h.1 252) ∧ (∀ (h : eH) (e : va_E), (eUp h 249 e).1 256 = h.1 256) ∧ (∀ (h : eH) (e : va_E), (eUp h 250 e).1 244 = h.1 244) ∧ (∀ (h : eH) (e : va_E), (eUp h 250 e).1 245 = h.1 245) ∧ (∀ (h : eH) (e : va_E), (eUp h 250 e).1 246 = h.1 246) ∧ (∀ (h : eH) (e : va_E), (eUp h 250 e).1 247 = h.1 247) ∧ (∀ (h : eH) (e : va_E), (eUp h 250 e).1 248 = h.1 248) ∧ (∀ (h : eH) (e : va_E), (eUp h 250 e).1 249 = h.1 249) ∧ (∀ (h : eH) (e : va_E), (eUp h 250 e).1 251 = h.1 251) ∧ (∀ (h : eH) (e : va_E), (eUp h 250 e).1 252 = h.1 252) ∧ (∀ (h : eH) (e : va_E), (eUp h 250 e).1 256 = h.1 256) ∧ (∀ (h : eH) (e : va_E), (eUp h 251 e).1 244 = h.1 244) ∧ (∀ (h : eH) (e : va_E), (eUp h 251 e).1 245 = h.1 245) ∧ (∀ (h : eH) (e : va_E), (eUp h 251 e).1 246 = h.1 246) ∧ (∀ (h : eH) (e : va_E), (eUp h 251 e).1 247 = h.1 247) ∧ (∀ (h : eH) (e : va_E), (eUp h 251 e).1 248 = h.1 248) ∧ (∀ (h : eH) (e : va_E), (eUp h 251 e).1 249 = h.1 249) ∧ (∀ (h : eH) (e : va_E), (eUp h 251 e).1 250 = h.1 250) ∧ (∀ (h : eH) (e : va_E), (eUp h 251 e).1 252 = h.1 252) ∧ (∀ (h : eH) (e : va_E), (eUp h 251 e).1 256 = h.1 256) ∧ (∀ (h : eH) (e : va_E), (eUp h 252 e).1 244 = h.1 244) ∧ (∀ (h : eH) (e : va_E), (eUp h 252 e).1 245 = h.1 245) ∧ (∀ (h : eH) (e : va_E), (eUp h 252 e).1 246 = h.1 246) ∧ (∀ (h : eH) (e : va_E), (eUp h 252 e).1 247 = h.1 247) ∧ (∀ (h : eH) (e : va_E), (eUp h 252 e).1 248 = h.1 248) ∧ (∀ (h : eH) (e : va_E), (eUp h 252 e).1 249 = h.1 249) ∧ (∀ (h : eH) (e : va_E), (eUp h 252 e).1 250 = h.1 250) ∧ (∀ (h : eH) (e : va_E), (eUp h 252 e).1 251 = h.1 251) ∧ (∀ (h : eH) (e : va_E), (eUp h 252 e).1 256 = h.1 256) := by
  refine ⟨?_, ?_, ?_, ?_, ?_, ?_, ?_, ?_, ?_, ?_, ?_, ?_, ?_, ?_, ?_, ?_, ?_, ?_, ?_, ?_, ?_, ?_, ?_, ?_, ?_, ?_, ?_, ?_, ?_, ?_, ?_, ?_, ?_, ?_, ?_, ?_, ?_, ?_, ?_, ?_, ?_, ?_, ?_, ?_, ?_, ?_, ?_, ?_, ?_, ?_, ?_, ?_, ?_, ?_, ?_, ?_, ?_, ?_, ?_, ?_, ?_, ?_, ?_, ?_, ?_, ?_, ?_, ?_, ?_, ?_, ?_, ?_, ?_, ?_, ?_, ?_, ?_, ?_, ?_, ?_, ?_⟩ <;> intro h e <;> exact eUp_ne (by decide)
theorem snoc {α : Type} {f v : Nat → α} {j : Nat} {z : α} (x : ∀ i, i < j → f i = v i) (hz : z = v j) : ∀ i, i < j + 1 → (fun i => if i = j then z else f i) i = v i := fun i hi => by
  dsimp only
  by_cases q : i = j
  · rw [if_pos q, q, hz]
  · rw [if_neg q]; exact x i (by omega)
section NE5
variable {h : eH} {jt mb hi wi rk co : Int32} {ro : Nat → Int32} {s : SC} {R : Nat → Int} {f : Nat → Int32} {sl k at' : Nat} {x7 x8 x9 x10 x11 : Option Value} {num : Nat → Int64}
def XJ (h : eH) (k : Nat) (num : Nat → Int64) (j : Nat) : Prop := AR h 244 8 j (fun i => iI (rdP k num 0 i)) ∧ AR h 245 8 j (fun i => iI (rdP k num 1 i)) ∧ (∃ f, h.1 246 = .inl (2, 8, .inl f) ∧ ∀ i, i < j → f i = ldI (rdF k num i)) ∧ AR h 247 8 j (fun _ => iI 0) ∧ AR h 248 8 j (fun _ => iI 0)
def XM (h : eH) (k : Nat) (num : Nat → Int64) (m : Nat) : Prop := AR h 249 14 m (fun i => nI (rdA k num (tM k num i))) ∧ AR h 250 14 m (fun i => nI (rdB k num (tM k num i))) ∧ AR h 251 14 m (fun i => nI (rdS k num (tM k num i))) ∧ AR h 252 14 m (fun _ => iI 0)
theorem n66_sj : ∀ r j h, j + r = rdJ k num → h.1 256 = .inl (0, 60, .inl f) → (∀ i, i < rdJ k num → FJn k num f i) → XJ h k num j → ∃ h', ru 66 454 (LL sl k at' (rdJ k num) (rdM k num) (some (.int (nI j))) x7 x8 x9 x10 x11) [] (hK h jt mb hi wi rk co ro R s) = ru 66 546 (LL sl k at' (rdJ k num) (rdM k num) (some (.int (nI (rdJ k num)))) x7 x8 x9 x10 x11) [] (hK h' jt mb hi wi rk co ro R s) ∧ h'.2 = h.2 ∧ (∀ i, ¬ (244 ≤ i ∧ i ≤ 248) → h'.1 i = h.1 i) ∧ XJ h' k num (rdJ k num) := by
  have hJ := rdJ_bd k num
  intro r
  induction r with
  | zero =>
    intro j h hj e fj x
    have e0 : j = rdJ k num := by omega
    rw [e0] at x ⊢
    refine ⟨h, ?_, rfl, fun _ _ => rfl, x⟩
    unfold LL
    rw [H66_454]
    simp only [S66, gFs, pFs, okq, bls, bo_true, eUp_at, eUp_eUp, eKls, cl_some, Option.toList_some, Option.toList_none, List.cons_append, List.nil_append]
    rw [if_pos (nI_le (Nat.le_refl _) (by omega))]
  | succ r ih =>
    intro j h hj e fj x
    obtain ⟨⟨f1, a1, a1'⟩, ⟨f2, a2, a2'⟩, ⟨f3, a3, a3'⟩, ⟨f4, a4, a4'⟩, ⟨f5, a5, a5'⟩⟩ := x
    obtain ⟨q1, q2, q3⟩ := fj j (by omega)
    obtain ⟨h5, hh5⟩ : ∃ h5, h5 = eUp (eUp (eUp (eUp (eUp h 244 (.inl (0, 8, .inl (upd f1 j (iI (rdP k num 0 j)))))) 245 (.inl (0, 8, .inl (upd f2 j (iI (rdP k num 1 j)))))) 246 (.inl (2, 8, .inl (upd f3 j (ldI (rdF k num j)))))) 247 (.inl (0, 8, .inl (upd f4 j (nI 0))))) 248 (.inl (0, 8, .inl (upd f5 j (nI 0)))) := ⟨_, rfl⟩
    have kp : ∀ i, ¬ (244 ≤ i ∧ i ≤ 248) → h5.1 i = h.1 i := fun i hi' => by rw [hh5, eUp_ne (by omega), eUp_ne (by omega), eUp_ne (by omega), eUp_ne (by omega), eUp_ne (by omega)]
    have x5 : XJ h5 k num (j + 1) := by
      rw [hh5]
      refine ⟨⟨_, by rw [eUp_ne (by decide), eUp_ne (by decide), eUp_ne (by decide), eUp_ne (by decide), eUp_at], ?_⟩, ⟨_, by rw [eUp_ne (by decide), eUp_ne (by decide), eUp_ne (by decide), eUp_at], ?_⟩, ⟨_, by rw [eUp_ne (by decide), eUp_ne (by decide), eUp_at], ?_⟩, ⟨_, by rw [eUp_ne (by decide), eUp_at], ?_⟩, ⟨_, by rw [eUp_at], ?_⟩⟩
      · exact snoc a1' rfl
      · exact snoc a2' rfl
      · exact snoc a3' rfl
      · exact snoc a4' rfl
      · exact snoc a5' rfl
    obtain ⟨h', z1, z2, z3, z4⟩ := ih (j + 1) h5 (by omega) ((kp 256 (by decide)).trans e) fj x5
    refine ⟨h', ?_, z2.trans (by rw [hh5]; rfl), fun i hi' => (z3 i hi').trans (kp i hi'), z4⟩
    rw [← z1]
    unfold LL
    have i1 : nI 1 + nI 3 * nI j = nI (1 + 3 * j) := by rw [nI_mul, nI_add]
    have i2 : nI 2 + nI 3 * nI j = nI (2 + 3 * j) := by rw [nI_mul, nI_add]
    have i3 : nI 3 + nI 3 * nI j = nI (3 + 3 * j) := by rw [nI_mul, nI_add]
    rw [H66_454]
    simp only [S66, gFs, pFs, okq, bls, bo_true, eUp_at, eUp_eUp, eKls, cl_some, Option.toList_some, Option.toList_none, List.cons_append, List.nil_append, hK_o, hK_hs, hK_us, eUp_ns, e, a1, a2, a3, a4, a5, i1, i2, i3, aI_nI (tg := 0) (n := 60) (j := 1 + 3 * j) (by omega) (by decide), aI_nI (tg := 0) (n := 60) (j := 2 + 3 * j) (by omega) (by decide), aI_nI (tg := 0) (n := 60) (j := 3 + 3 * j) (by omega) (by decide), q1, q2, q3, wI_nI (n := 8) (j := j) (by omega) (by decide), wZ_nI (n := 8) (j := j) (by omega) (by decide)]
    rw [if_neg (nI_ge (by omega) (by omega)), hh5]
    cases hf : rdF k num j with
    | true => rw [if_pos (show ldI true = nI 1 from rfl), nI_1]; rfl
    | false => rw [if_neg (show ¬ ldI false = nI 1 by decide), nI_1]; rfl
theorem n66_sm : ∀ r m h, m + r = rdM k num → h.1 256 = .inl (0, 60, .inl f) → (∀ i, i < rdM k num → FMn k num f i) → XM h k num m → 2 + 3 * rdJ k num + 3 * rdM k num ≤ 60 → ∃ h', ru 66 555 (LL sl k at' (rdJ k num) (rdM k num) (some (.int (nI m))) x7 x8 x9 x10 x11) [] (hK h jt mb hi wi rk co ro R s) = some (some (.int (nI (rdM k num))), hK h' jt mb hi wi rk co ro R s) ∧ h'.2 = h.2 ∧ (∀ i, ¬ (249 ≤ i ∧ i ≤ 252) → h'.1 i = h.1 i) ∧ XM h' k num (rdM k num) := by
  have hJ := rdJ_bd k num
  have hM := rdM_bd k num
  intro r
  induction r with
  | zero =>
    intro m h hm e fm x _
    have e0 : m = rdM k num := by omega
    rw [e0] at x ⊢
    refine ⟨h, ?_, rfl, fun _ _ => rfl, x⟩
    unfold LL
    rw [H66_555]
    simp only [S66, gFs, pFs, okq, bls, bo_true, eUp_at, eUp_eUp, eKls, cl_some, Option.toList_some, Option.toList_none, List.cons_append, List.nil_append]
    rw [if_pos (nI_le (Nat.le_refl _) (by omega)), H66_645]
    simp only [S66, gFs, pFs, okq, bls, bo_true, eUp_at, eUp_eUp, eKls, cl_some, Option.toList_some, Option.toList_none, List.cons_append, List.nil_append]
  | succ r ih =>
    intro m h hm e fm x h60
    obtain ⟨⟨f1, a1, a1'⟩, ⟨f2, a2, a2'⟩, ⟨f3, a3, a3'⟩, ⟨f4, a4, a4'⟩⟩ := x
    obtain ⟨q1, q2, q3⟩ := fm m (by omega)
    obtain ⟨h5, hh5⟩ : ∃ h5, h5 = eUp (eUp (eUp (eUp h 249 (.inl (0, 14, .inl (upd f1 m (nI (rdA k num (tM k num m))))))) 250 (.inl (0, 14, .inl (upd f2 m (nI (rdB k num (tM k num m))))))) 251 (.inl (0, 14, .inl (upd f3 m (nI (rdS k num (tM k num m))))))) 252 (.inl (0, 14, .inl (upd f4 m (nI 0)))) := ⟨_, rfl⟩
    have kp : ∀ i, ¬ (249 ≤ i ∧ i ≤ 252) → h5.1 i = h.1 i := fun i hi' => by rw [hh5, eUp_ne (by omega), eUp_ne (by omega), eUp_ne (by omega), eUp_ne (by omega)]
    have x5 : XM h5 k num (m + 1) := by
      rw [hh5]
      refine ⟨⟨_, by rw [eUp_ne (by decide), eUp_ne (by decide), eUp_ne (by decide), eUp_at], ?_⟩, ⟨_, by rw [eUp_ne (by decide), eUp_ne (by decide), eUp_at], ?_⟩, ⟨_, by rw [eUp_ne (by decide), eUp_at], ?_⟩, ⟨_, by rw [eUp_at], ?_⟩⟩
      · exact snoc a1' rfl
      · exact snoc a2' rfl
      · exact snoc a3' rfl
      · exact snoc a4' rfl
    obtain ⟨h', z1, z2, z3, z4⟩ := ih (m + 1) h5 (by omega) ((kp 256 (by decide)).trans e) fm x5 h60
    refine ⟨h', ?_, z2.trans (by rw [hh5]; rfl), fun i hi' => (z3 i hi').trans (kp i hi'), z4⟩
    rw [← z1]
    unfold LL
    have i1 : nI 2 + nI 3 * nI (rdJ k num) + nI 3 * nI m = nI (2 + 3 * rdJ k num + 3 * m) := by rw [nI_mul, nI_mul, nI_add, nI_add]
    have i2 : nI 3 + nI 3 * nI (rdJ k num) + nI 3 * nI m = nI (3 + 3 * rdJ k num + 3 * m) := by rw [nI_mul, nI_mul, nI_add, nI_add]
    have i3 : nI 4 + nI 3 * nI (rdJ k num) + nI 3 * nI m = nI (4 + 3 * rdJ k num + 3 * m) := by rw [nI_mul, nI_mul, nI_add, nI_add]
    rw [H66_555]
    simp only [S66, gFs, pFs, okq, bls, bo_true, eUp_at, eUp_eUp, eKls, cl_some, Option.toList_some, Option.toList_none, List.cons_append, List.nil_append, hK_o, hK_hs, hK_us, eUp_ns, e, a1, a2, a3, a4, i1, i2, i3, aI_nI (tg := 0) (n := 60) (j := 2 + 3 * rdJ k num + 3 * m) (by omega) (by decide), aI_nI (tg := 0) (n := 60) (j := 3 + 3 * rdJ k num + 3 * m) (by omega) (by decide), aI_nI (tg := 0) (n := 60) (j := 4 + 3 * rdJ k num + 3 * m) (by omega) (by decide), q1, q2, q3, wI_nI (n := 14) (j := m) (by omega) (by decide)]
    rw [if_neg (nI_ge (by omega) (by omega)), hh5, nI_1]
theorem AR.zero {h : eH} {i L j : Nat} {v w : Nat → Int32} (x : AR h i L j v) : AR h i L 0 w := by
  obtain ⟨f, e, -⟩ := x
  exact ⟨f, e, fun i hi => absurd hi (Nat.not_lt_zero _)⟩
theorem rd_len (h0 : rdR k num = 0) : 2 + 3 * rdJ k num + 3 * rdM k num ≤ k := by
  have a : ∀ m, m ≤ rdM k num → (tM k num m).2 = 0 := fun m hm => by
    by_cases q : (tM k num m).2 = 0
    · exact q
    · have := rdR_M hm q
      rw [h0] at this
      exact this.symm
  have aj : ∀ j, j ≤ rdJ k num → (tJ k num j).2 = 0 := fun j hj => by
    by_cases q : (tJ k num j).2 = 0
    · exact q
    · have := rdR_J hj q
      rw [h0] at this
      exact this.symm
  have nxk : ∀ (lo hi : Int) (t : Nat × Int), (nx k num lo hi t).2.2 = 0 → t.2 = 0 ∧ (nx k num lo hi t).2.1 = t.1 + 1 ∧ t.1 < k := by
    intro lo hi t ht
    unfold nx at ht ⊢
    by_cases q : t.2 ≠ 0
    · rw [if_pos q] at ht
      exact absurd ht q
    · rw [if_neg q] at ht ⊢
      by_cases q2 : k ≤ t.1
      · rw [if_pos q2] at ht
        exact absurd ht (show ¬ (-6 : Int) = 0 by decide)
      · rw [if_neg q2] at ht ⊢
        by_cases q3 : (num t.1).toInt < lo ∨ hi < (num t.1).toInt
        · rw [if_pos q3] at ht
          exact absurd ht (show ¬ (-4 : Int) = 0 by decide)
        · rw [if_neg q3]
          exact ⟨by omega, rfl, by omega⟩
  have J1 : ∀ j, j ≤ rdJ k num → (tJ k num j).1 = 1 + 3 * j := by
    intro j
    induction j with
    | zero =>
      intro hj
      exact (nxk 1 8 (0, 0) (aj 0 hj)).2.1
    | succ j ih =>
      intro hj
      have e := aj (j + 1) hj
      have e1 := nxk 0 1 (nx k num (-20) 20 (nx k num (-20) 20 (tJ k num j)).2).2 e
      have e2 := nxk (-20) 20 (nx k num (-20) 20 (tJ k num j)).2 e1.1
      have e3 := nxk (-20) 20 (tJ k num j) e2.1
      have e4 := ih (by omega)
      show (nx k num 0 1 (nx k num (-20) 20 (nx k num (-20) 20 (tJ k num j)).2).2).2.1 = _
      omega
  have M0 : (tM k num 0).1 = 2 + 3 * rdJ k num ∧ (tM k num 0).1 ≤ k := by
    have e := nxk 0 14 (tJ k num (rdJ k num)) (a 0 (Nat.zero_le _))
    have e1 := J1 (rdJ k num) (Nat.le_refl _)
    show (nx k num 0 14 (tJ k num (rdJ k num))).2.1 = _ ∧ (nx k num 0 14 (tJ k num (rdJ k num))).2.1 ≤ k
    omega
  have M1 : ∀ m, m ≤ rdM k num → (tM k num m).1 = 2 + 3 * rdJ k num + 3 * m ∧ (tM k num m).1 ≤ k := by
    intro m
    induction m with
    | zero => intro _; exact ⟨by rw [M0.1, Nat.mul_zero, Nat.add_zero], M0.2⟩
    | succ m ih =>
      intro hm
      have e := nxk 0 2 (rdT k num (tM k num m)) (a (m + 1) hm)
      have e4 := ih (by omega)
      have et : rdT k num (tM k num m) = (nx k num 0 ((rdJ k num : Int) - 1) (nx k num 0 ((rdJ k num : Int) - 1) (tM k num m)).2).2 := by
        have e1 := e.1
        unfold rdT at e1 ⊢
        by_cases q : rdP k num 0 (rdB k num (tM k num m)) - rdP k num 0 (rdA k num (tM k num m)) = 0 ∧ rdP k num 1 (rdB k num (tM k num m)) - rdP k num 1 (rdA k num (tM k num m)) = 0
        · rw [if_pos q] at e1 ⊢
          unfold rfs at e1 ⊢
          by_cases q2 : (nx k num 0 ((rdJ k num : Int) - 1) (nx k num 0 ((rdJ k num : Int) - 1) (tM k num m)).2).2.2 = 0
          · rw [if_pos q2] at e1
            exact absurd e1 (show ¬ (-4 : Int) = 0 by decide)
          · rw [if_neg q2]
        · rw [if_neg q]
      rw [et] at e
      have e2 := nxk 0 ((rdJ k num : Int) - 1) (nx k num 0 ((rdJ k num : Int) - 1) (tM k num m)).2 e.1
      have e3 := nxk 0 ((rdJ k num : Int) - 1) (tM k num m) e2.1
      show (nx k num 0 2 (rdT k num (tM k num m))).2.1 = _ ∧ (nx k num 0 2 (rdT k num (tM k num m))).2.1 ≤ k
      rw [et]
      omega
  have := M1 (rdM k num) (Nat.le_refl _)
  omega
theorem r66 {g : SG} {sl : Int} (mi : MI h g) (ks : iok sl) : ∃ h', den 66 [.ref 239, .int (iI sl)] h = some (some (.int (iI (netR g.1 sl))), h') ∧ FJ h h' ∧ MI h' (netS g sl) := by
  obtain ⟨b0, b1, hv0, sv0⟩ := mi.b
  by_cases q0 : 0 ≤ sl ∧ sl < 8
  · obtain ⟨sn, hsn⟩ : ∃ z : Nat, sl = z := ⟨sl.toNat, by omega⟩
    subst hsn
    cases hq' : g.1.1 sn with
    | none =>
      have hr : netR g.1 sn = -5 := by unfold netR; rw [if_neg (fun e => e q0), Int.toNat_natCast, hq']
      have hS' : netS g sn = g := by unfold netS; rw [if_neg (fun e => e q0), Int.toNat_natCast, hq']
      rw [hr, hS']
      refine mi.lift (t := g.2.2) b0 b1 (fun hi wi rk co ro R s r0 r1 mn hv ms => ?_)
      obtain ⟨⟨f1, a1, a1'⟩, a2, f3, a3, a3'⟩ := ms
      have g1 : f1 sn = nI 0 := (a1' sn (by omega)).trans (by show nI (enO (g.1.1 sn)) = nI 0; rw [hq']; rfl)
      rw [E66 239 _ hK_o]
      simp only [S66, gFs, pFs, okq, bls, bo_true, eUp_at, eUp_eUp, eKls, cl_some, Option.toList_some, Option.toList_none, List.cons_append, List.nil_append, m57n (show sn < 8 by omega), hK_o, hK_hs, a1, show iI (sn : Int) = nI sn from rfl, aI_nI (tg := 0) (n := 8) (j := sn) (by omega) (by decide), g1]
      rw [if_neg (show ¬ ldI true = 0 by decide), if_pos (by decide)]
      exact RT.fin r0 r1
    | some k =>
      have hz := (sv0 sn (by omega)).2 k hq'
      have sz : szo g.1 sn = k := by unfold szo; rw [hq']; rfl
      have head : ∀ hi wi rk co ro R s, MSl h g.1 → MRw h → ∃ f0, den 66 [.ref 239, .int (iI (sn : Int))] (hK h (nI (nJ g.2.1)) (nI (nM g.2.1)) hi wi rk co ro R s) = ru 66 39 (LL sn k 0 0 0 none none none none none none) [] (hK (hq h f0) (nI (nJ g.2.1)) (nI (nM g.2.1)) hi wi rk co ro R s) ∧ NU h sn k (g.1.2.2 sn) := by
        intro hi wi rk co ro R s ms mr
        obtain ⟨⟨f1, a1, a1'⟩, a2, f3, a3, a3'⟩ := ms
        obtain ⟨f0, hf0⟩ := mr
        have g1 : f1 sn = nI (k + 1) := (a1' sn (by omega)).trans (by show nI (enO (g.1.1 sn)) = nI (k + 1); rw [hq']; rfl)
        refine ⟨f0, ?_, f3, a3, fun i hi' => a3' sn i (by omega) (by omega)⟩
        have e0 : hq h f0 = h := eUp_id hf0
        rw [e0]
        unfold LL
        rw [E66 239 _ hK_o]
        simp only [S66, gFs, pFs, okq, bls, bo_true, eUp_at, eUp_eUp, eKls, cl_some, Option.toList_some, Option.toList_none, List.cons_append, List.nil_append, m57n (show sn < 8 by omega), hK_o, hK_hs, a1, show iI (sn : Int) = nI sn from rfl, aI_nI (tg := 0) (n := 8) (j := sn) (by omega) (by decide), g1, nI_sub1]
        rw [if_neg (show ¬ ldI true = 0 by decide), if_neg (nI_ne0 (by omega) (by omega))]
      by_cases hr0 : rdR k (g.1.2.2 sn) = 0
      · have hr : netR g.1 sn = (rdM k (g.1.2.2 sn) : Int) := by unfold netR; rw [if_neg (fun e => e q0), Int.toNat_natCast, hq']; dsimp only; rw [if_pos hr0]
        have hS' : netS g sn = (g.1, rdN k (g.1.2.2 sn), g.2.2) := by unfold netS; rw [if_neg (fun e => e q0), Int.toNat_natCast, hq']; dsimp only; rw [if_pos hr0]
        rw [hr, hS']
        refine mi.lift2 (g' := (g.1, rdN k (g.1.2.2 sn), g.2.2)) b0 b1 (rdN_nv hr0) sv0 (fun hi wi rk co ro R s r0 r1 mn hv ms sv mr => ?_)
        obtain ⟨f0, e1, nu⟩ := head hi wi rk co ro R s ms mr
        have len := rd_len hr0
        rcases n66_rd (h := h) (jt := nI (nJ g.2.1)) (mb := nI (nM g.2.1)) (hi := hi) (wi := wi) (rk := rk) (co := co) (ro := ro) (s := s) (R := R) (f := f0) nu (show sn < 8 by omega) hz with ⟨-, f', y6, y7, y8, y9, y10, y11, e2, fj, fm⟩ | b
        · obtain ⟨x1, x2, ⟨f3, x3, -⟩, x4, x5, x6, x7, x8, x9⟩ := mn
          have x0 : XJ (hq h f') k (g.1.2.2 sn) 0 := ⟨x1.zero.keep (hq_ne (by decide)), x2.zero.keep (hq_ne (by decide)), ⟨f3, (hq_ne (by decide)).trans x3, fun i hi => absurd hi (Nat.not_lt_zero _)⟩, x4.zero.keep (hq_ne (by decide)), x5.zero.keep (hq_ne (by decide))⟩
          obtain ⟨h1, e3, s1, k1, j1⟩ := n66_sj (jt := nI (rdJ k (g.1.2.2 sn))) (mb := nI (nM g.2.1)) (hi := hi) (wi := wi) (rk := rk) (co := co) (ro := ro) (s := s) (R := R) (f := f') (sl := sn) (at' := 2 + 3 * rdJ k (g.1.2.2 sn) + 3 * rdM k (g.1.2.2 sn)) (x7 := y7) (x8 := y8) (x9 := y9) (x10 := y10) (x11 := y11) (rdJ k (g.1.2.2 sn)) 0 (hq h f') (by omega) (hq_at h f') fj x0
          have k1' : ∀ i, i ≠ 256 → ¬ (244 ≤ i ∧ i ≤ 248) → h1.1 i = h.1 i := fun i i1 i2 => (k1 i i2).trans (hq_ne i1)
          have x0' : XM h1 k (g.1.2.2 sn) 0 := ⟨x6.zero.keep (k1' _ (by decide) (by decide)), x7.zero.keep (k1' _ (by decide) (by decide)), x8.zero.keep (k1' _ (by decide) (by decide)), x9.zero.keep (k1' _ (by decide) (by decide))⟩
          obtain ⟨h2, e4, s2, k2, m2⟩ := n66_sm (jt := nI (rdJ k (g.1.2.2 sn))) (mb := nI (rdM k (g.1.2.2 sn))) (hi := hi) (wi := wi) (rk := rk) (co := co) (ro := ro) (s := s) (R := R) (f := f') (sl := sn) (at' := 2 + 3 * rdJ k (g.1.2.2 sn) + 3 * rdM k (g.1.2.2 sn)) (x7 := y7) (x8 := y8) (x9 := y9) (x10 := y10) (x11 := y11) (rdM k (g.1.2.2 sn)) 0 h1 (by omega) ((k1 256 (by decide)).trans (hq_at h f')) fm x0' (by omega)
          have k2' : ∀ i, i ≠ 256 → ¬ (244 ≤ i ∧ i ≤ 252) → h2.1 i = h.1 i := fun i i1 i2 => (k2 i (by omega)).trans (k1' i i1 (by omega))
          have fin : den 66 [.ref 239, .int (iI (sn : Int))] (hK h (nI (nJ g.2.1)) (nI (nM g.2.1)) hi wi rk co ro R s) = some (some (.int (nI (rdM k (g.1.2.2 sn)))), hK h2 (nI (rdJ k (g.1.2.2 sn))) (nI (rdM k (g.1.2.2 sn))) hi wi rk co ro R s) := by
            rw [e1, e2, ← e4]
            unfold LL at e3 ⊢
            rw [H66_445]
            simp only [S66, gFs, pFs, okq, bls, bo_true, eUp_at, eUp_eUp, eKls, cl_some, Option.toList_some, Option.toList_none, List.cons_append, List.nil_append, hK_o, hK_uo]
            rw [e3, H66_546]
            simp only [S66, gFs, pFs, okq, bls, bo_true, eUp_at, eUp_eUp, eKls, cl_some, Option.toList_some, Option.toList_none, List.cons_append, List.nil_append, hK_o, hK_uo]
          rw [fin]
          refine RT2.fin (g := (g.1, rdN k (g.1.2.2 sn), g.2.2)) ⟨s2.trans s1, fun i hi' => k2' i (by omega) (by omega)⟩ ?_ (ms.keep (fun i i1 i2 => k2' i (by omega) (by omega))) ⟨f', ((k2 256 (by decide)).trans (k1 256 (by decide))).trans (hq_at h f')⟩ r0 r1
          obtain ⟨j1a, j1b, ⟨f3', j1c, j1d⟩, j1e, j1f⟩ := j1
          obtain ⟨m2a, m2b, m2c, m2d⟩ := m2
          exact ⟨j1a.keep (k2 _ (by decide)), j1b.keep (k2 _ (by decide)), ⟨f3', (k2 _ (by decide)).trans j1c, j1d⟩, j1e.keep (k2 _ (by decide)), j1f.keep (k2 _ (by decide)), m2a, m2b, m2c, m2d⟩
        · exact absurd hr0 b.1
      · have hr : netR g.1 sn = rdR k (g.1.2.2 sn) := by unfold netR; rw [if_neg (fun e => e q0), Int.toNat_natCast, hq']; dsimp only; rw [if_neg hr0]
        have hS' : netS g sn = (g.1, g.2.1, g.2.2) := by unfold netS; rw [if_neg (fun e => e q0), Int.toNat_natCast, hq']; dsimp only; rw [if_neg hr0]
        rw [hr, hS']
        refine mi.lift2 (g' := (g.1, g.2.1, g.2.2)) b0 b1 hv0 sv0 (fun hi wi rk co ro R s r0 r1 mn hv ms sv mr => ?_)
        obtain ⟨f0, e1, nu⟩ := head hi wi rk co ro R s ms mr
        rcases n66_rd (h := h) (jt := nI (nJ g.2.1)) (mb := nI (nM g.2.1)) (hi := hi) (wi := wi) (rk := rk) (co := co) (ro := ro) (s := s) (R := R) (f := f0) nu (show sn < 8 by omega) hz with ⟨z, -⟩ | ⟨-, f', e2⟩
        · exact absurd z hr0
        · rw [e1, e2]
          exact RT2.fin (g := (g.1, g.2.1, g.2.2)) (FJ.up (by decide) h) (mn.keep (fun i i1 i2 => hq_ne (by omega))) (ms.keep (fun i i1 i2 => hq_ne (by omega))) ⟨f', hq_at h f'⟩ r0 r1
  · have hr : netR g.1 sl = -2 := by unfold netR; rw [if_pos q0]
    have hS' : netS g sl = g := by unfold netS; rw [if_pos q0]
    rw [hr, hS']
    refine mi.lift (t := g.2.2) b0 b1 (fun hi wi rk co ro R s r0 r1 mn hv ms => ?_)
    rw [E66 239 _ hK_o]
    simp only [S66, gFs, pFs, okq, bls, bo_true, eUp_at, eUp_eUp, eKls, cl_some, Option.toList_some, Option.toList_none, List.cons_append, List.nil_append, m57 ks]
    rw [decide_eq_false q0, if_pos (show ldI false = 0 by decide)]
    exact RT.fin r0 r1
end NE5
