/-! THE REFERENCE: its constructor -/
theorem nIneg2 {n : Nat} (h1 : ¬ nI n < 0) (h2 : ¬ 1000000 < n) : ¬ (nI n < 0 ∨ 1000000 < n) := fun e => e.elim h1 h2
def ob0 : va_E := .inr (11, [.null, .null, .null, .null, .int 0, .null, .null, .null, .null, .null, .int 0, .null, .null, .null, .null, .null, .null, .null, .null, .int 0, .int 0, .int 0, .null, .int 0])
theorem d53a {h : eH} (ha : h.1 239 = ob0) (hc : h.2.1 = 240) : ∃ x, den 53 [.ref 239] h = ru 53 155 [some (.ref 239)] [] x ∧ x.2.1 = 258 ∧ x.2.2 = h.2.2 + 10629 ∧ (∀ i, i < 239 → x.1 i = h.1 i) ∧ x = hK x (nI 1) 0 0 0 0 0 (fun _ => 0) (fun _ => 0) (fun _ => 0, fun _ => 0, fun _ => 0) ∧ AR x 241 8 8 (fun _ => 0) ∧ AR x 242 8 8 (fun _ => 0) ∧ (∃ f, x.1 243 = .inl (1, 480, .inr (.inl f))) ∧ AR x 244 8 8 (fun _ => 0) ∧ AR x 245 8 8 (fun _ => 0) ∧ (∃ f, x.1 246 = .inl (2, 8, .inl f) ∧ ∀ j, j < 8 → f j = 0) ∧ AR x 247 8 8 (fun _ => 0) ∧ AR x 248 8 8 (fun _ => 0) ∧ AR x 249 14 14 (fun _ => 0) ∧ AR x 250 14 14 (fun _ => 0) ∧ AR x 251 14 14 (fun _ => 0) ∧ AR x 252 14 14 (fun _ => 0) ∧ MRw x := by
  unfold ob0 at ha
  have s0 : h.2.2 = h.2.2 + 0 := rfl
  obtain ⟨h1, hh1⟩ : ∃ x, x = eUp (nw h (.inl (1, 9888, .inr (.inl (fun _ => 0)))) 9888) 239 (.inr (11, [.ref 240, .null, .null, .null, .int 0, .null, .null, .null, .null, .null, .int 0, .null, .null, .null, .null, .null, .null, .null, .null, .int 0, .int 0, .int 0, .null, .int 0])) := ⟨_, rfl⟩
  have c1 : h1.2.1 = 241 := by rw [hh1]; show h.2.1 + 1 = _; rw [hc]
  have s1 : h1.2.2 = h.2.2 + 9888 := by rw [hh1]; show h.2.2 + 9888 = _; rw [s0, Nat.add_assoc]
  have o1 : h1.1 239 = .inr (11, [.ref 240, .null, .null, .null, .int 0, .null, .null, .null, .null, .null, .int 0, .null, .null, .null, .null, .null, .null, .null, .null, .int 0, .int 0, .int 0, .null, .int 0]) := by rw [hh1]; exact eUp_at ..
  have k1 : ∀ i, i ≠ 239 → i ≠ 240 → h1.1 i = h.1 i := fun i i1 i2 => by rw [hh1, eUp_ne i1, nw_ne (by rw [hc]; exact i2)]
  have a240 : h1.1 240 = .inl (1, 9888, .inr (.inl (fun _ => 0))) := by rw [hh1, eUp_ne (by decide), ← hc]; exact nw_at ..
  obtain ⟨h2, hh2⟩ : ∃ x, x = eUp (nw h1 (.inl (0, 8, .inl (fun _ => 0))) 8) 239 (.inr (11, [.ref 240, .ref 241, .null, .null, .int 0, .null, .null, .null, .null, .null, .int 0, .null, .null, .null, .null, .null, .null, .null, .null, .int 0, .int 0, .int 0, .null, .int 0])) := ⟨_, rfl⟩
  have c2 : h2.2.1 = 242 := by rw [hh2]; show h1.2.1 + 1 = _; rw [c1]
  have s2 : h2.2.2 = h.2.2 + 9896 := by rw [hh2]; show h1.2.2 + 8 = _; rw [s1, Nat.add_assoc]
  have o2 : h2.1 239 = .inr (11, [.ref 240, .ref 241, .null, .null, .int 0, .null, .null, .null, .null, .null, .int 0, .null, .null, .null, .null, .null, .null, .null, .null, .int 0, .int 0, .int 0, .null, .int 0]) := by rw [hh2]; exact eUp_at ..
  have k2 : ∀ i, i ≠ 239 → i ≠ 241 → h2.1 i = h1.1 i := fun i i1 i2 => by rw [hh2, eUp_ne i1, nw_ne (by rw [c1]; exact i2)]
  have a241 : h2.1 241 = .inl (0, 8, .inl (fun _ => 0)) := by rw [hh2, eUp_ne (by decide), ← c1]; exact nw_at ..
  obtain ⟨h3, hh3⟩ : ∃ x, x = eUp (nw h2 (.inl (0, 8, .inl (fun _ => 0))) 8) 239 (.inr (11, [.ref 240, .ref 241, .ref 242, .null, .int 0, .null, .null, .null, .null, .null, .int 0, .null, .null, .null, .null, .null, .null, .null, .null, .int 0, .int 0, .int 0, .null, .int 0])) := ⟨_, rfl⟩
  have c3 : h3.2.1 = 243 := by rw [hh3]; show h2.2.1 + 1 = _; rw [c2]
  have s3 : h3.2.2 = h.2.2 + 9904 := by rw [hh3]; show h2.2.2 + 8 = _; rw [s2, Nat.add_assoc]
  have o3 : h3.1 239 = .inr (11, [.ref 240, .ref 241, .ref 242, .null, .int 0, .null, .null, .null, .null, .null, .int 0, .null, .null, .null, .null, .null, .null, .null, .null, .int 0, .int 0, .int 0, .null, .int 0]) := by rw [hh3]; exact eUp_at ..
  have k3 : ∀ i, i ≠ 239 → i ≠ 242 → h3.1 i = h2.1 i := fun i i1 i2 => by rw [hh3, eUp_ne i1, nw_ne (by rw [c2]; exact i2)]
  have a242 : h3.1 242 = .inl (0, 8, .inl (fun _ => 0)) := by rw [hh3, eUp_ne (by decide), ← c2]; exact nw_at ..
  obtain ⟨h4, hh4⟩ : ∃ x, x = eUp (nw h3 (.inl (1, 480, .inr (.inl (fun _ => 0)))) 480) 239 (.inr (11, [.ref 240, .ref 241, .ref 242, .ref 243, .int (nI 1), .null, .null, .null, .null, .null, .int 0, .null, .null, .null, .null, .null, .null, .null, .null, .int 0, .int 0, .int 0, .null, .int 0])) := ⟨_, rfl⟩
  have c4 : h4.2.1 = 244 := by rw [hh4]; show h3.2.1 + 1 = _; rw [c3]
  have s4 : h4.2.2 = h.2.2 + 10384 := by rw [hh4]; show h3.2.2 + 480 = _; rw [s3, Nat.add_assoc]
  have o4 : h4.1 239 = .inr (11, [.ref 240, .ref 241, .ref 242, .ref 243, .int (nI 1), .null, .null, .null, .null, .null, .int 0, .null, .null, .null, .null, .null, .null, .null, .null, .int 0, .int 0, .int 0, .null, .int 0]) := by rw [hh4]; exact eUp_at ..
  have k4 : ∀ i, i ≠ 239 → i ≠ 243 → h4.1 i = h3.1 i := fun i i1 i2 => by rw [hh4, eUp_ne i1, nw_ne (by rw [c3]; exact i2)]
  have a243 : h4.1 243 = .inl (1, 480, .inr (.inl (fun _ => 0))) := by rw [hh4, eUp_ne (by decide), ← c3]; exact nw_at ..
  obtain ⟨h5, hh5⟩ : ∃ x, x = eUp (nw h4 (.inl (0, 8, .inl (fun _ => 0))) 8) 239 (.inr (11, [.ref 240, .ref 241, .ref 242, .ref 243, .int (nI 1), .ref 244, .null, .null, .null, .null, .int 0, .null, .null, .null, .null, .null, .null, .null, .null, .int 0, .int 0, .int 0, .null, .int 0])) := ⟨_, rfl⟩
  have c5 : h5.2.1 = 245 := by rw [hh5]; show h4.2.1 + 1 = _; rw [c4]
  have s5 : h5.2.2 = h.2.2 + 10392 := by rw [hh5]; show h4.2.2 + 8 = _; rw [s4, Nat.add_assoc]
  have o5 : h5.1 239 = .inr (11, [.ref 240, .ref 241, .ref 242, .ref 243, .int (nI 1), .ref 244, .null, .null, .null, .null, .int 0, .null, .null, .null, .null, .null, .null, .null, .null, .int 0, .int 0, .int 0, .null, .int 0]) := by rw [hh5]; exact eUp_at ..
  have k5 : ∀ i, i ≠ 239 → i ≠ 244 → h5.1 i = h4.1 i := fun i i1 i2 => by rw [hh5, eUp_ne i1, nw_ne (by rw [c4]; exact i2)]
  have a244 : h5.1 244 = .inl (0, 8, .inl (fun _ => 0)) := by rw [hh5, eUp_ne (by decide), ← c4]; exact nw_at ..
  obtain ⟨h6, hh6⟩ : ∃ x, x = eUp (nw h5 (.inl (0, 8, .inl (fun _ => 0))) 8) 239 (.inr (11, [.ref 240, .ref 241, .ref 242, .ref 243, .int (nI 1), .ref 244, .ref 245, .null, .null, .null, .int 0, .null, .null, .null, .null, .null, .null, .null, .null, .int 0, .int 0, .int 0, .null, .int 0])) := ⟨_, rfl⟩
  have c6 : h6.2.1 = 246 := by rw [hh6]; show h5.2.1 + 1 = _; rw [c5]
  have s6 : h6.2.2 = h.2.2 + 10400 := by rw [hh6]; show h5.2.2 + 8 = _; rw [s5, Nat.add_assoc]
  have o6 : h6.1 239 = .inr (11, [.ref 240, .ref 241, .ref 242, .ref 243, .int (nI 1), .ref 244, .ref 245, .null, .null, .null, .int 0, .null, .null, .null, .null, .null, .null, .null, .null, .int 0, .int 0, .int 0, .null, .int 0]) := by rw [hh6]; exact eUp_at ..
  have k6 : ∀ i, i ≠ 239 → i ≠ 245 → h6.1 i = h5.1 i := fun i i1 i2 => by rw [hh6, eUp_ne i1, nw_ne (by rw [c5]; exact i2)]
  have a245 : h6.1 245 = .inl (0, 8, .inl (fun _ => 0)) := by rw [hh6, eUp_ne (by decide), ← c5]; exact nw_at ..
  obtain ⟨h7, hh7⟩ : ∃ x, x = eUp (nw h6 (.inl (2, 8, .inl (fun _ => 0))) 8) 239 (.inr (11, [.ref 240, .ref 241, .ref 242, .ref 243, .int (nI 1), .ref 244, .ref 245, .ref 246, .null, .null, .int 0, .null, .null, .null, .null, .null, .null, .null, .null, .int 0, .int 0, .int 0, .null, .int 0])) := ⟨_, rfl⟩
  have c7 : h7.2.1 = 247 := by rw [hh7]; show h6.2.1 + 1 = _; rw [c6]
  have s7 : h7.2.2 = h.2.2 + 10408 := by rw [hh7]; show h6.2.2 + 8 = _; rw [s6, Nat.add_assoc]
  have o7 : h7.1 239 = .inr (11, [.ref 240, .ref 241, .ref 242, .ref 243, .int (nI 1), .ref 244, .ref 245, .ref 246, .null, .null, .int 0, .null, .null, .null, .null, .null, .null, .null, .null, .int 0, .int 0, .int 0, .null, .int 0]) := by rw [hh7]; exact eUp_at ..
  have k7 : ∀ i, i ≠ 239 → i ≠ 246 → h7.1 i = h6.1 i := fun i i1 i2 => by rw [hh7, eUp_ne i1, nw_ne (by rw [c6]; exact i2)]
  have a246 : h7.1 246 = .inl (2, 8, .inl (fun _ => 0)) := by rw [hh7, eUp_ne (by decide), ← c6]; exact nw_at ..
  obtain ⟨h8, hh8⟩ : ∃ x, x = eUp (nw h7 (.inl (0, 8, .inl (fun _ => 0))) 8) 239 (.inr (11, [.ref 240, .ref 241, .ref 242, .ref 243, .int (nI 1), .ref 244, .ref 245, .ref 246, .ref 247, .null, .int 0, .null, .null, .null, .null, .null, .null, .null, .null, .int 0, .int 0, .int 0, .null, .int 0])) := ⟨_, rfl⟩
  have c8 : h8.2.1 = 248 := by rw [hh8]; show h7.2.1 + 1 = _; rw [c7]
  have s8 : h8.2.2 = h.2.2 + 10416 := by rw [hh8]; show h7.2.2 + 8 = _; rw [s7, Nat.add_assoc]
  have o8 : h8.1 239 = .inr (11, [.ref 240, .ref 241, .ref 242, .ref 243, .int (nI 1), .ref 244, .ref 245, .ref 246, .ref 247, .null, .int 0, .null, .null, .null, .null, .null, .null, .null, .null, .int 0, .int 0, .int 0, .null, .int 0]) := by rw [hh8]; exact eUp_at ..
  have k8 : ∀ i, i ≠ 239 → i ≠ 247 → h8.1 i = h7.1 i := fun i i1 i2 => by rw [hh8, eUp_ne i1, nw_ne (by rw [c7]; exact i2)]
  have a247 : h8.1 247 = .inl (0, 8, .inl (fun _ => 0)) := by rw [hh8, eUp_ne (by decide), ← c7]; exact nw_at ..
  obtain ⟨h9, hh9⟩ : ∃ x, x = eUp (nw h8 (.inl (0, 8, .inl (fun _ => 0))) 8) 239 (.inr (11, [.ref 240, .ref 241, .ref 242, .ref 243, .int (nI 1), .ref 244, .ref 245, .ref 246, .ref 247, .ref 248, .int 0, .null, .null, .null, .null, .null, .null, .null, .null, .int 0, .int 0, .int 0, .null, .int 0])) := ⟨_, rfl⟩
  have c9 : h9.2.1 = 249 := by rw [hh9]; show h8.2.1 + 1 = _; rw [c8]
  have s9 : h9.2.2 = h.2.2 + 10424 := by rw [hh9]; show h8.2.2 + 8 = _; rw [s8, Nat.add_assoc]
  have o9 : h9.1 239 = .inr (11, [.ref 240, .ref 241, .ref 242, .ref 243, .int (nI 1), .ref 244, .ref 245, .ref 246, .ref 247, .ref 248, .int 0, .null, .null, .null, .null, .null, .null, .null, .null, .int 0, .int 0, .int 0, .null, .int 0]) := by rw [hh9]; exact eUp_at ..
  have k9 : ∀ i, i ≠ 239 → i ≠ 248 → h9.1 i = h8.1 i := fun i i1 i2 => by rw [hh9, eUp_ne i1, nw_ne (by rw [c8]; exact i2)]
  have a248 : h9.1 248 = .inl (0, 8, .inl (fun _ => 0)) := by rw [hh9, eUp_ne (by decide), ← c8]; exact nw_at ..
  obtain ⟨h10, hh10⟩ : ∃ x, x = eUp (nw h9 (.inl (0, 14, .inl (fun _ => 0))) 14) 239 (.inr (11, [.ref 240, .ref 241, .ref 242, .ref 243, .int (nI 1), .ref 244, .ref 245, .ref 246, .ref 247, .ref 248, .int 0, .ref 249, .null, .null, .null, .null, .null, .null, .null, .int 0, .int 0, .int 0, .null, .int 0])) := ⟨_, rfl⟩
  have c10 : h10.2.1 = 250 := by rw [hh10]; show h9.2.1 + 1 = _; rw [c9]
  have s10 : h10.2.2 = h.2.2 + 10438 := by rw [hh10]; show h9.2.2 + 14 = _; rw [s9, Nat.add_assoc]
  have o10 : h10.1 239 = .inr (11, [.ref 240, .ref 241, .ref 242, .ref 243, .int (nI 1), .ref 244, .ref 245, .ref 246, .ref 247, .ref 248, .int 0, .ref 249, .null, .null, .null, .null, .null, .null, .null, .int 0, .int 0, .int 0, .null, .int 0]) := by rw [hh10]; exact eUp_at ..
  have k10 : ∀ i, i ≠ 239 → i ≠ 249 → h10.1 i = h9.1 i := fun i i1 i2 => by rw [hh10, eUp_ne i1, nw_ne (by rw [c9]; exact i2)]
  have a249 : h10.1 249 = .inl (0, 14, .inl (fun _ => 0)) := by rw [hh10, eUp_ne (by decide), ← c9]; exact nw_at ..
  obtain ⟨h11, hh11⟩ : ∃ x, x = eUp (nw h10 (.inl (0, 14, .inl (fun _ => 0))) 14) 239 (.inr (11, [.ref 240, .ref 241, .ref 242, .ref 243, .int (nI 1), .ref 244, .ref 245, .ref 246, .ref 247, .ref 248, .int 0, .ref 249, .ref 250, .null, .null, .null, .null, .null, .null, .int 0, .int 0, .int 0, .null, .int 0])) := ⟨_, rfl⟩
  have c11 : h11.2.1 = 251 := by rw [hh11]; show h10.2.1 + 1 = _; rw [c10]
  have s11 : h11.2.2 = h.2.2 + 10452 := by rw [hh11]; show h10.2.2 + 14 = _; rw [s10, Nat.add_assoc]
  have o11 : h11.1 239 = .inr (11, [.ref 240, .ref 241, .ref 242, .ref 243, .int (nI 1), .ref 244, .ref 245, .ref 246, .ref 247, .ref 248, .int 0, .ref 249, .ref 250, .null, .null, .null, .null, .null, .null, .int 0, .int 0, .int 0, .null, .int 0]) := by rw [hh11]; exact eUp_at ..
  have k11 : ∀ i, i ≠ 239 → i ≠ 250 → h11.1 i = h10.1 i := fun i i1 i2 => by rw [hh11, eUp_ne i1, nw_ne (by rw [c10]; exact i2)]
  have a250 : h11.1 250 = .inl (0, 14, .inl (fun _ => 0)) := by rw [hh11, eUp_ne (by decide), ← c10]; exact nw_at ..
  obtain ⟨h12, hh12⟩ : ∃ x, x = eUp (nw h11 (.inl (0, 14, .inl (fun _ => 0))) 14) 239 (.inr (11, [.ref 240, .ref 241, .ref 242, .ref 243, .int (nI 1), .ref 244, .ref 245, .ref 246, .ref 247, .ref 248, .int 0, .ref 249, .ref 250, .ref 251, .null, .null, .null, .null, .null, .int 0, .int 0, .int 0, .null, .int 0])) := ⟨_, rfl⟩
  have c12 : h12.2.1 = 252 := by rw [hh12]; show h11.2.1 + 1 = _; rw [c11]
  have s12 : h12.2.2 = h.2.2 + 10466 := by rw [hh12]; show h11.2.2 + 14 = _; rw [s11, Nat.add_assoc]
  have o12 : h12.1 239 = .inr (11, [.ref 240, .ref 241, .ref 242, .ref 243, .int (nI 1), .ref 244, .ref 245, .ref 246, .ref 247, .ref 248, .int 0, .ref 249, .ref 250, .ref 251, .null, .null, .null, .null, .null, .int 0, .int 0, .int 0, .null, .int 0]) := by rw [hh12]; exact eUp_at ..
  have k12 : ∀ i, i ≠ 239 → i ≠ 251 → h12.1 i = h11.1 i := fun i i1 i2 => by rw [hh12, eUp_ne i1, nw_ne (by rw [c11]; exact i2)]
  have a251 : h12.1 251 = .inl (0, 14, .inl (fun _ => 0)) := by rw [hh12, eUp_ne (by decide), ← c11]; exact nw_at ..
  obtain ⟨h13, hh13⟩ : ∃ x, x = eUp (nw h12 (.inl (0, 14, .inl (fun _ => 0))) 14) 239 (.inr (11, [.ref 240, .ref 241, .ref 242, .ref 243, .int (nI 1), .ref 244, .ref 245, .ref 246, .ref 247, .ref 248, .int 0, .ref 249, .ref 250, .ref 251, .ref 252, .null, .null, .null, .null, .int 0, .int 0, .int 0, .null, .int 0])) := ⟨_, rfl⟩
  have c13 : h13.2.1 = 253 := by rw [hh13]; show h12.2.1 + 1 = _; rw [c12]
  have s13 : h13.2.2 = h.2.2 + 10480 := by rw [hh13]; show h12.2.2 + 14 = _; rw [s12, Nat.add_assoc]
  have o13 : h13.1 239 = .inr (11, [.ref 240, .ref 241, .ref 242, .ref 243, .int (nI 1), .ref 244, .ref 245, .ref 246, .ref 247, .ref 248, .int 0, .ref 249, .ref 250, .ref 251, .ref 252, .null, .null, .null, .null, .int 0, .int 0, .int 0, .null, .int 0]) := by rw [hh13]; exact eUp_at ..
  have k13 : ∀ i, i ≠ 239 → i ≠ 252 → h13.1 i = h12.1 i := fun i i1 i2 => by rw [hh13, eUp_ne i1, nw_ne (by rw [c12]; exact i2)]
  have a252 : h13.1 252 = .inl (0, 14, .inl (fun _ => 0)) := by rw [hh13, eUp_ne (by decide), ← c12]; exact nw_at ..
  obtain ⟨h14, hh14⟩ : ∃ x, x = eUp (nw h13 (.inl (1, 24, .inr (.inl (fun _ => 0)))) 24) 239 (.inr (11, [.ref 240, .ref 241, .ref 242, .ref 243, .int (nI 1), .ref 244, .ref 245, .ref 246, .ref 247, .ref 248, .int 0, .ref 249, .ref 250, .ref 251, .ref 252, .ref 253, .null, .null, .null, .int 0, .int 0, .int 0, .null, .int 0])) := ⟨_, rfl⟩
  have c14 : h14.2.1 = 254 := by rw [hh14]; show h13.2.1 + 1 = _; rw [c13]
  have s14 : h14.2.2 = h.2.2 + 10504 := by rw [hh14]; show h13.2.2 + 24 = _; rw [s13, Nat.add_assoc]
  have o14 : h14.1 239 = .inr (11, [.ref 240, .ref 241, .ref 242, .ref 243, .int (nI 1), .ref 244, .ref 245, .ref 246, .ref 247, .ref 248, .int 0, .ref 249, .ref 250, .ref 251, .ref 252, .ref 253, .null, .null, .null, .int 0, .int 0, .int 0, .null, .int 0]) := by rw [hh14]; exact eUp_at ..
  have k14 : ∀ i, i ≠ 239 → i ≠ 253 → h14.1 i = h13.1 i := fun i i1 i2 => by rw [hh14, eUp_ne i1, nw_ne (by rw [c13]; exact i2)]
  have a253 : h14.1 253 = .inl (1, 24, .inr (.inl (fun _ => 0))) := by rw [hh14, eUp_ne (by decide), ← c13]; exact nw_at ..
  obtain ⟨h15, hh15⟩ : ∃ x, x = eUp (nw h14 (.inl (1, 24, .inr (.inl (fun _ => 0)))) 24) 239 (.inr (11, [.ref 240, .ref 241, .ref 242, .ref 243, .int (nI 1), .ref 244, .ref 245, .ref 246, .ref 247, .ref 248, .int 0, .ref 249, .ref 250, .ref 251, .ref 252, .ref 253, .ref 254, .null, .null, .int 0, .int 0, .int 0, .null, .int 0])) := ⟨_, rfl⟩
  have c15 : h15.2.1 = 255 := by rw [hh15]; show h14.2.1 + 1 = _; rw [c14]
  have s15 : h15.2.2 = h.2.2 + 10528 := by rw [hh15]; show h14.2.2 + 24 = _; rw [s14, Nat.add_assoc]
  have o15 : h15.1 239 = .inr (11, [.ref 240, .ref 241, .ref 242, .ref 243, .int (nI 1), .ref 244, .ref 245, .ref 246, .ref 247, .ref 248, .int 0, .ref 249, .ref 250, .ref 251, .ref 252, .ref 253, .ref 254, .null, .null, .int 0, .int 0, .int 0, .null, .int 0]) := by rw [hh15]; exact eUp_at ..
  have k15 : ∀ i, i ≠ 239 → i ≠ 254 → h15.1 i = h14.1 i := fun i i1 i2 => by rw [hh15, eUp_ne i1, nw_ne (by rw [c14]; exact i2)]
  have a254 : h15.1 254 = .inl (1, 24, .inr (.inl (fun _ => 0))) := by rw [hh15, eUp_ne (by decide), ← c14]; exact nw_at ..
  obtain ⟨h16, hh16⟩ : ∃ x, x = eUp (nw h15 (.inl (1, 24, .inr (.inl (fun _ => 0)))) 24) 239 (.inr (11, [.ref 240, .ref 241, .ref 242, .ref 243, .int (nI 1), .ref 244, .ref 245, .ref 246, .ref 247, .ref 248, .int 0, .ref 249, .ref 250, .ref 251, .ref 252, .ref 253, .ref 254, .ref 255, .null, .int 0, .int 0, .int 0, .null, .int 0])) := ⟨_, rfl⟩
  have c16 : h16.2.1 = 256 := by rw [hh16]; show h15.2.1 + 1 = _; rw [c15]
  have s16 : h16.2.2 = h.2.2 + 10552 := by rw [hh16]; show h15.2.2 + 24 = _; rw [s15, Nat.add_assoc]
  have o16 : h16.1 239 = .inr (11, [.ref 240, .ref 241, .ref 242, .ref 243, .int (nI 1), .ref 244, .ref 245, .ref 246, .ref 247, .ref 248, .int 0, .ref 249, .ref 250, .ref 251, .ref 252, .ref 253, .ref 254, .ref 255, .null, .int 0, .int 0, .int 0, .null, .int 0]) := by rw [hh16]; exact eUp_at ..
  have k16 : ∀ i, i ≠ 239 → i ≠ 255 → h16.1 i = h15.1 i := fun i i1 i2 => by rw [hh16, eUp_ne i1, nw_ne (by rw [c15]; exact i2)]
  have a255 : h16.1 255 = .inl (1, 24, .inr (.inl (fun _ => 0))) := by rw [hh16, eUp_ne (by decide), ← c15]; exact nw_at ..
  obtain ⟨h17, hh17⟩ : ∃ x, x = eUp (nw h16 (.inl (0, 60, .inl (fun _ => 0))) 60) 239 (.inr (11, [.ref 240, .ref 241, .ref 242, .ref 243, .int (nI 1), .ref 244, .ref 245, .ref 246, .ref 247, .ref 248, .int 0, .ref 249, .ref 250, .ref 251, .ref 252, .ref 253, .ref 254, .ref 255, .ref 256, .int 0, .int 0, .int 0, .null, .int 0])) := ⟨_, rfl⟩
  have c17 : h17.2.1 = 257 := by rw [hh17]; show h16.2.1 + 1 = _; rw [c16]
  have s17 : h17.2.2 = h.2.2 + 10612 := by rw [hh17]; show h16.2.2 + 60 = _; rw [s16, Nat.add_assoc]
  have o17 : h17.1 239 = .inr (11, [.ref 240, .ref 241, .ref 242, .ref 243, .int (nI 1), .ref 244, .ref 245, .ref 246, .ref 247, .ref 248, .int 0, .ref 249, .ref 250, .ref 251, .ref 252, .ref 253, .ref 254, .ref 255, .ref 256, .int 0, .int 0, .int 0, .null, .int 0]) := by rw [hh17]; exact eUp_at ..
  have k17 : ∀ i, i ≠ 239 → i ≠ 256 → h17.1 i = h16.1 i := fun i i1 i2 => by rw [hh17, eUp_ne i1, nw_ne (by rw [c16]; exact i2)]
  have a256 : h17.1 256 = .inl (0, 60, .inl (fun _ => 0)) := by rw [hh17, eUp_ne (by decide), ← c16]; exact nw_at ..
  obtain ⟨h18, hh18⟩ : ∃ x, x = eUp (nw h17 (.inl (0, 17, .inl (fun _ => 0))) 17) 239 (.inr (11, [.ref 240, .ref 241, .ref 242, .ref 243, .int (nI 1), .ref 244, .ref 245, .ref 246, .ref 247, .ref 248, .int 0, .ref 249, .ref 250, .ref 251, .ref 252, .ref 253, .ref 254, .ref 255, .ref 256, .int 0, .int 0, .int 0, .ref 257, .int 0])) := ⟨_, rfl⟩
  have c18 : h18.2.1 = 258 := by rw [hh18]; show h17.2.1 + 1 = _; rw [c17]
  have s18 : h18.2.2 = h.2.2 + 10629 := by rw [hh18]; show h17.2.2 + 17 = _; rw [s17, Nat.add_assoc]
  have o18 : h18.1 239 = .inr (11, [.ref 240, .ref 241, .ref 242, .ref 243, .int (nI 1), .ref 244, .ref 245, .ref 246, .ref 247, .ref 248, .int 0, .ref 249, .ref 250, .ref 251, .ref 252, .ref 253, .ref 254, .ref 255, .ref 256, .int 0, .int 0, .int 0, .ref 257, .int 0]) := by rw [hh18]; exact eUp_at ..
  have k18 : ∀ i, i ≠ 239 → i ≠ 257 → h18.1 i = h17.1 i := fun i i1 i2 => by rw [hh18, eUp_ne i1, nw_ne (by rw [c17]; exact i2)]
  have a257 : h18.1 257 = .inl (0, 17, .inl (fun _ => 0)) := by rw [hh18, eUp_ne (by decide), ← c17]; exact nw_at ..
  have z240 := (k18 240 (by decide) (by decide)).trans ((k17 240 (by decide) (by decide)).trans ((k16 240 (by decide) (by decide)).trans ((k15 240 (by decide) (by decide)).trans ((k14 240 (by decide) (by decide)).trans ((k13 240 (by decide) (by decide)).trans ((k12 240 (by decide) (by decide)).trans ((k11 240 (by decide) (by decide)).trans ((k10 240 (by decide) (by decide)).trans ((k9 240 (by decide) (by decide)).trans ((k8 240 (by decide) (by decide)).trans ((k7 240 (by decide) (by decide)).trans ((k6 240 (by decide) (by decide)).trans ((k5 240 (by decide) (by decide)).trans ((k4 240 (by decide) (by decide)).trans ((k3 240 (by decide) (by decide)).trans ((k2 240 (by decide) (by decide)).trans (a240)))))))))))))))))
  have z241 := (k18 241 (by decide) (by decide)).trans ((k17 241 (by decide) (by decide)).trans ((k16 241 (by decide) (by decide)).trans ((k15 241 (by decide) (by decide)).trans ((k14 241 (by decide) (by decide)).trans ((k13 241 (by decide) (by decide)).trans ((k12 241 (by decide) (by decide)).trans ((k11 241 (by decide) (by decide)).trans ((k10 241 (by decide) (by decide)).trans ((k9 241 (by decide) (by decide)).trans ((k8 241 (by decide) (by decide)).trans ((k7 241 (by decide) (by decide)).trans ((k6 241 (by decide) (by decide)).trans ((k5 241 (by decide) (by decide)).trans ((k4 241 (by decide) (by decide)).trans ((k3 241 (by decide) (by decide)).trans (a241))))))))))))))))
  have z242 := (k18 242 (by decide) (by decide)).trans ((k17 242 (by decide) (by decide)).trans ((k16 242 (by decide) (by decide)).trans ((k15 242 (by decide) (by decide)).trans ((k14 242 (by decide) (by decide)).trans ((k13 242 (by decide) (by decide)).trans ((k12 242 (by decide) (by decide)).trans ((k11 242 (by decide) (by decide)).trans ((k10 242 (by decide) (by decide)).trans ((k9 242 (by decide) (by decide)).trans ((k8 242 (by decide) (by decide)).trans ((k7 242 (by decide) (by decide)).trans ((k6 242 (by decide) (by decide)).trans ((k5 242 (by decide) (by decide)).trans ((k4 242 (by decide) (by decide)).trans (a242)))))))))))))))
  have z243 := (k18 243 (by decide) (by decide)).trans ((k17 243 (by decide) (by decide)).trans ((k16 243 (by decide) (by decide)).trans ((k15 243 (by decide) (by decide)).trans ((k14 243 (by decide) (by decide)).trans ((k13 243 (by decide) (by decide)).trans ((k12 243 (by decide) (by decide)).trans ((k11 243 (by decide) (by decide)).trans ((k10 243 (by decide) (by decide)).trans ((k9 243 (by decide) (by decide)).trans ((k8 243 (by decide) (by decide)).trans ((k7 243 (by decide) (by decide)).trans ((k6 243 (by decide) (by decide)).trans ((k5 243 (by decide) (by decide)).trans (a243))))))))))))))
  have z244 := (k18 244 (by decide) (by decide)).trans ((k17 244 (by decide) (by decide)).trans ((k16 244 (by decide) (by decide)).trans ((k15 244 (by decide) (by decide)).trans ((k14 244 (by decide) (by decide)).trans ((k13 244 (by decide) (by decide)).trans ((k12 244 (by decide) (by decide)).trans ((k11 244 (by decide) (by decide)).trans ((k10 244 (by decide) (by decide)).trans ((k9 244 (by decide) (by decide)).trans ((k8 244 (by decide) (by decide)).trans ((k7 244 (by decide) (by decide)).trans ((k6 244 (by decide) (by decide)).trans (a244)))))))))))))
  have z245 := (k18 245 (by decide) (by decide)).trans ((k17 245 (by decide) (by decide)).trans ((k16 245 (by decide) (by decide)).trans ((k15 245 (by decide) (by decide)).trans ((k14 245 (by decide) (by decide)).trans ((k13 245 (by decide) (by decide)).trans ((k12 245 (by decide) (by decide)).trans ((k11 245 (by decide) (by decide)).trans ((k10 245 (by decide) (by decide)).trans ((k9 245 (by decide) (by decide)).trans ((k8 245 (by decide) (by decide)).trans ((k7 245 (by decide) (by decide)).trans (a245))))))))))))
  have z246 := (k18 246 (by decide) (by decide)).trans ((k17 246 (by decide) (by decide)).trans ((k16 246 (by decide) (by decide)).trans ((k15 246 (by decide) (by decide)).trans ((k14 246 (by decide) (by decide)).trans ((k13 246 (by decide) (by decide)).trans ((k12 246 (by decide) (by decide)).trans ((k11 246 (by decide) (by decide)).trans ((k10 246 (by decide) (by decide)).trans ((k9 246 (by decide) (by decide)).trans ((k8 246 (by decide) (by decide)).trans (a246)))))))))))
  have z247 := (k18 247 (by decide) (by decide)).trans ((k17 247 (by decide) (by decide)).trans ((k16 247 (by decide) (by decide)).trans ((k15 247 (by decide) (by decide)).trans ((k14 247 (by decide) (by decide)).trans ((k13 247 (by decide) (by decide)).trans ((k12 247 (by decide) (by decide)).trans ((k11 247 (by decide) (by decide)).trans ((k10 247 (by decide) (by decide)).trans ((k9 247 (by decide) (by decide)).trans (a247))))))))))
  have z248 := (k18 248 (by decide) (by decide)).trans ((k17 248 (by decide) (by decide)).trans ((k16 248 (by decide) (by decide)).trans ((k15 248 (by decide) (by decide)).trans ((k14 248 (by decide) (by decide)).trans ((k13 248 (by decide) (by decide)).trans ((k12 248 (by decide) (by decide)).trans ((k11 248 (by decide) (by decide)).trans ((k10 248 (by decide) (by decide)).trans (a248)))))))))
  have z249 := (k18 249 (by decide) (by decide)).trans ((k17 249 (by decide) (by decide)).trans ((k16 249 (by decide) (by decide)).trans ((k15 249 (by decide) (by decide)).trans ((k14 249 (by decide) (by decide)).trans ((k13 249 (by decide) (by decide)).trans ((k12 249 (by decide) (by decide)).trans ((k11 249 (by decide) (by decide)).trans (a249))))))))
  have z250 := (k18 250 (by decide) (by decide)).trans ((k17 250 (by decide) (by decide)).trans ((k16 250 (by decide) (by decide)).trans ((k15 250 (by decide) (by decide)).trans ((k14 250 (by decide) (by decide)).trans ((k13 250 (by decide) (by decide)).trans ((k12 250 (by decide) (by decide)).trans (a250)))))))
  have z251 := (k18 251 (by decide) (by decide)).trans ((k17 251 (by decide) (by decide)).trans ((k16 251 (by decide) (by decide)).trans ((k15 251 (by decide) (by decide)).trans ((k14 251 (by decide) (by decide)).trans ((k13 251 (by decide) (by decide)).trans (a251))))))
  have z252 := (k18 252 (by decide) (by decide)).trans ((k17 252 (by decide) (by decide)).trans ((k16 252 (by decide) (by decide)).trans ((k15 252 (by decide) (by decide)).trans ((k14 252 (by decide) (by decide)).trans (a252)))))
  have z253 := (k18 253 (by decide) (by decide)).trans ((k17 253 (by decide) (by decide)).trans ((k16 253 (by decide) (by decide)).trans ((k15 253 (by decide) (by decide)).trans (a253))))
  have z254 := (k18 254 (by decide) (by decide)).trans ((k17 254 (by decide) (by decide)).trans ((k16 254 (by decide) (by decide)).trans (a254)))
  have z255 := (k18 255 (by decide) (by decide)).trans ((k17 255 (by decide) (by decide)).trans (a255))
  have z256 := (k18 256 (by decide) (by decide)).trans (a256)
  have z257 := a257
  have lo : ∀ i, i < 239 → h18.1 i = h.1 i := fun i hi => (k18 i (Nat.ne_of_lt hi) (Nat.ne_of_lt (Nat.lt_trans hi (by decide)))).trans ((k17 i (Nat.ne_of_lt hi) (Nat.ne_of_lt (Nat.lt_trans hi (by decide)))).trans ((k16 i (Nat.ne_of_lt hi) (Nat.ne_of_lt (Nat.lt_trans hi (by decide)))).trans ((k15 i (Nat.ne_of_lt hi) (Nat.ne_of_lt (Nat.lt_trans hi (by decide)))).trans ((k14 i (Nat.ne_of_lt hi) (Nat.ne_of_lt (Nat.lt_trans hi (by decide)))).trans ((k13 i (Nat.ne_of_lt hi) (Nat.ne_of_lt (Nat.lt_trans hi (by decide)))).trans ((k12 i (Nat.ne_of_lt hi) (Nat.ne_of_lt (Nat.lt_trans hi (by decide)))).trans ((k11 i (Nat.ne_of_lt hi) (Nat.ne_of_lt (Nat.lt_trans hi (by decide)))).trans ((k10 i (Nat.ne_of_lt hi) (Nat.ne_of_lt (Nat.lt_trans hi (by decide)))).trans ((k9 i (Nat.ne_of_lt hi) (Nat.ne_of_lt (Nat.lt_trans hi (by decide)))).trans ((k8 i (Nat.ne_of_lt hi) (Nat.ne_of_lt (Nat.lt_trans hi (by decide)))).trans ((k7 i (Nat.ne_of_lt hi) (Nat.ne_of_lt (Nat.lt_trans hi (by decide)))).trans ((k6 i (Nat.ne_of_lt hi) (Nat.ne_of_lt (Nat.lt_trans hi (by decide)))).trans ((k5 i (Nat.ne_of_lt hi) (Nat.ne_of_lt (Nat.lt_trans hi (by decide)))).trans ((k4 i (Nat.ne_of_lt hi) (Nat.ne_of_lt (Nat.lt_trans hi (by decide)))).trans ((k3 i (Nat.ne_of_lt hi) (Nat.ne_of_lt (Nat.lt_trans hi (by decide)))).trans ((k2 i (Nat.ne_of_lt hi) (Nat.ne_of_lt (Nat.lt_trans hi (by decide)))).trans ((k1 i (Nat.ne_of_lt hi) (Nat.ne_of_lt (Nat.lt_trans hi (by decide)))).trans (rfl))))))))))))))))))
  have z239 : h18.1 239 = .inr (11, [.ref 240, .ref 241, .ref 242, .ref 243, .int (nI 1), .ref 244, .ref 245, .ref 246, .ref 247, .ref 248, .int 0, .ref 249, .ref 250, .ref 251, .ref 252, .ref 253, .ref 254, .ref 255, .ref 256, .int 0, .int 0, .int 0, .ref 257, .int 0]) := o18
  refine ⟨h18, ?_, c18, s18, lo, ?_, ⟨_, z241, fun _ _ => rfl⟩, ⟨_, z242, fun _ _ => rfl⟩, ⟨_, z243⟩, ⟨_, z244, fun _ _ => rfl⟩, ⟨_, z245, fun _ _ => rfl⟩, ⟨_, z246, fun _ _ => rfl⟩, ⟨_, z247, fun _ _ => rfl⟩, ⟨_, z248, fun _ _ => rfl⟩, ⟨_, z249, fun _ _ => rfl⟩, ⟨_, z250, fun _ _ => rfl⟩, ⟨_, z251, fun _ _ => rfl⟩, ⟨_, z252, fun _ _ => rfl⟩, ⟨_, z256⟩⟩
  · rw [E53 239 ha]
    simp only [S53, gFs, pFs, okq, bls, bo_true, eUp_at, eUp_eUp, eKls, cl_some, Option.toList_some, Option.toList_none, List.cons_append, List.nil_append, nw_eq, nI_clamp (show 8 < 2 ^ 31 by decide), if_neg (nIneg2 (n := 8) (by decide) (by decide)), nI_clamp (show 14 < 2 ^ 31 by decide), if_neg (nIneg2 (n := 14) (by decide) (by decide)), nI_clamp (show 17 < 2 ^ 31 by decide), if_neg (nIneg2 (n := 17) (by decide) (by decide)), nI_clamp (show 24 < 2 ^ 31 by decide), if_neg (nIneg2 (n := 24) (by decide) (by decide)), nI_clamp (show 60 < 2 ^ 31 by decide), if_neg (nIneg2 (n := 60) (by decide) (by decide)), nI_clamp (show 480 < 2 ^ 31 by decide), if_neg (nIneg2 (n := 480) (by decide) (by decide)), nI_clamp (show 9888 < 2 ^ 31 by decide), if_neg (nIneg2 (n := 9888) (by decide) (by decide))]
    rw [show (nw h (.inl (1, 9888, .inr (.inl (fun _ => 0)))) 9888).1 239 = .inr (11, [.null, .null, .null, .null, .int 0, .null, .null, .null, .null, .null, .int 0, .null, .null, .null, .null, .null, .null, .null, .null, .int 0, .int 0, .int 0, .null, .int 0]) from (nw_ne (by rw [hc]; decide)).trans ha]
    simp only [pFs, okq, bo_true]
    rw [hc, ← hh1]
    rw [show (nw h1 (.inl (0, 8, .inl (fun _ => 0))) 8).1 239 = .inr (11, [.ref 240, .null, .null, .null, .int 0, .null, .null, .null, .null, .null, .int 0, .null, .null, .null, .null, .null, .null, .null, .null, .int 0, .int 0, .int 0, .null, .int 0]) from (nw_ne (by rw [c1]; decide)).trans o1]
    simp only [pFs, okq, bo_true]
    rw [c1, ← hh2]
    rw [show (nw h2 (.inl (0, 8, .inl (fun _ => 0))) 8).1 239 = .inr (11, [.ref 240, .ref 241, .null, .null, .int 0, .null, .null, .null, .null, .null, .int 0, .null, .null, .null, .null, .null, .null, .null, .null, .int 0, .int 0, .int 0, .null, .int 0]) from (nw_ne (by rw [c2]; decide)).trans o2]
    simp only [pFs, okq, bo_true]
    rw [c2, ← hh3]
    rw [show (nw h3 (.inl (1, 480, .inr (.inl (fun _ => 0)))) 480).1 239 = .inr (11, [.ref 240, .ref 241, .ref 242, .null, .int 0, .null, .null, .null, .null, .null, .int 0, .null, .null, .null, .null, .null, .null, .null, .null, .int 0, .int 0, .int 0, .null, .int 0]) from (nw_ne (by rw [c3]; decide)).trans o3]
    simp only [pFs, okq, bo_true]
    rw [c3, ← hh4]
    rw [show (nw h4 (.inl (0, 8, .inl (fun _ => 0))) 8).1 239 = .inr (11, [.ref 240, .ref 241, .ref 242, .ref 243, .int (nI 1), .null, .null, .null, .null, .null, .int 0, .null, .null, .null, .null, .null, .null, .null, .null, .int 0, .int 0, .int 0, .null, .int 0]) from (nw_ne (by rw [c4]; decide)).trans o4]
    simp only [pFs, okq, bo_true]
    rw [c4, ← hh5]
    rw [show (nw h5 (.inl (0, 8, .inl (fun _ => 0))) 8).1 239 = .inr (11, [.ref 240, .ref 241, .ref 242, .ref 243, .int (nI 1), .ref 244, .null, .null, .null, .null, .int 0, .null, .null, .null, .null, .null, .null, .null, .null, .int 0, .int 0, .int 0, .null, .int 0]) from (nw_ne (by rw [c5]; decide)).trans o5]
    simp only [pFs, okq, bo_true]
    rw [c5, ← hh6]
    rw [show (nw h6 (.inl (2, 8, .inl (fun _ => 0))) 8).1 239 = .inr (11, [.ref 240, .ref 241, .ref 242, .ref 243, .int (nI 1), .ref 244, .ref 245, .null, .null, .null, .int 0, .null, .null, .null, .null, .null, .null, .null, .null, .int 0, .int 0, .int 0, .null, .int 0]) from (nw_ne (by rw [c6]; decide)).trans o6]
    simp only [pFs, okq, bo_true]
    rw [c6, ← hh7]
    rw [show (nw h7 (.inl (0, 8, .inl (fun _ => 0))) 8).1 239 = .inr (11, [.ref 240, .ref 241, .ref 242, .ref 243, .int (nI 1), .ref 244, .ref 245, .ref 246, .null, .null, .int 0, .null, .null, .null, .null, .null, .null, .null, .null, .int 0, .int 0, .int 0, .null, .int 0]) from (nw_ne (by rw [c7]; decide)).trans o7]
    simp only [pFs, okq, bo_true]
    rw [c7, ← hh8]
    rw [show (nw h8 (.inl (0, 8, .inl (fun _ => 0))) 8).1 239 = .inr (11, [.ref 240, .ref 241, .ref 242, .ref 243, .int (nI 1), .ref 244, .ref 245, .ref 246, .ref 247, .null, .int 0, .null, .null, .null, .null, .null, .null, .null, .null, .int 0, .int 0, .int 0, .null, .int 0]) from (nw_ne (by rw [c8]; decide)).trans o8]
    simp only [pFs, okq, bo_true]
    rw [c8, ← hh9]
    rw [show (nw h9 (.inl (0, 14, .inl (fun _ => 0))) 14).1 239 = .inr (11, [.ref 240, .ref 241, .ref 242, .ref 243, .int (nI 1), .ref 244, .ref 245, .ref 246, .ref 247, .ref 248, .int 0, .null, .null, .null, .null, .null, .null, .null, .null, .int 0, .int 0, .int 0, .null, .int 0]) from (nw_ne (by rw [c9]; decide)).trans o9]
    simp only [pFs, okq, bo_true]
    rw [c9, ← hh10]
    rw [show (nw h10 (.inl (0, 14, .inl (fun _ => 0))) 14).1 239 = .inr (11, [.ref 240, .ref 241, .ref 242, .ref 243, .int (nI 1), .ref 244, .ref 245, .ref 246, .ref 247, .ref 248, .int 0, .ref 249, .null, .null, .null, .null, .null, .null, .null, .int 0, .int 0, .int 0, .null, .int 0]) from (nw_ne (by rw [c10]; decide)).trans o10]
    simp only [pFs, okq, bo_true]
    rw [c10, ← hh11]
    rw [show (nw h11 (.inl (0, 14, .inl (fun _ => 0))) 14).1 239 = .inr (11, [.ref 240, .ref 241, .ref 242, .ref 243, .int (nI 1), .ref 244, .ref 245, .ref 246, .ref 247, .ref 248, .int 0, .ref 249, .ref 250, .null, .null, .null, .null, .null, .null, .int 0, .int 0, .int 0, .null, .int 0]) from (nw_ne (by rw [c11]; decide)).trans o11]
    simp only [pFs, okq, bo_true]
    rw [c11, ← hh12]
    rw [show (nw h12 (.inl (0, 14, .inl (fun _ => 0))) 14).1 239 = .inr (11, [.ref 240, .ref 241, .ref 242, .ref 243, .int (nI 1), .ref 244, .ref 245, .ref 246, .ref 247, .ref 248, .int 0, .ref 249, .ref 250, .ref 251, .null, .null, .null, .null, .null, .int 0, .int 0, .int 0, .null, .int 0]) from (nw_ne (by rw [c12]; decide)).trans o12]
    simp only [pFs, okq, bo_true]
    rw [c12, ← hh13]
    rw [show (nw h13 (.inl (1, 24, .inr (.inl (fun _ => 0)))) 24).1 239 = .inr (11, [.ref 240, .ref 241, .ref 242, .ref 243, .int (nI 1), .ref 244, .ref 245, .ref 246, .ref 247, .ref 248, .int 0, .ref 249, .ref 250, .ref 251, .ref 252, .null, .null, .null, .null, .int 0, .int 0, .int 0, .null, .int 0]) from (nw_ne (by rw [c13]; decide)).trans o13]
    simp only [pFs, okq, bo_true]
    rw [c13, ← hh14]
    rw [show (nw h14 (.inl (1, 24, .inr (.inl (fun _ => 0)))) 24).1 239 = .inr (11, [.ref 240, .ref 241, .ref 242, .ref 243, .int (nI 1), .ref 244, .ref 245, .ref 246, .ref 247, .ref 248, .int 0, .ref 249, .ref 250, .ref 251, .ref 252, .ref 253, .null, .null, .null, .int 0, .int 0, .int 0, .null, .int 0]) from (nw_ne (by rw [c14]; decide)).trans o14]
    simp only [pFs, okq, bo_true]
    rw [c14, ← hh15]
    rw [show (nw h15 (.inl (1, 24, .inr (.inl (fun _ => 0)))) 24).1 239 = .inr (11, [.ref 240, .ref 241, .ref 242, .ref 243, .int (nI 1), .ref 244, .ref 245, .ref 246, .ref 247, .ref 248, .int 0, .ref 249, .ref 250, .ref 251, .ref 252, .ref 253, .ref 254, .null, .null, .int 0, .int 0, .int 0, .null, .int 0]) from (nw_ne (by rw [c15]; decide)).trans o15]
    simp only [pFs, okq, bo_true]
    rw [c15, ← hh16]
    rw [show (nw h16 (.inl (0, 60, .inl (fun _ => 0))) 60).1 239 = .inr (11, [.ref 240, .ref 241, .ref 242, .ref 243, .int (nI 1), .ref 244, .ref 245, .ref 246, .ref 247, .ref 248, .int 0, .ref 249, .ref 250, .ref 251, .ref 252, .ref 253, .ref 254, .ref 255, .null, .int 0, .int 0, .int 0, .null, .int 0]) from (nw_ne (by rw [c16]; decide)).trans o16]
    simp only [pFs, okq, bo_true]
    rw [c16, ← hh17]
    rw [show (nw h17 (.inl (0, 17, .inl (fun _ => 0))) 17).1 239 = .inr (11, [.ref 240, .ref 241, .ref 242, .ref 243, .int (nI 1), .ref 244, .ref 245, .ref 246, .ref 247, .ref 248, .int 0, .ref 249, .ref 250, .ref 251, .ref 252, .ref 253, .ref 254, .ref 255, .ref 256, .int 0, .int 0, .int 0, .null, .int 0]) from (nw_ne (by rw [c17]; decide)).trans o17]
    simp only [pFs, okq, bo_true]
    rw [c17, ← hh18]
  · have fz : fR (fun _ => 0) = fun _ => 0 := by
      funext i
      show lI (fd 0 (i % 24)) = 0
      unfold fd
      split
      · rw [Int.zero_ediv, Int.zero_emod]; rfl
      · rw [Int.zero_ediv]; rfl
    refine eH_ext (fun i => ?_) rfl
    by_cases q1 : i = 239
    · rw [q1]; exact z239
    · by_cases q2 : i = 240
      · rw [q2, z240]
        show _ = Sum.inl (1, 9888, Sum.inr (Sum.inl (fR (fun _ => 0))))
        rw [fz]
      · by_cases q3 : i = 253
        · rw [q3]; exact z253
        · by_cases q4 : i = 254
          · rw [q4]; exact z254
          · by_cases q5 : i = 255
            · rw [q5]; exact z255
            · by_cases q6 : i = 257
              · rw [q6]; exact z257
              · exact (hK_ne (by omega)).symm
