/-! THE REFERENCE: its heap in one form: base, fields, rowOf, registers, scratch -/
def ur (R : Nat → Int) (a : Nat) (v : Int) : Nat → Int := fun i => if i = a then v else R i
theorem ur_at (R : Nat → Int) (a : Nat) (v : Int) : ur R a v a = v := by unfold ur; rw [if_pos rfl]
theorem ur_ne {R : Nat → Int} {a b : Nat} {v : Int} (h : b ≠ a) : ur R a v b = R b := by unfold ur; rw [if_neg h]
theorem ur_ur (R : Nat → Int) (a : Nat) (v w : Int) : ur (ur R a v) a w = ur R a w := by
  funext i
  unfold ur
  split <;> rfl
theorem ur_id {R : Nat → Int} {a : Nat} {v : Int} (h : R a = v) : ur R a v = R := by
  funext i
  unfold ur
  split
  · rename_i e; rw [e, h]
  · rfl
def fR (R : Nat → Int) : Nat → Int64 := fun i => lI (fd (R (i / 24)) (i % 24))
theorem fR_rg (R : Nat → Int) (a : Nat) : RG (fR R) a (fd (R a)) := fun k hk => by
  unfold fR
  rw [show (24 * a + k) / 24 = a by omega, show (24 * a + k) % 24 = k by omega]
theorem upR_fR (R : Nat → Int) (a : Nat) (v : Int) : upR (fR R) a (fd v) = fR (ur R a v) := by
  funext i
  show (if 24 * a ≤ i ∧ i < 24 * a + 24 then lI (fd v (i - 24 * a)) else lI (fd (R (i / 24)) (i % 24))) = lI (fd (if i / 24 = a then v else R (i / 24)) (i % 24))
  by_cases q : 24 * a ≤ i ∧ i < 24 * a + 24
  · rw [if_pos q, if_pos (by omega), show i - 24 * a = i % 24 by omega]
  · rw [if_neg q, if_neg (by omega)]
abbrev SC : Type := (Nat → Int64) × (Nat → Int64) × (Nat → Int64)
def hK (h : eH) (jt mb hi wi rk co : Int32) (ro : Nat → Int32) (R : Nat → Int) (s : SC) : eH := (fun i => if i = 239 then .inr (11, [.ref 240, .ref 241, .ref 242, .ref 243, .int jt, .ref 244, .ref 245, .ref 246, .ref 247, .ref 248, .int mb, .ref 249, .ref 250, .ref 251, .ref 252, .ref 253, .ref 254, .ref 255, .ref 256, .int hi, .int wi, .int rk, .ref 257, .int co]) else if i = 240 then .inl (1, 9888, .inr (.inl (fR R))) else if i = 253 then .inl (1, 24, .inr (.inl s.1)) else if i = 254 then .inl (1, 24, .inr (.inl s.2.1)) else if i = 255 then .inl (1, 24, .inr (.inl s.2.2)) else if i = 257 then .inl (0, 17, .inl ro) else h.1 i, h.2.1, h.2.2)
theorem eH_ext {h h' : eH} (h1 : ∀ i, h'.1 i = h.1 i) (h2 : h'.2 = h.2) : h' = h := by
  obtain ⟨a, b⟩ := h
  obtain ⟨a', b'⟩ := h'
  have e : a' = a := funext h1
  have e2 : b' = b := h2
  rw [e, e2]
section KF1
variable {h : eH} {jt mb hi wi rk co : Int32} {ro : Nat → Int32} {R : Nat → Int} {s : SC} {a b t : Nat}
theorem hK_2 : (hK h jt mb hi wi rk co ro R s).2 = h.2 := rfl
theorem hK_o : (hK h jt mb hi wi rk co ro R s).1 239 = .inr (11, [.ref 240, .ref 241, .ref 242, .ref 243, .int jt, .ref 244, .ref 245, .ref 246, .ref 247, .ref 248, .int mb, .ref 249, .ref 250, .ref 251, .ref 252, .ref 253, .ref 254, .ref 255, .ref 256, .int hi, .int wi, .int rk, .ref 257, .int co]) := rfl
theorem hK_mo : MOo (hK h jt mb hi wi rk co ro R s) jt mb hi wi rk co := rfl
theorem hK_mn : MN (hK h jt mb hi wi rk co ro R s) (fR R) := rfl
theorem hK_ro : (hK h jt mb hi wi rk co ro R s).1 257 = .inl (0, 17, .inl ro) := rfl
theorem hK_lx : LX (hK h jt mb hi wi rk co ro R s) := ⟨⟨s.1, rfl⟩, ⟨s.2.1, rfl⟩, ⟨s.2.2, rfl⟩⟩
theorem hK_ne {i : Nat} (hi' : i < 239 ∨ (240 < i ∧ i < 253) ∨ i = 256 ∨ 257 < i) : (hK h jt mb hi wi rk co ro R s).1 i = h.1 i := by
  show (if i = 239 then _ else if i = 240 then _ else if i = 253 then _ else if i = 254 then _ else if i = 255 then _ else if i = 257 then _ else h.1 i) = h.1 i
  rw [if_neg (by omega), if_neg (by omega), if_neg (by omega), if_neg (by omega), if_neg (by omega), if_neg (by omega)]
theorem hK_hs : ((hK h jt mb hi wi rk co ro R s).1 241 = h.1 241) ∧ ((hK h jt mb hi wi rk co ro R s).1 242 = h.1 242) ∧ ((hK h jt mb hi wi rk co ro R s).1 243 = h.1 243) ∧ ((hK h jt mb hi wi rk co ro R s).1 244 = h.1 244) ∧ ((hK h jt mb hi wi rk co ro R s).1 245 = h.1 245) ∧ ((hK h jt mb hi wi rk co ro R s).1 246 = h.1 246) ∧ ((hK h jt mb hi wi rk co ro R s).1 247 = h.1 247) ∧ ((hK h jt mb hi wi rk co ro R s).1 248 = h.1 248) ∧ ((hK h jt mb hi wi rk co ro R s).1 249 = h.1 249) ∧ ((hK h jt mb hi wi rk co ro R s).1 250 = h.1 250) ∧ ((hK h jt mb hi wi rk co ro R s).1 251 = h.1 251) ∧ ((hK h jt mb hi wi rk co ro R s).1 252 = h.1 252) ∧ ((hK h jt mb hi wi rk co ro R s).1 256 = h.1 256) := by
  refine ⟨?_, ?_, ?_, ?_, ?_, ?_, ?_, ?_, ?_, ?_, ?_, ?_, ?_⟩ <;> rfl
theorem hK_uo (jt' mb' hi' wi' rk' co' : Int32) : eUp (hK h jt mb hi wi rk co ro R s) 239 (.inr (11, [.ref 240, .ref 241, .ref 242, .ref 243, .int jt', .ref 244, .ref 245, .ref 246, .ref 247, .ref 248, .int mb', .ref 249, .ref 250, .ref 251, .ref 252, .ref 253, .ref 254, .ref 255, .ref 256, .int hi', .int wi', .int rk', .ref 257, .int co'])) = hK h jt' mb' hi' wi' rk' co' ro R s := by
  refine eH_ext (fun i => ?_) rfl
  rw [eUp_if]
  by_cases q : i = 239
  · rw [if_pos q, q]; rfl
  · rw [if_neg q]
    show (if i = 239 then _ else _) = (if i = 239 then _ else _)
    rw [if_neg q, if_neg q]
theorem hK_ur (ro' : Nat → Int32) : eUp (hK h jt mb hi wi rk co ro R s) 257 (.inl (0, 17, .inl ro')) = hK h jt mb hi wi rk co ro' R s := by
  refine eH_ext (fun i => ?_) rfl
  rw [eUp_if]
  by_cases q : i = 257
  · rw [if_pos q, q]; rfl
  · rw [if_neg q]
    by_cases q1 : i = 239
    · rw [q1]; rfl
    · by_cases q2 : i = 240
      · rw [q2]; rfl
      · by_cases q3 : i = 253
        · rw [q3]; rfl
        · by_cases q4 : i = 254
          · rw [q4]; rfl
          · by_cases q5 : i = 255
            · rw [q5]; rfl
            · rw [hK_ne (by omega), hK_ne (by omega)]
theorem hK_of {h' : eH} {R' : Nat → Int} (x : FM (hK h jt mb hi wi rk co ro R s) h') (n : MN h' (fR R')) (l : LX h') : ∃ s', h' = hK h jt mb hi wi rk co ro R' s' := by
  obtain ⟨⟨g1, l1⟩, ⟨g2, l2⟩, ⟨g3, l3⟩⟩ := l
  refine ⟨(g1, g2, g3), eH_ext (fun i => ?_) x.1⟩
  by_cases q2 : i = 240
  · rw [q2]; exact n
  · by_cases q3 : i = 253
    · rw [q3]; exact l1
    · by_cases q4 : i = 254
      · rw [q4]; exact l2
      · by_cases q5 : i = 255
        · rw [q5]; exact l3
        · rw [x.2 i q2 q3 q4 q5]
          show (if i = 239 then _ else if i = 240 then _ else if i = 253 then _ else if i = 254 then _ else if i = 255 then _ else if i = 257 then _ else h.1 i) = (if i = 239 then _ else if i = 240 then _ else if i = 253 then _ else if i = 254 then _ else if i = 255 then _ else if i = 257 then _ else h.1 i)
          rw [if_neg q2, if_neg q3, if_neg q4, if_neg q5, if_neg q2, if_neg q3, if_neg q4, if_neg q5]
theorem hW_hK (R' : Nat → Int) : hW (hK h jt mb hi wi rk co ro R s) (fR R') = hK h jt mb hi wi rk co ro R' s := by
  unfold hW
  refine eH_ext (fun i => ?_) rfl
  rw [eUp_if]
  by_cases q : i = 240
  · rw [if_pos q, q]; rfl
  · rw [if_neg q]
    show (if i = 239 then _ else if i = 240 then _ else _) = (if i = 239 then _ else if i = 240 then _ else _)
    rw [if_neg q, if_neg q]
theorem hK_hK {jt' mb' hi' wi' rk' co' : Int32} {ro' : Nat → Int32} {R' : Nat → Int} {s' : SC} : hK (hK h jt mb hi wi rk co ro R s) jt' mb' hi' wi' rk' co' ro' R' s' = hK h jt' mb' hi' wi' rk' co' ro' R' s' := by
  refine eH_ext (fun i => ?_) rfl
  show (if i = 239 then _ else if i = 240 then _ else if i = 253 then _ else if i = 254 then _ else if i = 255 then _ else if i = 257 then _ else (hK h jt mb hi wi rk co ro R s).1 i) = (if i = 239 then _ else if i = 240 then _ else if i = 253 then _ else if i = 254 then _ else if i = 255 then _ else if i = 257 then _ else h.1 i)
  by_cases q1 : i = 239
  · rw [if_pos q1, if_pos q1]
  · by_cases q2 : i = 240
    · rw [if_neg q1, if_neg q1, if_pos q2, if_pos q2]
    · by_cases q3 : i = 253
      · rw [if_neg q1, if_neg q1, if_neg q2, if_neg q2, if_pos q3, if_pos q3]
      · by_cases q4 : i = 254
        · rw [if_neg q1, if_neg q1, if_neg q2, if_neg q2, if_neg q3, if_neg q3, if_pos q4, if_pos q4]
        · by_cases q5 : i = 255
          · rw [if_neg q1, if_neg q1, if_neg q2, if_neg q2, if_neg q3, if_neg q3, if_neg q4, if_neg q4, if_pos q5, if_pos q5]
          · by_cases q6 : i = 257
            · rw [if_neg q1, if_neg q1, if_neg q2, if_neg q2, if_neg q3, if_neg q3, if_neg q4, if_neg q4, if_neg q5, if_neg q5, if_pos q6, if_pos q6]
            · rw [if_neg q1, if_neg q1, if_neg q2, if_neg q2, if_neg q3, if_neg q3, if_neg q4, if_neg q4, if_neg q5, if_neg q5, if_neg q6, if_neg q6, hK_ne (by omega)]
theorem hW_K : hW (hK h jt mb hi wi rk co ro R s) (fR R) = hK h jt mb hi wi rk co ro R s := hW_hK R
theorem m12 {v : Int} (ha : a < 412) (hv : -1000000000000000 ≤ v ∧ v ≤ 1000000000000000) : den 12 [.ref 239, .int (nI a), .long (lI v)] (hK h jt mb hi wi rk co ro R s) = some (none, hK h jt mb hi wi rk co ro (ur R a v) s) := by
  have e := d12 (h := hK h jt mb hi wi rk co ro R s) (f := fR R) hK_mo ha hv
  rw [hW_K, upR_fR, hW_hK] at e
  exact e
theorem m20 (ha : a < 412) (hb : b < 412) (hab : b ≠ a) : den 20 [.ref 239, .int (nI a), .int (nI b)] (hK h jt mb hi wi rk co ro R s) = some (none, hK h jt mb hi wi rk co ro (ur R a (R b)) s) := by
  have e := d20 (h := hK h jt mb hi wi rk co ro R s) (f := fR R) hK_mo ha hb hab (fR_rg R b)
  rw [hW_K, upR_fR, hW_hK] at e
  exact e
theorem m15 {t : Int} (ha : a < 412) (hb : b < 412) (hab : b ≠ a) (bu : n23 (R a)) (bv : n23 (R b)) (bt : -1000 ≤ t ∧ t ≤ 1000) : den 15 [.ref 239, .int (nI a), .int (nI b), .long (lI t)] (hK h jt mb hi wi rk co ro R s) = some (none, hK h jt mb hi wi rk co ro (ur R a (R a + R b * t)) s) := by
  have e := d15 (h := hK h jt mb hi wi rk co ro R s) (f := fR R) hK_mo ha hb hab (fR_rg R a) (fR_rg R b) bu.v.1 bv.v.1 bt
  rw [hW_K, upR_fR, hW_hK] at e
  exact e
theorem m18 (ha : a < 412) (bu : n23 (R a)) : den 18 [.ref 239, .int (nI a)] (hK h jt mb hi wi rk co ro R s) = some (none, hK h jt mb hi wi rk co ro (ur R a (-(R a))) s) := by
  have e := d18 (h := hK h jt mb hi wi rk co ro R s) (f := fR R) hK_mo ha (fR_rg R a) bu.v.1
  rw [hW_K, upR_fR, hW_hK] at e
  exact e
theorem m17 (ha : a < 412) (bu : n23 (R a)) : den 17 [.ref 239, .int (nI a)] (hK h jt mb hi wi rk co ro R s) = some (some (.int (ldI (decide (R a < 0)))), hK h jt mb hi wi rk co ro R s) := by
  have e := d17 (h := hK h jt mb hi wi rk co ro R s) (f := fR R) hK_mo ha (fR_rg R a) bu.v.1
  rw [hW_K] at e
  exact e
theorem m25 (ha : a < 412) (bu : n23 (R a)) : den 25 [.ref 239, .int (nI a)] (hK h jt mb hi wi rk co ro R s) = some (some (.int (ldI (decide (R a = 0)))), hK h jt mb hi wi rk co ro R s) := by
  have e := d25 (h := hK h jt mb hi wi rk co ro R s) (f := fR R) hK_mo ha (fR_rg R a) bu.v.1
  rw [hW_K] at e
  exact e
theorem m42 (ha : a < 412) (bu : n23 (R a)) : den 42 [.ref 239, .int (nI a)] (hK h jt mb hi wi rk co ro R s) = some (some (.int (iI (R a).sign)), hK h jt mb hi wi rk co ro R s) := by
  have e := d42 (h := hK h jt mb hi wi rk co ro R s) (f := fR R) hK_mo ha (fR_rg R a) bu.v.1
  rw [hW_K] at e
  exact e
theorem m27 (ht : t < 412) (ha : a < 412) (hb : b < 412) (bu : n23 (R a)) (bv : n23 (R b)) (buv : n23 (R a * R b)) : ∃ s', den 27 [.ref 239, .int (nI t), .int (nI a), .int (nI b)] (hK h jt mb hi wi rk co ro R s) = some (none, hK h jt mb hi wi rk co ro (ur R t (R a * R b)) s') := by
  obtain ⟨h', e, fm, n, l⟩ := d27 (h := hK h jt mb hi wi rk co ro R s) (f := fR R) hK_mo hK_mn hK_lx (fR_rg R a) (fR_rg R b) bu bv buv ht ha hb
  rw [upR_fR] at n
  obtain ⟨s', e'⟩ := hK_of fm n l
  exact ⟨s', by rw [e, e']⟩
theorem m29 (ha : a < 412) (hb : b < 412) (bu : n23 (R a)) (bv : n23 (R b)) (v0 : R b ≠ 0) : ∃ s', den 29 [.ref 239, .int (nI a), .int (nI b)] (hK h jt mb hi wi rk co ro R s) = some (none, hK h jt mb hi wi rk co ro (ur R a ((R a).tdiv (R b))) s') := by
  obtain ⟨h', e, fm, n, l⟩ := d29 (h := hK h jt mb hi wi rk co ro R s) (f := fR R) hK_mo hK_mn hK_lx (fR_rg R a) (fR_rg R b) bu bv v0 ha hb
  rw [upR_fR] at n
  obtain ⟨s', e'⟩ := hK_of fm n l
  exact ⟨s', by rw [e, e']⟩
theorem m35 {m : Nat} (ha : a < 412) (hm : m < BB ^ 23) (r : R a = m) : den 35 [.ref 239, .int (nI a)] (hK h jt mb hi wi rk co ro R s) = some (some (.int (ldI (decide (m % 2 = 0)))), hK h jt mb hi wi rk co ro R s) := by
  have e := d35 (h := hK h jt mb hi wi rk co ro R s) (f := fR R) hK_mo ha hm (by rw [← r]; exact fR_rg R a)
  rw [hW_K] at e
  exact e
theorem m36 {m : Nat} (ha : a < 412) (hm : m < BB ^ 23) (r : R a = m) : den 36 [.ref 239, .int (nI a)] (hK h jt mb hi wi rk co ro R s) = some (none, hK h jt mb hi wi rk co ro (ur R a ((m / 2 : Nat) : Int)) s) := by
  have e := d36 (h := hK h jt mb hi wi rk co ro R s) (f := fR R) hK_mo ha hm (by rw [← r]; exact fR_rg R a)
  rw [hW_K, upR_fR, hW_hK] at e
  exact e
theorem m37 {m m' : Nat} (ha : a < 412) (hb : b < 412) (hm : m < BB ^ 23) (hm' : m' < BB ^ 23) (r : R a = m) (r' : R b = m') : den 37 [.ref 239, .int (nI a), .int (nI b)] (hK h jt mb hi wi rk co ro R s) = some (some (.int (ldI (decide (m < m')))), hK h jt mb hi wi rk co ro R s) := by
  have e := d37 (h := hK h jt mb hi wi rk co ro R s) (f := fR R) hK_mo ha hb hm hm' (by rw [← r]; exact fR_rg R a) (by rw [← r']; exact fR_rg R b)
  rw [hW_K] at e
  exact e
theorem m19 (ha : a < 412) (bu : n23 (R a)) : ∃ s', den 19 [.ref 239, .int (nI a), .ref 253] (hK h jt mb hi wi rk co ro R s) = some (none, hK h jt mb hi wi rk co ro R s') ∧ LN (hK h jt mb hi wi rk co ro R s') 253 (R a).natAbs := by
  obtain ⟨h', e, e2, e3, ln⟩ := d19 (i := 253) (h := hK h jt mb hi wi rk co ro R s) (f := fR R) hK_mo hK_mn (fR_rg R a) bu ha (by decide) ⟨s.1, rfl⟩
  have fm : FM (hK h jt mb hi wi rk co ro R s) h' := ⟨e2, fun i _ i2 _ _ => e3 i i2⟩
  obtain ⟨s', e'⟩ := hK_of (R' := R) fm ((e3 240 (by decide)).trans hK_mn) ⟨ln.x, ⟨s.2.1, (e3 254 (by decide)).trans rfl⟩, ⟨s.2.2, (e3 255 (by decide)).trans rfl⟩⟩
  exact ⟨s', by rw [e, e'], by rw [← e']; exact ln⟩
end KF1
