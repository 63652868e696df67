/-! THE REFERENCE: row, tear, write, load, pull -/
theorem hK_un {h : eH} {jt mb hi wi rk co : Int32} {ro : Nat → Int32} {R : Nat → Int} {s : SC} {i : Nat} {e : va_E} (hi' : (240 < i ∧ i < 253) ∨ i = 256) : eUp (hK h jt mb hi wi rk co ro R s) i e = hK (eUp h i e) jt mb hi wi rk co ro R s := by
  refine eH_ext (fun j => ?_) rfl
  rw [eUp_if]
  by_cases q : j = i
  · rw [if_pos q, q, hK_ne (by omega), eUp_at]
  · rw [if_neg q]
    by_cases q1 : j = 239
    · rw [q1]; rfl
    · by_cases q2 : j = 240
      · rw [q2]; rfl
      · by_cases q3 : j = 253
        · rw [q3]; rfl
        · by_cases q4 : j = 254
          · rw [q4]; rfl
          · by_cases q5 : j = 255
            · rw [q5]; rfl
            · by_cases q6 : j = 257
              · rw [q6]; rfl
              · rw [hK_ne (by omega), hK_ne (by omega), eUp_ne q]
theorem hK_us {h : eH} {jt mb hi wi rk co : Int32} {ro : Nat → Int32} {R : Nat → Int} {s : SC} : (∀ e, eUp (hK h jt mb hi wi rk co ro R s) 241 e = hK (eUp h 241 e) jt mb hi wi rk co ro R s) ∧ (∀ e, eUp (hK h jt mb hi wi rk co ro R s) 242 e = hK (eUp h 242 e) jt mb hi wi rk co ro R s) ∧ (∀ e, eUp (hK h jt mb hi wi rk co ro R s) 243 e = hK (eUp h 243 e) jt mb hi wi rk co ro R s) ∧ (∀ e, eUp (hK h jt mb hi wi rk co ro R s) 244 e = hK (eUp h 244 e) jt mb hi wi rk co ro R s) ∧ (∀ e, eUp (hK h jt mb hi wi rk co ro R s) 245 e = hK (eUp h 245 e) jt mb hi wi rk co ro R s) ∧ (∀ e, eUp (hK h jt mb hi wi rk co ro R s) 246 e = hK (eUp h 246 e) jt mb hi wi rk co ro R s) ∧ (∀ e, eUp (hK h jt mb hi wi rk co ro R s) 247 e = hK (eUp h 247 e) jt mb hi wi rk co ro R s) ∧ (∀ e, eUp (hK h jt mb hi wi rk co ro R s) 248 e = hK (eUp h 248 e) jt mb hi wi rk co ro R s) ∧ (∀ e, eUp (hK h jt mb hi wi rk co ro R s) 249 e = hK (eUp h 249 e) jt mb hi wi rk co ro R s) ∧ (∀ e, eUp (hK h jt mb hi wi rk co ro R s) 250 e = hK (eUp h 250 e) jt mb hi wi rk co ro R s) ∧ (∀ e, eUp (hK h jt mb hi wi rk co ro R s) 251 e = hK (eUp h 251 e) jt mb hi wi rk co ro R s) ∧ (∀ e, eUp (hK h jt mb hi wi rk co ro R s) 252 e = hK (eUp h 252 e) jt mb hi wi rk co ro R s) ∧ (∀ e, eUp (hK h jt mb hi wi rk co ro R s) 256 e = hK (eUp h 256 e) jt mb hi wi rk co ro R s) := by
  refine ⟨?_, ?_, ?_, ?_, ?_, ?_, ?_, ?_, ?_, ?_, ?_, ?_, ?_⟩ <;> intro e <;> exact hK_un (by omega)
theorem AR.ups {h : eH} {i L k s : Nat} {v : Nat → Int32} {f : Nat → Int32} {z : Int32} (x : ∀ j, j < k → f j = v j) : AR (eUp h i (.inl (0, L, .inl (upd f s z)))) i L k (fun j => if j = s then z else v j) := by
  refine ⟨_, eUp_at _ _ _, fun j hj => ?_⟩
  unfold upd
  dsimp only
  by_cases q : j = s
  · rw [if_pos q, if_pos q]
  · rw [if_neg q, if_neg q]; exact x j hj
theorem AR.upn {h : eH} {i j L k : Nat} {v : Nat → Int32} {e : va_E} (x : AR h i L k v) (hij : i ≠ j) : AR (eUp h j e) i L k v := x.keep (eUp_ne hij)
theorem AR.cg {h : eH} {i L k : Nat} {v w : Nat → Int32} (x : AR h i L k v) (e : ∀ j, j < k → v j = w j) : AR h i L k w := by
  obtain ⟨f, x1, x2⟩ := x
  exact ⟨f, x1, fun j hj => (x2 j hj).trans (e j hj)⟩
def RT2 (h : eH) (o : Option eR) (ret : Option Value) (g : SG) : Prop := ∃ h1 hi wi rk co ro R s, o = some (ret, hK h1 (nI (nJ g.2.1)) (nI (nM g.2.1)) hi wi rk co ro R s) ∧ FJ h h1 ∧ MNt h1 g.2.1 ∧ MSl h1 g.1 ∧ MRw h1 ∧ R 0 = g.2.2.1 ∧ R 1 = g.2.2.2
theorem RT2.fin {h h1 : eH} {g : SG} {hi wi rk co : Int32} {ro : Nat → Int32} {R : Nat → Int} {s : SC} {ret : Option Value} (f : FJ h h1) (mn : MNt h1 g.2.1) (ms : MSl h1 g.1) (mr : MRw h1) (r0 : R 0 = g.2.2.1) (r1 : R 1 = g.2.2.2) : RT2 h (some (ret, hK h1 (nI (nJ g.2.1)) (nI (nM g.2.1)) hi wi rk co ro R s)) ret g := ⟨h1, hi, wi, rk, co, ro, R, s, rfl, f, mn, ms, mr, r0, r1⟩
theorem MI.lift2 {h : eH} {g g' : SG} {k : Nat} {as : List Value} {ret : Option Value} (mi : MI h g) (b0 : n23 g'.2.2.1) (b1 : n23z g'.2.2.2) (hv' : NV g'.2.1) (sv' : SV g'.1) (F : ∀ hi wi rk co ro R s, R 0 = g.2.2.1 → R 1 = g.2.2.2 → MNt h g.2.1 → NV g.2.1 → MSl h g.1 → SV g.1 → MRw h → RT2 h (den k as (hK h (nI (nJ g.2.1)) (nI (nM g.2.1)) hi wi rk co ro R s)) ret g') : ∃ h', den k as h = some (ret, h') ∧ FJ h h' ∧ MI h' g' := by
  obtain ⟨hi, wi, rk, co, ro, R, s, eh, r0, r1, -, -, mn, hv, ms, sv, mr⟩ := mi
  obtain ⟨h1, hi', wi', rk', co', ro', R', s', e, f, mn', ms', mr', q0, q1⟩ := F hi wi rk co ro R s r0 r1 mn hv ms sv mr
  refine ⟨hK h1 (nI (nJ g'.2.1)) (nI (nM g'.2.1)) hi' wi' rk' co' ro' R' s', ?_, ?_, MI.of (t := g'.2.2) mn' hv' ms' sv' mr' q0 q1 b0 b1⟩
  · rw [← eh] at e
    exact e
  · have f' : FJ (hK h (nI (nJ g.2.1)) (nI (nM g.2.1)) hi wi rk co ro R s) (hK h1 (nI (nJ g'.2.1)) (nI (nM g'.2.1)) hi' wi' rk' co' ro' R' s') := FJ.kk f
    rw [← eh] at f'
    exact f'
theorem m57 {x : Int} (hx : iok x) (h : eH) : den 57 [.int (iI x)] h = some (some (.int (ldI (decide (0 ≤ x ∧ x < 8)))), h) := by
  rw [E57]
  simp only [S57, gFs, pFs, okq, bls, bo_true, eUp_at, eUp_eUp, eKls, cl_some, Option.toList_some, Option.toList_none, List.cons_append, List.nil_append]
  have l1 : nI 7 < iI x ↔ 7 < x := by rw [nI_I]; exact iI_lt (by unfold iok; omega) hx
  by_cases q : x < 0
  · rw [if_pos ((lt0 hx).mpr q), decide_eq_false (by omega)]; rfl
  · rw [if_neg (fun e => q ((lt0 hx).mp e))]
    by_cases q1 : 7 < x
    · rw [if_pos (l1.mpr q1), decide_eq_false (by omega)]; rfl
    · rw [if_neg (fun e => q1 (l1.mp e)), decide_eq_true (by omega)]; rfl
theorem m59 {x : Int} (hx : iok x) (h : eH) : den 59 [.int (iI x)] h = some (some (.int (ldI (decide (-1000 ≤ x ∧ x ≤ 1000)))), h) := by
  rw [E59]
  simp only [S59, gFs, pFs, okq, bls, bo_true, eUp_at, eUp_eUp, eKls, cl_some, Option.toList_some, Option.toList_none, List.cons_append, List.nil_append]
  have l0 : iI x < -1000 ↔ x < -1000 := by rw [show (-1000 : Int32) = iI (-1000) from by decide]; exact iI_lt hx (by unfold iok; omega)
  have l1 : nI 1000 < iI x ↔ 1000 < x := by rw [nI_I]; exact iI_lt (by unfold iok; omega) hx
  by_cases q : x < -1000
  · rw [if_pos (l0.mpr q), decide_eq_false (by omega)]; rfl
  · rw [if_neg (fun e => q (l0.mp e))]
    by_cases q1 : 1000 < x
    · rw [if_pos (l1.mpr q1), decide_eq_false (by omega)]; rfl
    · rw [if_neg (fun e => q1 (l1.mp e)), decide_eq_true (by omega)]; rfl
section RW1
variable {h : eH} {g : SG} {n : NT} {jt mb hi wi rk co : Int32} {ro : Nat → Int32} {s : SC} {R : Nat → Int}
theorem r68 {m v : Int} (mi : MI h g) (km : iok m) (kv : iok v) : ∃ h', den 68 [.ref 239, .int (iI m), .int (iI v)] h = some (some (.int (iI (pullR g.2.1 m v))), h') ∧ FJ h h' ∧ MI h' (pullS g m v) := by
  obtain ⟨b0, b1, hv0, sv0⟩ := mi.b
  have nv := pullN_nv (m := m) (v := v) hv0
  have hg : pullS g m v = (g.1, (if pullR g.2.1 m v = 0 then pullN g.2.1 m v else g.2.1), g.2.2) := by
    unfold pullS
    split <;> rfl
  rw [hg]
  refine mi.lift2 b0 b1 (by dsimp only; split; exact nv (by assumption); exact hv0) sv0 (fun hi wi rk co ro R s r0 r1 mn hv ms sv mr => ?_)
  have v1 := hv.1
  have e1 := m34 (h := h) (jt := nI (nJ g.2.1)) (hi := hi) (wi := wi) (rk := rk) (co := co) (ro := ro) (s := s) (R := R) hv km
  rw [E68 239 _ _ hK_o]
  simp only [S68, gFs, pFs, okq, bls, bo_true, eUp_at, eUp_eUp, eKls, cl_some, Option.toList_some, Option.toList_none, List.cons_append, List.nil_append, e1, m59 kv]
  by_cases q0 : 0 ≤ m ∧ m < nM g.2.1
  · rw [decide_eq_true q0, if_neg (show ¬ ldI true = 0 by decide)]
    by_cases q1 : -1000 ≤ v ∧ v ≤ 1000
    · obtain ⟨mm, hm⟩ : ∃ z : Nat, m = z := ⟨m.toNat, by omega⟩
      subst hm
      obtain ⟨x1, x2, x3, x4, x5, x6, x7, x8, f, x9, x9'⟩ := mn
      have hr : pullR g.2.1 mm v = 0 := by unfold pullR; rw [if_neg (fun e => e q0), if_neg (fun e => e q1)]
      rw [decide_eq_true q1, if_neg (show ¬ ldI true = 0 by decide), hr, if_pos rfl]
      simp only [S68, gFs, pFs, okq, bls, bo_true, eUp_at, eUp_eUp, eKls, cl_some, Option.toList_some, Option.toList_none, List.cons_append, List.nil_append, hK_o, hK_hs, x9, show iI (mm : Int) = nI mm from rfl]
      rw [wI_nI (by omega) (by decide)]
      simp only [S68, gFs, pFs, okq, bls, bo_true, eUp_at, eUp_eUp, eKls, cl_some, Option.toList_some, Option.toList_none, List.cons_append, List.nil_append, hK_us]
      refine RT2.fin (g := (g.1, pullN g.2.1 mm v, g.2.2)) (FJ.up (by decide) h) ?_ (ms.keep (fun i i1 i2 => eUp_ne (by omega))) ⟨_, (eUp_ne (by decide)).trans mr.choose_spec⟩ r0 r1
      obtain ⟨f3, x3a, x3b⟩ := x3
      refine ⟨x1.upn (by decide), x2.upn (by decide), ⟨f3, (eUp_ne (by decide)).trans x3a, x3b⟩, x4.upn (by decide), x5.upn (by decide), x6.upn (by decide), x7.upn (by decide), x8.upn (by decide), ?_⟩
      refine (AR.ups x9').cg (fun j hj => ?_)
      show _ = iI (if j = ((mm : Nat) : Int).toNat then v else nU g.2.1 j)
      rw [Int.toNat_natCast]
      split <;> rfl
    · have hr : pullR g.2.1 m v = -4 := by unfold pullR; rw [if_neg (fun e => e q0), if_pos q1]
      rw [decide_eq_false q1, if_pos (show ldI false = 0 by decide), hr, if_neg (by decide)]
      exact RT2.fin (g := (g.1, g.2.1, g.2.2)) (FJ.refl h) mn ms mr r0 r1
  · have hr : pullR g.2.1 m v = -2 := by unfold pullR; rw [if_pos q0]
    rw [decide_eq_false q0, if_pos (show ldI false = 0 by decide), hr, if_neg (by decide)]
    exact RT2.fin (g := (g.1, g.2.1, g.2.2)) (FJ.refl h) mn ms mr r0 r1
theorem r61 {j x y : Int} (mi : MI h g) (kj : iok j) (kx : iok x) (ky : iok y) : ∃ h', den 61 [.ref 239, .int (iI j), .int (iI x), .int (iI y)] h = some (some (.int (iI (loadR g.2.1 j x y))), h') ∧ FJ h h' ∧ MI h' (loadS g j x y) := by
  obtain ⟨b0, b1, hv0, sv0⟩ := mi.b
  have nv := loadN_nv (j := j) (x := x) (y := y) hv0
  have hg : loadS g j x y = (g.1, (if loadR g.2.1 j x y = 0 then loadN g.2.1 j x y else g.2.1), g.2.2) := by
    unfold loadS
    split <;> rfl
  rw [hg]
  refine mi.lift2 b0 b1 (by dsimp only; split; exact nv (by assumption); exact hv0) sv0 (fun hi wi rk co ro R s r0 r1 mn hv ms sv mr => ?_)
  have v1 := hv.1
  have e1 := m55 (h := h) (mb := nI (nM g.2.1)) (hi := hi) (wi := wi) (rk := rk) (co := co) (ro := ro) (s := s) (R := R) hv kj
  rw [E61 239 _ _ _ hK_o]
  simp only [S61, gFs, pFs, okq, bls, bo_true, eUp_at, eUp_eUp, eKls, cl_some, Option.toList_some, Option.toList_none, List.cons_append, List.nil_append, e1, m59 kx, m59 ky]
  by_cases q0 : 0 ≤ j ∧ j < nJ g.2.1
  · rw [decide_eq_true q0, if_neg (show ¬ ldI true = 0 by decide)]
    by_cases q1 : -1000 ≤ x ∧ x ≤ 1000
    · rw [decide_eq_true q1, if_neg (show ¬ ldI true = 0 by decide)]
      by_cases q2 : -1000 ≤ y ∧ y ≤ 1000
      · obtain ⟨mm, hm⟩ : ∃ z : Nat, j = z := ⟨j.toNat, by omega⟩
        subst hm
        obtain ⟨x1, x2, x3, ⟨f4, x4, x4'⟩, ⟨f5, x5, x5'⟩, x6, x7, x8, x9⟩ := mn
        have hr : loadR g.2.1 mm x y = 0 := by unfold loadR; rw [if_neg (fun e => e q0), if_neg (fun e => e.elim (fun e => e q1) (fun e => e q2))]
        rw [decide_eq_true q2, if_neg (show ¬ ldI true = 0 by decide), hr, if_pos rfl]
        simp only [S61, gFs, pFs, okq, bls, bo_true, eUp_at, eUp_eUp, eKls, cl_some, Option.toList_some, Option.toList_none, List.cons_append, List.nil_append, hK_o, hK_hs, x4, show iI (mm : Int) = nI mm from rfl]
        rw [wI_nI (by omega) (by decide)]
        simp only [S61, gFs, pFs, okq, bls, bo_true, eUp_at, eUp_eUp, eKls, cl_some, Option.toList_some, Option.toList_none, List.cons_append, List.nil_append, hK_us, hK_o, hK_hs, eUp_ne (show (248 : Nat) ≠ 247 by decide), x5]
        rw [wI_nI (by omega) (by decide)]
        refine RT2.fin (g := (g.1, loadN g.2.1 mm x y, g.2.2)) ((FJ.up (by decide) h).trans (FJ.up (by decide) _)) ?_ (ms.keep (fun i i1 i2 => (eUp_ne (by omega)).trans (eUp_ne (by omega)))) ⟨_, ((eUp_ne (by decide)).trans (eUp_ne (by decide))).trans mr.choose_spec⟩ r0 r1
        obtain ⟨f3, x3a, x3b⟩ := x3
        refine ⟨(x1.upn (by decide)).upn (by decide), (x2.upn (by decide)).upn (by decide), ⟨f3, ((eUp_ne (by decide)).trans (eUp_ne (by decide))).trans x3a, x3b⟩, (AR.upn ((AR.ups x4').cg (fun j hj => ?_)) (by decide)), ((AR.ups x5').cg (fun j hj => ?_)), (x6.upn (by decide)).upn (by decide), (x7.upn (by decide)).upn (by decide), (x8.upn (by decide)).upn (by decide), (x9.upn (by decide)).upn (by decide)⟩
        · show _ = iI (if j = ((mm : Nat) : Int).toNat then (if 0 = 0 then x else y) else nL g.2.1 0 j)
          rw [Int.toNat_natCast, if_pos rfl]
          split <;> rfl
        · show _ = iI (if j = ((mm : Nat) : Int).toNat then (if 1 = 0 then x else y) else nL g.2.1 1 j)
          rw [Int.toNat_natCast, if_neg (show ¬ (1 : Nat) = 0 by decide)]
          split <;> rfl
      · have hr : loadR g.2.1 j x y = -4 := by unfold loadR; rw [if_neg (fun e => e q0), if_pos (Or.inr q2)]
        rw [decide_eq_false q2, if_pos (show ldI false = 0 by decide), hr, if_neg (by decide)]
        exact RT2.fin (g := (g.1, g.2.1, g.2.2)) (FJ.refl h) mn ms mr r0 r1
    · have hr : loadR g.2.1 j x y = -4 := by unfold loadR; rw [if_neg (fun e => e q0), if_pos (Or.inl q1)]
      rw [decide_eq_false q1, if_pos (show ldI false = 0 by decide), hr, if_neg (by decide)]
      exact RT2.fin (g := (g.1, g.2.1, g.2.2)) (FJ.refl h) mn ms mr r0 r1
  · have hr : loadR g.2.1 j x y = -2 := by unfold loadR; rw [if_pos q0]
    rw [decide_eq_false q0, if_pos (show ldI false = 0 by decide), hr, if_neg (by decide)]
    exact RT2.fin (g := (g.1, g.2.1, g.2.2)) (FJ.refl h) mn ms mr r0 r1
end RW1
