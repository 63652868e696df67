/-! A STEP OF THE EVALUATOR IS A STEP OF THE MACHINE -/
def eQ (D : va_G) (dA : Nat → ClassId) (b base : Nat) (x : eR) : Array Value → State → Outcome → State → Prop := fun _ st oc t => oc = .returned (x.1.map (lf b base)) ∧ WH D dA b base x.2 t.heap ∧ KK D dA t ∧ va_F (fun q => base ≤ q) st t
def ePc (D : va_G) (dA : Nat → ClassId) (b base : Nat) (as : List Value) (h : eH) : Array Value → State → Prop := va_Pc (as.map (lf b base)) (fun U => WH D dA b base h U.heap ∧ KK D dA U)
abbrev eRm (i : eMI) (h : eH) (x : eR) : Room := { frames := i.2.2.2.2.2.2.2.1, cells := x.2.2.1 - h.2.1, slots := x.2.2.2 - h.2.2, locals := i.2.2.2.2.2.2.2.2 }
def eMet (l : Launch) (D : va_G) (dA : Nat → ClassId) (b base : Nat) (i : eMI) (as : List Value) (h : eH) (x : eR) : Prop := Met l i.1 (Cond.code i.1 i.2.1 i.2.2.1 i.2.2.2.1 :: gT) (eRm i h x) (ePc D dA b base as h) (eQ D dA b base x) (x.2.2.1 - h.2.1) (x.2.2.2 - h.2.2) (fun q => base ≤ q)
def eMOK (qm : Nat → eMI) (l : Launch) (D : va_G) (dA : Nat → ClassId) (b base k : Nat) (M : eM) : Prop := ∀ (j : Nat) (as : List Value) (h : eH) (x : eR), j < k → M j as h = some x → mOK (qm j) ∧ eMet l D dA b base (qm j) as h x ∧ h.2.1 ≤ x.2.2.1 ∧ h.2.2 ≤ x.2.2.2 ∧ ((qm j).2.2.2.2.1 = false → ∀ a t, as = .ref a :: t → ∃ fs, h.1 a = .inr ((qm j).2.2.2.2.2.2.1, fs))
def eCx (p : Program) (s : State) (m : MethodId) (args : Array Value) (meth : Method) (c : Code) (D : va_G) (dA : Nat → ClassId) (b base : Nat) (sc : eSc) (i : eMI) (Ts : List Cond) : Prop :=
  p.tables.exec = Jvm.exec ∧ c.code = i.2.1 ∧ c.maxLocals = i.2.2.1 ∧ s.vm.findClass i.1.cls = some m.cls ∧ (∀ w ∈ Ts, w.before args s = true) ∧ (∀ w ∈ gT, w ∈ Ts) ∧ KK D dA s ∧ base ≤ s.heap.size ∧ (i.1.name = "<init>" → meth.name = "<init>") ∧ (∀ L xs, sc = some (L, xs) → va_X b L xs s s.heap ∧ b < s.heap.size ∧ b < base)
section SND
variable {p : Program} {l : Launch} {e : Env} {R : Room} {s : State} {m : MethodId} {args : Array Value} {below : List Frame} {meth : Method} {c : Code} {D : va_G} {dA : Nat → ClassId} {b base : Nat}
def eGo (p : Program) (l : Launch) (e : Env) (R : Room) (s : State) (m : MethodId) (args : Array Value) (below : List Frame) (meth : Method) (c : Code) (D : va_G) (dA : Nat → ClassId) (b base nL : Nat) (pc : Nat) (ls : eL) (st : List Value) (h : eH) (q' : eS) : Prop :=
  h.2.1 ≤ q'.2.2.2.2.1 ∧ h.2.2 ≤ q'.2.2.2.2.2 ∧ q'.2.1.length = ls.length ∧ ∀ {H : Heap} {locs : List Loc} {cells slots : Nat} {arr : Array Slot} {Q : State → Prop}, lv_has arr nL (eEnt b base ls) → WH D dA b base h H → va_S (fun q => base ≤ q) s.heap H locs → cells + (q'.2.2.2.2.1 - h.2.1) ≤ R.cells → slots + (q'.2.2.2.2.2 - h.2.2) ≤ R.slots →
    (∀ (H' : Heap) (locs' : List Loc) (arr' : Array Slot), lv_has arr' nL (eEnt b base q'.2.1) → WH D dA b base q'.2.2.2 H' → va_S (fun q => base ≤ q) s.heap H' locs' → W p l e R s m args below meth c H' locs' (cells + (q'.2.2.2.2.1 - h.2.1)) (slots + (q'.2.2.2.2.2 - h.2.2)) Q (F0 m q'.1 arr' (q'.2.2.1.map (lf b base)))) →
    W p l e R s m args below meth c H locs cells slots Q (F0 m pc arr (st.map (lf b base)))
/-- the heap stays -/
theorem eGo.pure {nL pc pc' : Nat} {ls ls' : eL} {st st' : List Value} {h : eH} (hl : ls'.length = ls.length)
    (k : ∀ {H : Heap} {locs : List Loc} {cells slots : Nat} {arr : Array Slot} {Q : State → Prop}, lv_has arr nL (eEnt b base ls) → WH D dA b base h H → va_S (fun q => base ≤ q) s.heap H locs → (∀ arr' : Array Slot, lv_has arr' nL (eEnt b base ls') → W p l e R s m args below meth c H locs cells slots Q (F0 m pc' arr' (st'.map (lf b base)))) → W p l e R s m args below meth c H locs cells slots Q (F0 m pc arr (st.map (lf b base)))) :
    eGo p l e R s m args below meth c D dA b base nL pc ls st h (pc', ls', st', h) := by
  refine ⟨Nat.le_refl _, Nat.le_refl _, hl, fun {H locs cells slots arr Q} hl hw hS h1 h2 kk => k hl hw hS fun arr' hl' => ?_⟩
  have := kk H locs arr' hl' hw hS
  simpa using this
/-- the locals stay too -/
theorem eGo.pure1 {nL pc pc' : Nat} {ls : eL} {st st' : List Value} {h : eH}
    (k : ∀ {H : Heap} {locs : List Loc} {cells slots : Nat} {arr : Array Slot} {Q : State → Prop}, lv_has arr nL (eEnt b base ls) → WH D dA b base h H → va_S (fun q => base ≤ q) s.heap H locs → W p l e R s m args below meth c H locs cells slots Q (F0 m pc' arr (st'.map (lf b base))) → W p l e R s m args below meth c H locs cells slots Q (F0 m pc arr (st.map (lf b base)))) :
    eGo p l e R s m args below meth c D dA b base nL pc ls st h (pc', ls, st', h) := eGo.pure rfl fun hl hw hS kk => k hl hw hS (kk _ hl)
/-- one cell changes -/
theorem eGo.put {nL pc pc' : Nat} {ls : eL} {st st' : List Value} {h : eH} {a : Nat} {x : va_E} (ha : h.1 a ≠ qbad)
    (k : ∀ {H : Heap} {locs : List Loc} {cells slots : Nat} {arr : Array Slot} {Q : State → Prop}, lv_has arr nL (eEnt b base ls) → WH D dA b base h H → a < h.2.1 → va_S (fun q => base ≤ q) s.heap H locs → (∀ (H' : Heap) (locs' : List Loc), va_P D qcls ((wl dA b base h).set a (base + a, lfE dA b base x)) H' → H'.size = H.size → va_S (fun q => base ≤ q) s.heap H' locs' → W p l e R s m args below meth c H' locs' cells slots Q (F0 m pc' arr (st'.map (lf b base)))) → W p l e R s m args below meth c H locs cells slots Q (F0 m pc arr (st.map (lf b base)))) :
    eGo p l e R s m args below meth c D dA b base nL pc ls st h (pc', ls, st', eUp h a x) := by
  refine ⟨Nat.le_refl _, Nat.le_refl _, rfl, fun {H locs cells slots arr Q} hl hw hS h1 h2 kk => ?_⟩
  have hlt := hw.lt rfl ha
  refine k hl hw hlt hS fun H' locs' hP hz hS' => ?_
  have := kk H' locs' arr hl (hw.up hlt hz hP) hS'
  simpa [eUp] using this
theorem lf_int (x : Int32) : lf b base (.int x) = .int x := rfl
theorem W_size {H H' : Heap} {locs' : List Loc} {P : Prop} (h : P) : P := h
theorem okv_ok {ty : FieldType} {v : Value} (h : okv ty v = true) : narrow ty (lf b base v) = lf b base v ∧ fits ty (lf b base v) = true := by
  unfold okv at h
  split at h
  · exact ⟨rfl, rfl⟩
  · exact ⟨rfl, rfl⟩
  · next x =>
    simp only [Bool.or_eq_true, beq_iff_eq] at h
    rcases h with rfl | rfl
    · exact ⟨show narrow .boolean (.int 0) = .int 0 by decide, show fits .boolean (.int 0) = true by decide⟩
    · exact ⟨show narrow .boolean (.int 1) = .int 1 by decide, show fits .boolean (.int 1) = true by decide⟩
  · exact ⟨rfl, rfl⟩
  · exact ⟨rfl, rfl⟩
  · cases h
theorem nb {x y : Nat} (h : Nat.beq x y = true) : x = y := Nat.eq_of_beq_eq_true h
-- CASES
theorem bal {α : Type} {c : Prop} [Decidable c] {x y z : α} (h : (if c then x else y) = z) : (c ∧ x = z) ∨ (¬ c ∧ y = z) := by
  by_cases hc : c
  · rw [if_pos hc] at h; exact Or.inl ⟨hc, h⟩
  · rw [if_neg hc] at h; exact Or.inr ⟨hc, h⟩
theorem jB_ok {r : eRow} {off : Int} (h : jB r off = true) : (r.1 : Int) + off = (r.2.2.2.1 : Int) ∧ r.2.2.1 = 3 := by
  simp only [jB, Bool.and_eq_true, decide_eq_true_eq] at h
  exact ⟨h.1, nb h.2⟩
theorem fB_ok {qm : Nat → eMI} {k : Nat} {r : eRow} {idx : Nat} (h : fB qm k r idx = true) : ∃ q, qcls[r.2.2.2.1]? = some q ∧ r.2.2.2.2.1 < q.2.2 ∧ Cond.fieldLink (qm k).1.cls idx q.1 (q.2.1 r.2.2.2.2.1).2.1 (q.2.1 r.2.2.2.2.1).2.2.1 ∈ gT := by
  unfold fB at h
  split at h
  · next q hq =>
    rw [Bool.and_eq_true] at h
    exact ⟨q, hq, Nat.le_of_ble_eq_true h.1, wAt_ok h.2⟩
  · cases h
theorem cB_ok {qm : Nat → eMI} {k : Nat} {r : eRow} (h : cB qm k r = true) : r.2.2.2.1 < k ∧ (qm r.2.2.2.1).2.2.2.2.2.2.2.1 + 1 ≤ (qm k).2.2.2.2.2.2.2.1 ∧ 8 + ((qm r.2.2.2.1).2.2.1 + 11) + (qm r.2.2.2.1).2.2.2.2.2.2.2.2 ≤ (qm k).2.2.2.2.2.2.2.2 ∧ (parseMethodDescriptor (qm r.2.2.2.1).1.desc).map (fun d => d.parameters.length) = some r.2.2.2.2.1 := by
  simp only [cB, Bool.and_eq_true, beq_iff_eq] at h
  obtain ⟨⟨⟨h1, h3⟩, h4⟩, h5⟩ := h
  exact ⟨Nat.le_of_ble_eq_true h1, Nat.le_of_ble_eq_true h3, Nat.le_of_ble_eq_true h4, h5⟩
theorem tysL_at {t : Nat} {ty : FieldType} (h : (tysL dA)[t]? = some (dA t, ty)) : (tysL dA)[t]? = some (dA t, ty) := h
/-- the rows of code speak of the words that all methods share -/
theorem goodG {Ts : List Cond} {i : eMI} (hT : ∀ w ∈ gT, w ∈ Ts) (hm : mOK i) : GoodIn Ts (Cond.code i.1 i.2.1 i.2.2.1 i.2.2.2.1 :: gT) := by
  intro w hw
  have hg : w ∈ gT := by
    rcases List.mem_cons.mp hw with rfl | h
    · exact hm.2.1
    · exact h
  exact ⟨hT w hg, good_of_word (gT_good hg).2⟩
theorem ePc_blind {as : List Value} {h : eH} : FrameBlind (ePc D dA b base as h) := fun a U g mk q => ⟨q.1, q.2.1, KK.same (s := U) (U := U.calling g mk a) rfl q.2.2⟩
/-- behind a call -/
theorem e_call {H : Heap} {locs : List Loc} {cells slots pc : Nat} {arr : Array Slot} {Q : State → Prop} {x : eR} {h : eH} {st0 t : List Value} {a : Array Value} (hr : va_Run p l e R s m args below meth c H locs cells slots (x.2.2.1 - h.2.1) (x.2.2.2 - h.2.2) (F0 m pc arr st0) (t.map (lf b base)) (eQ D dA b base x a) (fun q => base ≤ q)) (hS : va_S (fun q => base ≤ q) s.heap H locs)
    (kk : ∀ (H' : Heap) (locs' : List Loc), WH D dA b base x.2 H' → va_S (fun q => base ≤ q) s.heap H' locs' → W p l e R s m args below meth c H' locs' (cells + (x.2.2.1 - h.2.1)) (slots + (x.2.2.2 - h.2.2)) Q (F0 m (pc + 3) arr ((x.1.toList ++ t).map (lf b base)))) : W p l e R s m args below meth c H locs cells slots Q (F0 m pc arr st0) := by
  intro T hT X
  obtain ⟨v, st₀, u, T', L, h0, X', hL, e1, e2, ⟨hv, hw, -, hz, hk⟩, go⟩ := hr T hT X
  have hv' : v = x.1.map (lf b base) := by injection hv
  rw [h0] at hz hk
  have hSt : v.toList ++ t.map (lf b base) = (x.1.toList ++ t).map (lf b base) := by
    rw [hv', List.map_append]
    congr 1
    cases x.1 <;> rfl
  obtain ⟨t2, a1, b1⟩ := kk T'.heap (locs ++ L) (by rw [e1]; exact hw) ⟨Nat.le_trans hS.1 (by rw [e1]; exact hz), fun q g1 g2 => by
      rw [e1, hk q (Nat.lt_of_lt_of_le g1 hS.1) g2]
      exact hS.2.1 q g1 g2, fun q hq => by
      rcases List.mem_append.mp hq with h | h
      · exact hS.2.2 q h
      · exact hL q h⟩ T' rfl X'
  rw [← hSt] at a1
  exact ⟨t2, go t2 a1, b1⟩
section CASES
variable {qm : Nat → eMI} {k : Nat} {sc : eSc} {M : eM} {Ts : List Cond}

theorem sd_aload_n (C : eCx p s m args meth c D dA b base sc (qm k) Ts) (hM : eMOK qm l D dA b base k M) (hRf : R.frames = (qm k).2.2.2.2.2.2.2.1) (hRl : R.locals = (qm k).2.2.2.2.2.2.2.2) {pc len ra rb wi : Nat} {n : Fin 4} {ls : eL} {st : List Value} {h : eH} {q' : eS} (hd : decode (qm k).2.1 pc = .ok (.aload_n n, len)) (hi : iB qm k (pc, .aload_n n, len, ra, rb, wi) = true) (hs : estep sc M (pc, .aload_n n, len, ra, rb, wi) ls st h = some (.inl q')) : eGo p l e R s m args below meth c D dA b base (qm k).2.2.1 pc ls st h q' := by
  obtain ⟨hx, hb, hml, hown, hts0, hT, hK, hbs, hin, hsc⟩ := C
  have hts : ∀ w ∈ gT, w.before args s = true := fun w h => hts0 w (hT w h)
  have hlen : len = 1 := nb hi
  subst hlen
  have hs : oA (ls.getD n.val none) (fun v => some (.inl (pc + 1, ls, v :: st, h))) = some (Sum.inl q' : eS ⊕ eR) := hs
  obtain ⟨v, hv, hk, hs⟩ := iv_oA hs
  cases hs
  refine eGo.pure1 fun hl hw hS kk => ?_
  have ha := ent_at hl hv
  rcases hk with ⟨a, rfl⟩ | ⟨a, rfl⟩
  · exact lv_aload_n hx hb hd rfl ha kk
  · exact lv_aload_n hx hb hd rfl ha kk
theorem sd_aload (C : eCx p s m args meth c D dA b base sc (qm k) Ts) (hM : eMOK qm l D dA b base k M) (hRf : R.frames = (qm k).2.2.2.2.2.2.2.1) (hRl : R.locals = (qm k).2.2.2.2.2.2.2.2) {pc len ra rb wi : Nat} {n : Nat} {ls : eL} {st : List Value} {h : eH} {q' : eS} (hd : decode (qm k).2.1 pc = .ok (.aload n, len)) (hi : iB qm k (pc, .aload n, len, ra, rb, wi) = true) (hs : estep sc M (pc, .aload n, len, ra, rb, wi) ls st h = some (.inl q')) : eGo p l e R s m args below meth c D dA b base (qm k).2.2.1 pc ls st h q' := by
  obtain ⟨hx, hb, hml, hown, hts0, hT, hK, hbs, hin, hsc⟩ := C
  have hts : ∀ w ∈ gT, w.before args s = true := fun w h => hts0 w (hT w h)
  have hlen : len = 2 := nb hi
  subst hlen
  have hs : oA (ls.getD n none) (fun v => some (.inl (pc + 2, ls, v :: st, h))) = some (Sum.inl q' : eS ⊕ eR) := hs
  obtain ⟨v, hv, hk, hs⟩ := iv_oA hs
  cases hs
  refine eGo.pure1 fun hl hw hS kk => ?_
  have ha := ent_at hl hv
  rcases hk with ⟨a, rfl⟩ | ⟨a, rfl⟩
  · exact lv_aload hx hb hd ha kk
  · exact lv_aload hx hb hd ha kk
theorem sd_iload_n (C : eCx p s m args meth c D dA b base sc (qm k) Ts) (hM : eMOK qm l D dA b base k M) (hRf : R.frames = (qm k).2.2.2.2.2.2.2.1) (hRl : R.locals = (qm k).2.2.2.2.2.2.2.2) {pc len ra rb wi : Nat} {n : Fin 4} {ls : eL} {st : List Value} {h : eH} {q' : eS} (hd : decode (qm k).2.1 pc = .ok (.iload_n n, len)) (hi : iB qm k (pc, .iload_n n, len, ra, rb, wi) = true) (hs : estep sc M (pc, .iload_n n, len, ra, rb, wi) ls st h = some (.inl q')) : eGo p l e R s m args below meth c D dA b base (qm k).2.2.1 pc ls st h q' := by
  obtain ⟨hx, hb, hml, hown, hts0, hT, hK, hbs, hin, hsc⟩ := C
  have hts : ∀ w ∈ gT, w.before args s = true := fun w h => hts0 w (hT w h)
  have hlen : len = 1 := nb hi
  subst hlen
  obtain ⟨v, hv, hs⟩ := iv_oI hs
  cases hs
  exact eGo.pure1 fun hl hw hS kk => lv_iload_n hx hb hd rfl (ent_at hl hv) kk
theorem sd_iload (C : eCx p s m args meth c D dA b base sc (qm k) Ts) (hM : eMOK qm l D dA b base k M) (hRf : R.frames = (qm k).2.2.2.2.2.2.2.1) (hRl : R.locals = (qm k).2.2.2.2.2.2.2.2) {pc len ra rb wi : Nat} {n : Nat} {ls : eL} {st : List Value} {h : eH} {q' : eS} (hd : decode (qm k).2.1 pc = .ok (.iload n, len)) (hi : iB qm k (pc, .iload n, len, ra, rb, wi) = true) (hs : estep sc M (pc, .iload n, len, ra, rb, wi) ls st h = some (.inl q')) : eGo p l e R s m args below meth c D dA b base (qm k).2.2.1 pc ls st h q' := by
  obtain ⟨hx, hb, hml, hown, hts0, hT, hK, hbs, hin, hsc⟩ := C
  have hts : ∀ w ∈ gT, w.before args s = true := fun w h => hts0 w (hT w h)
  have hlen : len = 2 := nb hi
  subst hlen
  obtain ⟨v, hv, hs⟩ := iv_oI hs
  cases hs
  exact eGo.pure1 fun hl hw hS kk => lv_iload hx hb hd (ent_at hl hv) kk
theorem sd_lload_n (C : eCx p s m args meth c D dA b base sc (qm k) Ts) (hM : eMOK qm l D dA b base k M) (hRf : R.frames = (qm k).2.2.2.2.2.2.2.1) (hRl : R.locals = (qm k).2.2.2.2.2.2.2.2) {pc len ra rb wi : Nat} {n : Fin 4} {ls : eL} {st : List Value} {h : eH} {q' : eS} (hd : decode (qm k).2.1 pc = .ok (.lload_n n, len)) (hi : iB qm k (pc, .lload_n n, len, ra, rb, wi) = true) (hs : estep sc M (pc, .lload_n n, len, ra, rb, wi) ls st h = some (.inl q')) : eGo p l e R s m args below meth c D dA b base (qm k).2.2.1 pc ls st h q' := by
  obtain ⟨hx, hb, hml, hown, hts0, hT, hK, hbs, hin, hsc⟩ := C
  have hts : ∀ w ∈ gT, w.before args s = true := fun w h => hts0 w (hT w h)
  have hlen : len = 1 := nb hi
  subst hlen
  obtain ⟨v, hv, hs⟩ := iv_oL hs
  cases hs
  exact eGo.pure1 fun hl hw hS kk => lv_lload_n hx hb hd rfl (ent_at hl hv) kk
theorem sd_lload (C : eCx p s m args meth c D dA b base sc (qm k) Ts) (hM : eMOK qm l D dA b base k M) (hRf : R.frames = (qm k).2.2.2.2.2.2.2.1) (hRl : R.locals = (qm k).2.2.2.2.2.2.2.2) {pc len ra rb wi : Nat} {n : Nat} {ls : eL} {st : List Value} {h : eH} {q' : eS} (hd : decode (qm k).2.1 pc = .ok (.lload n, len)) (hi : iB qm k (pc, .lload n, len, ra, rb, wi) = true) (hs : estep sc M (pc, .lload n, len, ra, rb, wi) ls st h = some (.inl q')) : eGo p l e R s m args below meth c D dA b base (qm k).2.2.1 pc ls st h q' := by
  obtain ⟨hx, hb, hml, hown, hts0, hT, hK, hbs, hin, hsc⟩ := C
  have hts : ∀ w ∈ gT, w.before args s = true := fun w h => hts0 w (hT w h)
  have hlen : len = 2 := nb hi
  subst hlen
  obtain ⟨v, hv, hs⟩ := iv_oL hs
  cases hs
  exact eGo.pure1 fun hl hw hS kk => lv_lload hx hb hd (ent_at hl hv) kk
theorem sd_istore_n (C : eCx p s m args meth c D dA b base sc (qm k) Ts) (hM : eMOK qm l D dA b base k M) (hRf : R.frames = (qm k).2.2.2.2.2.2.2.1) (hRl : R.locals = (qm k).2.2.2.2.2.2.2.2) {pc len ra rb wi : Nat} {n : Fin 4} {ls : eL} {st : List Value} {h : eH} {q' : eS} (hd : decode (qm k).2.1 pc = .ok (.istore_n n, len)) (hi : iB qm k (pc, .istore_n n, len, ra, rb, wi) = true) (hs : estep sc M (pc, .istore_n n, len, ra, rb, wi) ls st h = some (.inl q')) : eGo p l e R s m args below meth c D dA b base (qm k).2.2.1 pc ls st h q' := by
  obtain ⟨hx, hb, hml, hown, hts0, hT, hK, hbs, hin, hsc⟩ := C
  have hts : ∀ w ∈ gT, w.before args s = true := fun w h => hts0 w (hT w h)
  have hi : (Nat.beq len 1 && _) = true := hi
  rw [Bool.and_eq_true] at hi
  have hlen : len = 1 := nb hi.1
  subst hlen
  obtain ⟨x, t, rfl, hs⟩ := iv_sI hs
  cases hs
  exact eGo.pure (eSet1_len ..) fun hl hw hS kk => lv_istore_n hx hb hd rfl hl (Nat.le_of_ble_eq_true hi.2) rfl (fun arr' hl' => kk arr' (lv_incl hl' eSet1_in))
theorem sd_istore (C : eCx p s m args meth c D dA b base sc (qm k) Ts) (hM : eMOK qm l D dA b base k M) (hRf : R.frames = (qm k).2.2.2.2.2.2.2.1) (hRl : R.locals = (qm k).2.2.2.2.2.2.2.2) {pc len ra rb wi : Nat} {n : Nat} {ls : eL} {st : List Value} {h : eH} {q' : eS} (hd : decode (qm k).2.1 pc = .ok (.istore n, len)) (hi : iB qm k (pc, .istore n, len, ra, rb, wi) = true) (hs : estep sc M (pc, .istore n, len, ra, rb, wi) ls st h = some (.inl q')) : eGo p l e R s m args below meth c D dA b base (qm k).2.2.1 pc ls st h q' := by
  obtain ⟨hx, hb, hml, hown, hts0, hT, hK, hbs, hin, hsc⟩ := C
  have hts : ∀ w ∈ gT, w.before args s = true := fun w h => hts0 w (hT w h)
  have hi : (Nat.beq len 2 && _) = true := hi
  rw [Bool.and_eq_true] at hi
  have hlen : len = 2 := nb hi.1
  subst hlen
  obtain ⟨x, t, rfl, hs⟩ := iv_sI hs
  cases hs
  exact eGo.pure (eSet1_len ..) fun hl hw hS kk => lv_istore hx hb hd hl (Nat.le_of_ble_eq_true hi.2) rfl (fun arr' hl' => kk arr' (lv_incl hl' eSet1_in))
theorem sd_astore_n (C : eCx p s m args meth c D dA b base sc (qm k) Ts) (hM : eMOK qm l D dA b base k M) (hRf : R.frames = (qm k).2.2.2.2.2.2.2.1) (hRl : R.locals = (qm k).2.2.2.2.2.2.2.2) {pc len ra rb wi : Nat} {n : Fin 4} {ls : eL} {st : List Value} {h : eH} {q' : eS} (hd : decode (qm k).2.1 pc = .ok (.astore_n n, len)) (hi : iB qm k (pc, .astore_n n, len, ra, rb, wi) = true) (hs : estep sc M (pc, .astore_n n, len, ra, rb, wi) ls st h = some (.inl q')) : eGo p l e R s m args below meth c D dA b base (qm k).2.2.1 pc ls st h q' := by
  obtain ⟨hx, hb, hml, hown, hts0, hT, hK, hbs, hin, hsc⟩ := C
  have hts : ∀ w ∈ gT, w.before args s = true := fun w h => hts0 w (hT w h)
  have hi : (Nat.beq len 1 && _) = true := hi
  rw [Bool.and_eq_true] at hi
  have hlen : len = 1 := nb hi.1
  subst hlen
  obtain ⟨x, t, rfl, hs⟩ := iv_sR hs
  cases hs
  exact eGo.pure (eSet1_len ..) fun hl hw hS kk => lv_astore_n hx hb hd rfl hl (Nat.le_of_ble_eq_true hi.2) rfl (fun arr' hl' => kk arr' (lv_incl hl' eSet1_in))
theorem sd_astore (C : eCx p s m args meth c D dA b base sc (qm k) Ts) (hM : eMOK qm l D dA b base k M) (hRf : R.frames = (qm k).2.2.2.2.2.2.2.1) (hRl : R.locals = (qm k).2.2.2.2.2.2.2.2) {pc len ra rb wi : Nat} {n : Nat} {ls : eL} {st : List Value} {h : eH} {q' : eS} (hd : decode (qm k).2.1 pc = .ok (.astore n, len)) (hi : iB qm k (pc, .astore n, len, ra, rb, wi) = true) (hs : estep sc M (pc, .astore n, len, ra, rb, wi) ls st h = some (.inl q')) : eGo p l e R s m args below meth c D dA b base (qm k).2.2.1 pc ls st h q' := by
  obtain ⟨hx, hb, hml, hown, hts0, hT, hK, hbs, hin, hsc⟩ := C
  have hts : ∀ w ∈ gT, w.before args s = true := fun w h => hts0 w (hT w h)
  have hi : (Nat.beq len 2 && _) = true := hi
  rw [Bool.and_eq_true] at hi
  have hlen : len = 2 := nb hi.1
  subst hlen
  obtain ⟨x, t, rfl, hs⟩ := iv_sR hs
  cases hs
  exact eGo.pure (eSet1_len ..) fun hl hw hS kk => lv_astore hx hb hd hl (Nat.le_of_ble_eq_true hi.2) rfl (fun arr' hl' => kk arr' (lv_incl hl' eSet1_in))
theorem sd_lstore_n (C : eCx p s m args meth c D dA b base sc (qm k) Ts) (hM : eMOK qm l D dA b base k M) (hRf : R.frames = (qm k).2.2.2.2.2.2.2.1) (hRl : R.locals = (qm k).2.2.2.2.2.2.2.2) {pc len ra rb wi : Nat} {n : Fin 4} {ls : eL} {st : List Value} {h : eH} {q' : eS} (hd : decode (qm k).2.1 pc = .ok (.lstore_n n, len)) (hi : iB qm k (pc, .lstore_n n, len, ra, rb, wi) = true) (hs : estep sc M (pc, .lstore_n n, len, ra, rb, wi) ls st h = some (.inl q')) : eGo p l e R s m args below meth c D dA b base (qm k).2.2.1 pc ls st h q' := by
  obtain ⟨hx, hb, hml, hown, hts0, hT, hK, hbs, hin, hsc⟩ := C
  have hts : ∀ w ∈ gT, w.before args s = true := fun w h => hts0 w (hT w h)
  have hi : (Nat.beq len 1 && _) = true := hi
  rw [Bool.and_eq_true] at hi
  have hlen : len = 1 := nb hi.1
  subst hlen
  obtain ⟨x, t, rfl, hs⟩ := iv_sL hs
  cases hs
  exact eGo.pure (eSet2_len ..) fun hl hw hS kk => lv_lstore_n hx hb hd rfl hl (Nat.le_of_ble_eq_true hi.2) rfl (fun arr' hl' => kk arr' (lv_incl hl' eSet2_in))
theorem sd_lstore (C : eCx p s m args meth c D dA b base sc (qm k) Ts) (hM : eMOK qm l D dA b base k M) (hRf : R.frames = (qm k).2.2.2.2.2.2.2.1) (hRl : R.locals = (qm k).2.2.2.2.2.2.2.2) {pc len ra rb wi : Nat} {n : Nat} {ls : eL} {st : List Value} {h : eH} {q' : eS} (hd : decode (qm k).2.1 pc = .ok (.lstore n, len)) (hi : iB qm k (pc, .lstore n, len, ra, rb, wi) = true) (hs : estep sc M (pc, .lstore n, len, ra, rb, wi) ls st h = some (.inl q')) : eGo p l e R s m args below meth c D dA b base (qm k).2.2.1 pc ls st h q' := by
  obtain ⟨hx, hb, hml, hown, hts0, hT, hK, hbs, hin, hsc⟩ := C
  have hts : ∀ w ∈ gT, w.before args s = true := fun w h => hts0 w (hT w h)
  have hi : (Nat.beq len 2 && _) = true := hi
  rw [Bool.and_eq_true] at hi
  have hlen : len = 2 := nb hi.1
  subst hlen
  obtain ⟨x, t, rfl, hs⟩ := iv_sL hs
  cases hs
  exact eGo.pure (eSet2_len ..) fun hl hw hS kk => lv_lstore hx hb hd hl (Nat.le_of_ble_eq_true hi.2) rfl (fun arr' hl' => kk arr' (lv_incl hl' eSet2_in))
theorem sd_iinc (C : eCx p s m args meth c D dA b base sc (qm k) Ts) (hM : eMOK qm l D dA b base k M) (hRf : R.frames = (qm k).2.2.2.2.2.2.2.1) (hRl : R.locals = (qm k).2.2.2.2.2.2.2.2) {pc len ra rb wi : Nat} {i : Nat} {n : Int} {ls : eL} {st : List Value} {h : eH} {q' : eS} (hd : decode (qm k).2.1 pc = .ok (.iinc i n, len)) (hi : iB qm k (pc, .iinc i n, len, ra, rb, wi) = true) (hs : estep sc M (pc, .iinc i n, len, ra, rb, wi) ls st h = some (.inl q')) : eGo p l e R s m args below meth c D dA b base (qm k).2.2.1 pc ls st h q' := by
  obtain ⟨hx, hb, hml, hown, hts0, hT, hK, hbs, hin, hsc⟩ := C
  have hts : ∀ w ∈ gT, w.before args s = true := fun w h => hts0 w (hT w h)
  have hi : (Nat.beq len 3 && _) = true := hi
  rw [Bool.and_eq_true] at hi
  have hlen : len = 3 := nb hi.1
  subst hlen
  obtain ⟨x, hv, hs⟩ := iv_oI hs
  cases hs
  refine eGo.pure (eSet1_len ..) fun hl hw hS kk => ?_
  obtain ⟨j, hj⟩ := List.getElem?_of_mem (eEnt_mem.mpr ⟨Value.int x, hv, rfl⟩ : (i, Value.int x) ∈ eEnt b base ls)
  exact lv_iinc hx hb hd hl hj rfl (Nat.le_of_ble_eq_true hi.2) rfl (fun arr' hl' => kk arr' (lv_incl hl' eSet1_in))
theorem sd_iconst (C : eCx p s m args meth c D dA b base sc (qm k) Ts) (hM : eMOK qm l D dA b base k M) (hRf : R.frames = (qm k).2.2.2.2.2.2.2.1) (hRl : R.locals = (qm k).2.2.2.2.2.2.2.2) {pc len ra rb wi : Nat} {n : Int} {ls : eL} {st : List Value} {h : eH} {q' : eS} (hd : decode (qm k).2.1 pc = .ok (.iconst n, len)) (hi : iB qm k (pc, .iconst n, len, ra, rb, wi) = true) (hs : estep sc M (pc, .iconst n, len, ra, rb, wi) ls st h = some (.inl q')) : eGo p l e R s m args below meth c D dA b base (qm k).2.2.1 pc ls st h q' := by
  obtain ⟨hx, hb, hml, hown, hts0, hT, hK, hbs, hin, hsc⟩ := C
  have hts : ∀ w ∈ gT, w.before args s = true := fun w h => hts0 w (hT w h)
  have hlen : len = 1 := nb hi
  subst hlen
  cases hs
  exact eGo.pure1 fun hl hw hS kk => lv_iconst hx hb hd rfl kk
theorem sd_bipush (C : eCx p s m args meth c D dA b base sc (qm k) Ts) (hM : eMOK qm l D dA b base k M) (hRf : R.frames = (qm k).2.2.2.2.2.2.2.1) (hRl : R.locals = (qm k).2.2.2.2.2.2.2.2) {pc len ra rb wi : Nat} {n : Int} {ls : eL} {st : List Value} {h : eH} {q' : eS} (hd : decode (qm k).2.1 pc = .ok (.bipush n, len)) (hi : iB qm k (pc, .bipush n, len, ra, rb, wi) = true) (hs : estep sc M (pc, .bipush n, len, ra, rb, wi) ls st h = some (.inl q')) : eGo p l e R s m args below meth c D dA b base (qm k).2.2.1 pc ls st h q' := by
  obtain ⟨hx, hb, hml, hown, hts0, hT, hK, hbs, hin, hsc⟩ := C
  have hts : ∀ w ∈ gT, w.before args s = true := fun w h => hts0 w (hT w h)
  have hlen : len = 2 := nb hi
  subst hlen
  cases hs
  exact eGo.pure1 fun hl hw hS kk => lv_bipush hx hb hd rfl kk
theorem sd_sipush (C : eCx p s m args meth c D dA b base sc (qm k) Ts) (hM : eMOK qm l D dA b base k M) (hRf : R.frames = (qm k).2.2.2.2.2.2.2.1) (hRl : R.locals = (qm k).2.2.2.2.2.2.2.2) {pc len ra rb wi : Nat} {n : Int} {ls : eL} {st : List Value} {h : eH} {q' : eS} (hd : decode (qm k).2.1 pc = .ok (.sipush n, len)) (hi : iB qm k (pc, .sipush n, len, ra, rb, wi) = true) (hs : estep sc M (pc, .sipush n, len, ra, rb, wi) ls st h = some (.inl q')) : eGo p l e R s m args below meth c D dA b base (qm k).2.2.1 pc ls st h q' := by
  obtain ⟨hx, hb, hml, hown, hts0, hT, hK, hbs, hin, hsc⟩ := C
  have hts : ∀ w ∈ gT, w.before args s = true := fun w h => hts0 w (hT w h)
  have hlen : len = 3 := nb hi
  subst hlen
  cases hs
  exact eGo.pure1 fun hl hw hS kk => lv_sipush hx hb hd rfl kk
theorem sd_lconst (C : eCx p s m args meth c D dA b base sc (qm k) Ts) (hM : eMOK qm l D dA b base k M) (hRf : R.frames = (qm k).2.2.2.2.2.2.2.1) (hRl : R.locals = (qm k).2.2.2.2.2.2.2.2) {pc len ra rb wi : Nat} {n : Fin 2} {ls : eL} {st : List Value} {h : eH} {q' : eS} (hd : decode (qm k).2.1 pc = .ok (.lconst n, len)) (hi : iB qm k (pc, .lconst n, len, ra, rb, wi) = true) (hs : estep sc M (pc, .lconst n, len, ra, rb, wi) ls st h = some (.inl q')) : eGo p l e R s m args below meth c D dA b base (qm k).2.2.1 pc ls st h q' := by
  obtain ⟨hx, hb, hml, hown, hts0, hT, hK, hbs, hin, hsc⟩ := C
  have hts : ∀ w ∈ gT, w.before args s = true := fun w h => hts0 w (hT w h)
  have hlen : len = 1 := nb hi
  subst hlen
  cases hs
  exact eGo.pure1 fun hl hw hS kk => lv_lconst hx hb hd rfl kk
theorem sd_ldc (C : eCx p s m args meth c D dA b base sc (qm k) Ts) (hM : eMOK qm l D dA b base k M) (hRf : R.frames = (qm k).2.2.2.2.2.2.2.1) (hRl : R.locals = (qm k).2.2.2.2.2.2.2.2) {pc len ra rb wi : Nat} {n : Nat} {ls : eL} {st : List Value} {h : eH} {q' : eS} (hd : decode (qm k).2.1 pc = .ok (.ldc n, len)) (hi : iB qm k (pc, .ldc n, len, ra, rb, wi) = true) (hs : estep sc M (pc, .ldc n, len, ra, rb, wi) ls st h = some (.inl q')) : eGo p l e R s m args below meth c D dA b base (qm k).2.2.1 pc ls st h q' := by
  obtain ⟨hx, hb, hml, hown, hts0, hT, hK, hbs, hin, hsc⟩ := C
  have hts : ∀ w ∈ gT, w.before args s = true := fun w h => hts0 w (hT w h)
  have hi : (Nat.beq len 2 && _) = true := hi
  rw [Bool.and_eq_true] at hi
  have hlen : len = 2 := nb hi.1
  subst hlen
  cases hs
  exact eGo.pure1 fun hl hw hS kk => lv_ldc hx hb hown (hts _ (wAt_ok hi.2)) hd kk
theorem sd_ldc2_w (C : eCx p s m args meth c D dA b base sc (qm k) Ts) (hM : eMOK qm l D dA b base k M) (hRf : R.frames = (qm k).2.2.2.2.2.2.2.1) (hRl : R.locals = (qm k).2.2.2.2.2.2.2.2) {pc len ra rb wi : Nat} {n : Nat} {ls : eL} {st : List Value} {h : eH} {q' : eS} (hd : decode (qm k).2.1 pc = .ok (.ldc2_w n, len)) (hi : iB qm k (pc, .ldc2_w n, len, ra, rb, wi) = true) (hs : estep sc M (pc, .ldc2_w n, len, ra, rb, wi) ls st h = some (.inl q')) : eGo p l e R s m args below meth c D dA b base (qm k).2.2.1 pc ls st h q' := by
  obtain ⟨hx, hb, hml, hown, hts0, hT, hK, hbs, hin, hsc⟩ := C
  have hts : ∀ w ∈ gT, w.before args s = true := fun w h => hts0 w (hT w h)
  have hi : (Nat.beq len 3 && _) = true := hi
  rw [Bool.and_eq_true] at hi
  have hlen : len = 3 := nb hi.1
  subst hlen
  cases hs
  exact eGo.pure1 fun hl hw hS kk => lv_ldc2 hx hb hown (hts _ (wAt_ok hi.2)) hd kk
theorem sd_iadd (C : eCx p s m args meth c D dA b base sc (qm k) Ts) (hM : eMOK qm l D dA b base k M) (hRf : R.frames = (qm k).2.2.2.2.2.2.2.1) (hRl : R.locals = (qm k).2.2.2.2.2.2.2.2) {pc len ra rb wi : Nat}  {ls : eL} {st : List Value} {h : eH} {q' : eS} (hd : decode (qm k).2.1 pc = .ok (.iadd, len)) (hi : iB qm k (pc, .iadd, len, ra, rb, wi) = true) (hs : estep sc M (pc, .iadd, len, ra, rb, wi) ls st h = some (.inl q')) : eGo p l e R s m args below meth c D dA b base (qm k).2.2.1 pc ls st h q' := by
  obtain ⟨hx, hb, hml, hown, hts0, hT, hK, hbs, hin, hsc⟩ := C
  have hts : ∀ w ∈ gT, w.before args s = true := fun w h => hts0 w (hT w h)
  have hlen : len = 1 := nb hi
  subst hlen
  obtain ⟨x, y, t, rfl, hs⟩ := iv_sII hs
  cases hs
  exact eGo.pure1 fun hl hw hS kk => lv_iadd hx hb hd kk
theorem sd_isub (C : eCx p s m args meth c D dA b base sc (qm k) Ts) (hM : eMOK qm l D dA b base k M) (hRf : R.frames = (qm k).2.2.2.2.2.2.2.1) (hRl : R.locals = (qm k).2.2.2.2.2.2.2.2) {pc len ra rb wi : Nat}  {ls : eL} {st : List Value} {h : eH} {q' : eS} (hd : decode (qm k).2.1 pc = .ok (.isub, len)) (hi : iB qm k (pc, .isub, len, ra, rb, wi) = true) (hs : estep sc M (pc, .isub, len, ra, rb, wi) ls st h = some (.inl q')) : eGo p l e R s m args below meth c D dA b base (qm k).2.2.1 pc ls st h q' := by
  obtain ⟨hx, hb, hml, hown, hts0, hT, hK, hbs, hin, hsc⟩ := C
  have hts : ∀ w ∈ gT, w.before args s = true := fun w h => hts0 w (hT w h)
  have hlen : len = 1 := nb hi
  subst hlen
  obtain ⟨x, y, t, rfl, hs⟩ := iv_sII hs
  cases hs
  exact eGo.pure1 fun hl hw hS kk => lv_isub hx hb hd kk
theorem sd_imul (C : eCx p s m args meth c D dA b base sc (qm k) Ts) (hM : eMOK qm l D dA b base k M) (hRf : R.frames = (qm k).2.2.2.2.2.2.2.1) (hRl : R.locals = (qm k).2.2.2.2.2.2.2.2) {pc len ra rb wi : Nat}  {ls : eL} {st : List Value} {h : eH} {q' : eS} (hd : decode (qm k).2.1 pc = .ok (.imul, len)) (hi : iB qm k (pc, .imul, len, ra, rb, wi) = true) (hs : estep sc M (pc, .imul, len, ra, rb, wi) ls st h = some (.inl q')) : eGo p l e R s m args below meth c D dA b base (qm k).2.2.1 pc ls st h q' := by
  obtain ⟨hx, hb, hml, hown, hts0, hT, hK, hbs, hin, hsc⟩ := C
  have hts : ∀ w ∈ gT, w.before args s = true := fun w h => hts0 w (hT w h)
  have hlen : len = 1 := nb hi
  subst hlen
  obtain ⟨x, y, t, rfl, hs⟩ := iv_sII hs
  cases hs
  exact eGo.pure1 fun hl hw hS kk => lv_imul hx hb hd kk
theorem sd_iand (C : eCx p s m args meth c D dA b base sc (qm k) Ts) (hM : eMOK qm l D dA b base k M) (hRf : R.frames = (qm k).2.2.2.2.2.2.2.1) (hRl : R.locals = (qm k).2.2.2.2.2.2.2.2) {pc len ra rb wi : Nat}  {ls : eL} {st : List Value} {h : eH} {q' : eS} (hd : decode (qm k).2.1 pc = .ok (.iand, len)) (hi : iB qm k (pc, .iand, len, ra, rb, wi) = true) (hs : estep sc M (pc, .iand, len, ra, rb, wi) ls st h = some (.inl q')) : eGo p l e R s m args below meth c D dA b base (qm k).2.2.1 pc ls st h q' := by
  obtain ⟨hx, hb, hml, hown, hts0, hT, hK, hbs, hin, hsc⟩ := C
  have hts : ∀ w ∈ gT, w.before args s = true := fun w h => hts0 w (hT w h)
  have hlen : len = 1 := nb hi
  subst hlen
  obtain ⟨x, y, t, rfl, hs⟩ := iv_sII hs
  cases hs
  exact eGo.pure1 fun hl hw hS kk => lv_iand hx hb hd kk
theorem sd_ior (C : eCx p s m args meth c D dA b base sc (qm k) Ts) (hM : eMOK qm l D dA b base k M) (hRf : R.frames = (qm k).2.2.2.2.2.2.2.1) (hRl : R.locals = (qm k).2.2.2.2.2.2.2.2) {pc len ra rb wi : Nat}  {ls : eL} {st : List Value} {h : eH} {q' : eS} (hd : decode (qm k).2.1 pc = .ok (.ior, len)) (hi : iB qm k (pc, .ior, len, ra, rb, wi) = true) (hs : estep sc M (pc, .ior, len, ra, rb, wi) ls st h = some (.inl q')) : eGo p l e R s m args below meth c D dA b base (qm k).2.2.1 pc ls st h q' := by
  obtain ⟨hx, hb, hml, hown, hts0, hT, hK, hbs, hin, hsc⟩ := C
  have hts : ∀ w ∈ gT, w.before args s = true := fun w h => hts0 w (hT w h)
  have hlen : len = 1 := nb hi
  subst hlen
  obtain ⟨x, y, t, rfl, hs⟩ := iv_sII hs
  cases hs
  exact eGo.pure1 fun hl hw hS kk => lv_ior hx hb hd kk
theorem sd_ishr (C : eCx p s m args meth c D dA b base sc (qm k) Ts) (hM : eMOK qm l D dA b base k M) (hRf : R.frames = (qm k).2.2.2.2.2.2.2.1) (hRl : R.locals = (qm k).2.2.2.2.2.2.2.2) {pc len ra rb wi : Nat}  {ls : eL} {st : List Value} {h : eH} {q' : eS} (hd : decode (qm k).2.1 pc = .ok (.ishr, len)) (hi : iB qm k (pc, .ishr, len, ra, rb, wi) = true) (hs : estep sc M (pc, .ishr, len, ra, rb, wi) ls st h = some (.inl q')) : eGo p l e R s m args below meth c D dA b base (qm k).2.2.1 pc ls st h q' := by
  obtain ⟨hx, hb, hml, hown, hts0, hT, hK, hbs, hin, hsc⟩ := C
  have hts : ∀ w ∈ gT, w.before args s = true := fun w h => hts0 w (hT w h)
  have hlen : len = 1 := nb hi
  subst hlen
  obtain ⟨x, y, t, rfl, hs⟩ := iv_sII hs
  cases hs
  exact eGo.pure1 fun hl hw hS kk => lv_ishr hx hb hd kk
theorem sd_iushr (C : eCx p s m args meth c D dA b base sc (qm k) Ts) (hM : eMOK qm l D dA b base k M) (hRf : R.frames = (qm k).2.2.2.2.2.2.2.1) (hRl : R.locals = (qm k).2.2.2.2.2.2.2.2) {pc len ra rb wi : Nat}  {ls : eL} {st : List Value} {h : eH} {q' : eS} (hd : decode (qm k).2.1 pc = .ok (.iushr, len)) (hi : iB qm k (pc, .iushr, len, ra, rb, wi) = true) (hs : estep sc M (pc, .iushr, len, ra, rb, wi) ls st h = some (.inl q')) : eGo p l e R s m args below meth c D dA b base (qm k).2.2.1 pc ls st h q' := by
  obtain ⟨hx, hb, hml, hown, hts0, hT, hK, hbs, hin, hsc⟩ := C
  have hts : ∀ w ∈ gT, w.before args s = true := fun w h => hts0 w (hT w h)
  have hlen : len = 1 := nb hi
  subst hlen
  obtain ⟨x, y, t, rfl, hs⟩ := iv_sII hs
  cases hs
  exact eGo.pure1 fun hl hw hS kk => lv_iushr hx hb hd rfl kk
theorem sd_ladd (C : eCx p s m args meth c D dA b base sc (qm k) Ts) (hM : eMOK qm l D dA b base k M) (hRf : R.frames = (qm k).2.2.2.2.2.2.2.1) (hRl : R.locals = (qm k).2.2.2.2.2.2.2.2) {pc len ra rb wi : Nat}  {ls : eL} {st : List Value} {h : eH} {q' : eS} (hd : decode (qm k).2.1 pc = .ok (.ladd, len)) (hi : iB qm k (pc, .ladd, len, ra, rb, wi) = true) (hs : estep sc M (pc, .ladd, len, ra, rb, wi) ls st h = some (.inl q')) : eGo p l e R s m args below meth c D dA b base (qm k).2.2.1 pc ls st h q' := by
  obtain ⟨hx, hb, hml, hown, hts0, hT, hK, hbs, hin, hsc⟩ := C
  have hts : ∀ w ∈ gT, w.before args s = true := fun w h => hts0 w (hT w h)
  have hlen : len = 1 := nb hi
  subst hlen
  obtain ⟨x, y, t, rfl, hs⟩ := iv_sLL hs
  cases hs
  exact eGo.pure1 fun hl hw hS kk => lv_ladd hx hb hd kk
theorem sd_lsub (C : eCx p s m args meth c D dA b base sc (qm k) Ts) (hM : eMOK qm l D dA b base k M) (hRf : R.frames = (qm k).2.2.2.2.2.2.2.1) (hRl : R.locals = (qm k).2.2.2.2.2.2.2.2) {pc len ra rb wi : Nat}  {ls : eL} {st : List Value} {h : eH} {q' : eS} (hd : decode (qm k).2.1 pc = .ok (.lsub, len)) (hi : iB qm k (pc, .lsub, len, ra, rb, wi) = true) (hs : estep sc M (pc, .lsub, len, ra, rb, wi) ls st h = some (.inl q')) : eGo p l e R s m args below meth c D dA b base (qm k).2.2.1 pc ls st h q' := by
  obtain ⟨hx, hb, hml, hown, hts0, hT, hK, hbs, hin, hsc⟩ := C
  have hts : ∀ w ∈ gT, w.before args s = true := fun w h => hts0 w (hT w h)
  have hlen : len = 1 := nb hi
  subst hlen
  obtain ⟨x, y, t, rfl, hs⟩ := iv_sLL hs
  cases hs
  exact eGo.pure1 fun hl hw hS kk => lv_lsub hx hb hd kk
theorem sd_lmul (C : eCx p s m args meth c D dA b base sc (qm k) Ts) (hM : eMOK qm l D dA b base k M) (hRf : R.frames = (qm k).2.2.2.2.2.2.2.1) (hRl : R.locals = (qm k).2.2.2.2.2.2.2.2) {pc len ra rb wi : Nat}  {ls : eL} {st : List Value} {h : eH} {q' : eS} (hd : decode (qm k).2.1 pc = .ok (.lmul, len)) (hi : iB qm k (pc, .lmul, len, ra, rb, wi) = true) (hs : estep sc M (pc, .lmul, len, ra, rb, wi) ls st h = some (.inl q')) : eGo p l e R s m args below meth c D dA b base (qm k).2.2.1 pc ls st h q' := by
  obtain ⟨hx, hb, hml, hown, hts0, hT, hK, hbs, hin, hsc⟩ := C
  have hts : ∀ w ∈ gT, w.before args s = true := fun w h => hts0 w (hT w h)
  have hlen : len = 1 := nb hi
  subst hlen
  obtain ⟨x, y, t, rfl, hs⟩ := iv_sLL hs
  cases hs
  exact eGo.pure1 fun hl hw hS kk => lv_lmul hx hb hd kk
theorem sd_land (C : eCx p s m args meth c D dA b base sc (qm k) Ts) (hM : eMOK qm l D dA b base k M) (hRf : R.frames = (qm k).2.2.2.2.2.2.2.1) (hRl : R.locals = (qm k).2.2.2.2.2.2.2.2) {pc len ra rb wi : Nat}  {ls : eL} {st : List Value} {h : eH} {q' : eS} (hd : decode (qm k).2.1 pc = .ok (.land, len)) (hi : iB qm k (pc, .land, len, ra, rb, wi) = true) (hs : estep sc M (pc, .land, len, ra, rb, wi) ls st h = some (.inl q')) : eGo p l e R s m args below meth c D dA b base (qm k).2.2.1 pc ls st h q' := by
  obtain ⟨hx, hb, hml, hown, hts0, hT, hK, hbs, hin, hsc⟩ := C
  have hts : ∀ w ∈ gT, w.before args s = true := fun w h => hts0 w (hT w h)
  have hlen : len = 1 := nb hi
  subst hlen
  obtain ⟨x, y, t, rfl, hs⟩ := iv_sLL hs
  cases hs
  exact eGo.pure1 fun hl hw hS kk => lv_land hx hb hd kk
theorem sd_lor (C : eCx p s m args meth c D dA b base sc (qm k) Ts) (hM : eMOK qm l D dA b base k M) (hRf : R.frames = (qm k).2.2.2.2.2.2.2.1) (hRl : R.locals = (qm k).2.2.2.2.2.2.2.2) {pc len ra rb wi : Nat}  {ls : eL} {st : List Value} {h : eH} {q' : eS} (hd : decode (qm k).2.1 pc = .ok (.lor, len)) (hi : iB qm k (pc, .lor, len, ra, rb, wi) = true) (hs : estep sc M (pc, .lor, len, ra, rb, wi) ls st h = some (.inl q')) : eGo p l e R s m args below meth c D dA b base (qm k).2.2.1 pc ls st h q' := by
  obtain ⟨hx, hb, hml, hown, hts0, hT, hK, hbs, hin, hsc⟩ := C
  have hts : ∀ w ∈ gT, w.before args s = true := fun w h => hts0 w (hT w h)
  have hlen : len = 1 := nb hi
  subst hlen
  obtain ⟨x, y, t, rfl, hs⟩ := iv_sLL hs
  cases hs
  exact eGo.pure1 fun hl hw hS kk => lv_lor hx hb hd kk
theorem sd_lxor (C : eCx p s m args meth c D dA b base sc (qm k) Ts) (hM : eMOK qm l D dA b base k M) (hRf : R.frames = (qm k).2.2.2.2.2.2.2.1) (hRl : R.locals = (qm k).2.2.2.2.2.2.2.2) {pc len ra rb wi : Nat}  {ls : eL} {st : List Value} {h : eH} {q' : eS} (hd : decode (qm k).2.1 pc = .ok (.lxor, len)) (hi : iB qm k (pc, .lxor, len, ra, rb, wi) = true) (hs : estep sc M (pc, .lxor, len, ra, rb, wi) ls st h = some (.inl q')) : eGo p l e R s m args below meth c D dA b base (qm k).2.2.1 pc ls st h q' := by
  obtain ⟨hx, hb, hml, hown, hts0, hT, hK, hbs, hin, hsc⟩ := C
  have hts : ∀ w ∈ gT, w.before args s = true := fun w h => hts0 w (hT w h)
  have hlen : len = 1 := nb hi
  subst hlen
  obtain ⟨x, y, t, rfl, hs⟩ := iv_sLL hs
  cases hs
  exact eGo.pure1 fun hl hw hS kk => lv_lxor hx hb hd kk
theorem sd_lcmp (C : eCx p s m args meth c D dA b base sc (qm k) Ts) (hM : eMOK qm l D dA b base k M) (hRf : R.frames = (qm k).2.2.2.2.2.2.2.1) (hRl : R.locals = (qm k).2.2.2.2.2.2.2.2) {pc len ra rb wi : Nat}  {ls : eL} {st : List Value} {h : eH} {q' : eS} (hd : decode (qm k).2.1 pc = .ok (.lcmp, len)) (hi : iB qm k (pc, .lcmp, len, ra, rb, wi) = true) (hs : estep sc M (pc, .lcmp, len, ra, rb, wi) ls st h = some (.inl q')) : eGo p l e R s m args below meth c D dA b base (qm k).2.2.1 pc ls st h q' := by
  obtain ⟨hx, hb, hml, hown, hts0, hT, hK, hbs, hin, hsc⟩ := C
  have hts : ∀ w ∈ gT, w.before args s = true := fun w h => hts0 w (hT w h)
  have hlen : len = 1 := nb hi
  subst hlen
  obtain ⟨x, y, t, rfl, hs⟩ := iv_sLL hs
  cases hs
  exact eGo.pure1 fun hl hw hS kk => W.lcmp hx hb hd kk
theorem sd_idiv (C : eCx p s m args meth c D dA b base sc (qm k) Ts) (hM : eMOK qm l D dA b base k M) (hRf : R.frames = (qm k).2.2.2.2.2.2.2.1) (hRl : R.locals = (qm k).2.2.2.2.2.2.2.2) {pc len ra rb wi : Nat}  {ls : eL} {st : List Value} {h : eH} {q' : eS} (hd : decode (qm k).2.1 pc = .ok (.idiv, len)) (hi : iB qm k (pc, .idiv, len, ra, rb, wi) = true) (hs : estep sc M (pc, .idiv, len, ra, rb, wi) ls st h = some (.inl q')) : eGo p l e R s m args below meth c D dA b base (qm k).2.2.1 pc ls st h q' := by
  obtain ⟨hx, hb, hml, hown, hts0, hT, hK, hbs, hin, hsc⟩ := C
  have hts : ∀ w ∈ gT, w.before args s = true := fun w h => hts0 w (hT w h)
  have hlen : len = 1 := nb hi
  subst hlen
  obtain ⟨x, y, t, rfl, hs⟩ := iv_sII hs
  rcases bal hs with ⟨-, hs⟩ | ⟨hy, hs⟩
  · cases hs
  · cases hs
    exact eGo.pure1 fun hl hw hS kk => lv_idiv hx hb hd hy kk
theorem sd_irem (C : eCx p s m args meth c D dA b base sc (qm k) Ts) (hM : eMOK qm l D dA b base k M) (hRf : R.frames = (qm k).2.2.2.2.2.2.2.1) (hRl : R.locals = (qm k).2.2.2.2.2.2.2.2) {pc len ra rb wi : Nat}  {ls : eL} {st : List Value} {h : eH} {q' : eS} (hd : decode (qm k).2.1 pc = .ok (.irem, len)) (hi : iB qm k (pc, .irem, len, ra, rb, wi) = true) (hs : estep sc M (pc, .irem, len, ra, rb, wi) ls st h = some (.inl q')) : eGo p l e R s m args below meth c D dA b base (qm k).2.2.1 pc ls st h q' := by
  obtain ⟨hx, hb, hml, hown, hts0, hT, hK, hbs, hin, hsc⟩ := C
  have hts : ∀ w ∈ gT, w.before args s = true := fun w h => hts0 w (hT w h)
  have hlen : len = 1 := nb hi
  subst hlen
  obtain ⟨x, y, t, rfl, hs⟩ := iv_sII hs
  rcases bal hs with ⟨-, hs⟩ | ⟨hy, hs⟩
  · cases hs
  · cases hs
    exact eGo.pure1 fun hl hw hS kk => lv_irem hx hb hd hy kk
theorem sd_ldiv (C : eCx p s m args meth c D dA b base sc (qm k) Ts) (hM : eMOK qm l D dA b base k M) (hRf : R.frames = (qm k).2.2.2.2.2.2.2.1) (hRl : R.locals = (qm k).2.2.2.2.2.2.2.2) {pc len ra rb wi : Nat}  {ls : eL} {st : List Value} {h : eH} {q' : eS} (hd : decode (qm k).2.1 pc = .ok (.ldiv, len)) (hi : iB qm k (pc, .ldiv, len, ra, rb, wi) = true) (hs : estep sc M (pc, .ldiv, len, ra, rb, wi) ls st h = some (.inl q')) : eGo p l e R s m args below meth c D dA b base (qm k).2.2.1 pc ls st h q' := by
  obtain ⟨hx, hb, hml, hown, hts0, hT, hK, hbs, hin, hsc⟩ := C
  have hts : ∀ w ∈ gT, w.before args s = true := fun w h => hts0 w (hT w h)
  have hlen : len = 1 := nb hi
  subst hlen
  obtain ⟨x, y, t, rfl, hs⟩ := iv_sLL hs
  rcases bal hs with ⟨-, hs⟩ | ⟨hy, hs⟩
  · cases hs
  · cases hs
    exact eGo.pure1 fun hl hw hS kk => lv_ldiv hx hb hd hy kk
theorem sd_lrem (C : eCx p s m args meth c D dA b base sc (qm k) Ts) (hM : eMOK qm l D dA b base k M) (hRf : R.frames = (qm k).2.2.2.2.2.2.2.1) (hRl : R.locals = (qm k).2.2.2.2.2.2.2.2) {pc len ra rb wi : Nat}  {ls : eL} {st : List Value} {h : eH} {q' : eS} (hd : decode (qm k).2.1 pc = .ok (.lrem, len)) (hi : iB qm k (pc, .lrem, len, ra, rb, wi) = true) (hs : estep sc M (pc, .lrem, len, ra, rb, wi) ls st h = some (.inl q')) : eGo p l e R s m args below meth c D dA b base (qm k).2.2.1 pc ls st h q' := by
  obtain ⟨hx, hb, hml, hown, hts0, hT, hK, hbs, hin, hsc⟩ := C
  have hts : ∀ w ∈ gT, w.before args s = true := fun w h => hts0 w (hT w h)
  have hlen : len = 1 := nb hi
  subst hlen
  obtain ⟨x, y, t, rfl, hs⟩ := iv_sLL hs
  rcases bal hs with ⟨-, hs⟩ | ⟨hy, hs⟩
  · cases hs
  · cases hs
    exact eGo.pure1 fun hl hw hS kk => lv_lrem hx hb hd hy kk
theorem sd_ineg (C : eCx p s m args meth c D dA b base sc (qm k) Ts) (hM : eMOK qm l D dA b base k M) (hRf : R.frames = (qm k).2.2.2.2.2.2.2.1) (hRl : R.locals = (qm k).2.2.2.2.2.2.2.2) {pc len ra rb wi : Nat}  {ls : eL} {st : List Value} {h : eH} {q' : eS} (hd : decode (qm k).2.1 pc = .ok (.ineg, len)) (hi : iB qm k (pc, .ineg, len, ra, rb, wi) = true) (hs : estep sc M (pc, .ineg, len, ra, rb, wi) ls st h = some (.inl q')) : eGo p l e R s m args below meth c D dA b base (qm k).2.2.1 pc ls st h q' := by
  obtain ⟨hx, hb, hml, hown, hts0, hT, hK, hbs, hin, hsc⟩ := C
  have hts : ∀ w ∈ gT, w.before args s = true := fun w h => hts0 w (hT w h)
  have hlen : len = 1 := nb hi
  subst hlen
  obtain ⟨x, t, rfl, hs⟩ := iv_sI hs
  cases hs
  exact eGo.pure1 fun hl hw hS kk => lv_ineg hx hb hd kk
theorem sd_lneg (C : eCx p s m args meth c D dA b base sc (qm k) Ts) (hM : eMOK qm l D dA b base k M) (hRf : R.frames = (qm k).2.2.2.2.2.2.2.1) (hRl : R.locals = (qm k).2.2.2.2.2.2.2.2) {pc len ra rb wi : Nat}  {ls : eL} {st : List Value} {h : eH} {q' : eS} (hd : decode (qm k).2.1 pc = .ok (.lneg, len)) (hi : iB qm k (pc, .lneg, len, ra, rb, wi) = true) (hs : estep sc M (pc, .lneg, len, ra, rb, wi) ls st h = some (.inl q')) : eGo p l e R s m args below meth c D dA b base (qm k).2.2.1 pc ls st h q' := by
  obtain ⟨hx, hb, hml, hown, hts0, hT, hK, hbs, hin, hsc⟩ := C
  have hts : ∀ w ∈ gT, w.before args s = true := fun w h => hts0 w (hT w h)
  have hlen : len = 1 := nb hi
  subst hlen
  obtain ⟨x, t, rfl, hs⟩ := iv_sL hs
  cases hs
  exact eGo.pure1 fun hl hw hS kk => lv_lneg hx hb hd kk
theorem sd_i2l (C : eCx p s m args meth c D dA b base sc (qm k) Ts) (hM : eMOK qm l D dA b base k M) (hRf : R.frames = (qm k).2.2.2.2.2.2.2.1) (hRl : R.locals = (qm k).2.2.2.2.2.2.2.2) {pc len ra rb wi : Nat}  {ls : eL} {st : List Value} {h : eH} {q' : eS} (hd : decode (qm k).2.1 pc = .ok (.i2l, len)) (hi : iB qm k (pc, .i2l, len, ra, rb, wi) = true) (hs : estep sc M (pc, .i2l, len, ra, rb, wi) ls st h = some (.inl q')) : eGo p l e R s m args below meth c D dA b base (qm k).2.2.1 pc ls st h q' := by
  obtain ⟨hx, hb, hml, hown, hts0, hT, hK, hbs, hin, hsc⟩ := C
  have hts : ∀ w ∈ gT, w.before args s = true := fun w h => hts0 w (hT w h)
  have hlen : len = 1 := nb hi
  subst hlen
  obtain ⟨x, t, rfl, hs⟩ := iv_sI hs
  cases hs
  exact eGo.pure1 fun hl hw hS kk => lv_i2l hx hb hd rfl kk
theorem sd_l2i (C : eCx p s m args meth c D dA b base sc (qm k) Ts) (hM : eMOK qm l D dA b base k M) (hRf : R.frames = (qm k).2.2.2.2.2.2.2.1) (hRl : R.locals = (qm k).2.2.2.2.2.2.2.2) {pc len ra rb wi : Nat}  {ls : eL} {st : List Value} {h : eH} {q' : eS} (hd : decode (qm k).2.1 pc = .ok (.l2i, len)) (hi : iB qm k (pc, .l2i, len, ra, rb, wi) = true) (hs : estep sc M (pc, .l2i, len, ra, rb, wi) ls st h = some (.inl q')) : eGo p l e R s m args below meth c D dA b base (qm k).2.2.1 pc ls st h q' := by
  obtain ⟨hx, hb, hml, hown, hts0, hT, hK, hbs, hin, hsc⟩ := C
  have hts : ∀ w ∈ gT, w.before args s = true := fun w h => hts0 w (hT w h)
  have hlen : len = 1 := nb hi
  subst hlen
  obtain ⟨x, t, rfl, hs⟩ := iv_sL hs
  cases hs
  exact eGo.pure1 fun hl hw hS kk => lv_l2i hx hb hd rfl kk
theorem sd_i2b (C : eCx p s m args meth c D dA b base sc (qm k) Ts) (hM : eMOK qm l D dA b base k M) (hRf : R.frames = (qm k).2.2.2.2.2.2.2.1) (hRl : R.locals = (qm k).2.2.2.2.2.2.2.2) {pc len ra rb wi : Nat}  {ls : eL} {st : List Value} {h : eH} {q' : eS} (hd : decode (qm k).2.1 pc = .ok (.i2b, len)) (hi : iB qm k (pc, .i2b, len, ra, rb, wi) = true) (hs : estep sc M (pc, .i2b, len, ra, rb, wi) ls st h = some (.inl q')) : eGo p l e R s m args below meth c D dA b base (qm k).2.2.1 pc ls st h q' := by
  obtain ⟨hx, hb, hml, hown, hts0, hT, hK, hbs, hin, hsc⟩ := C
  have hts : ∀ w ∈ gT, w.before args s = true := fun w h => hts0 w (hT w h)
  have hlen : len = 1 := nb hi
  subst hlen
  obtain ⟨x, t, rfl, hs⟩ := iv_sI hs
  cases hs
  exact eGo.pure1 fun hl hw hS kk => lv_i2b hx hb hd rfl kk
theorem sd_i2s (C : eCx p s m args meth c D dA b base sc (qm k) Ts) (hM : eMOK qm l D dA b base k M) (hRf : R.frames = (qm k).2.2.2.2.2.2.2.1) (hRl : R.locals = (qm k).2.2.2.2.2.2.2.2) {pc len ra rb wi : Nat}  {ls : eL} {st : List Value} {h : eH} {q' : eS} (hd : decode (qm k).2.1 pc = .ok (.i2s, len)) (hi : iB qm k (pc, .i2s, len, ra, rb, wi) = true) (hs : estep sc M (pc, .i2s, len, ra, rb, wi) ls st h = some (.inl q')) : eGo p l e R s m args below meth c D dA b base (qm k).2.2.1 pc ls st h q' := by
  obtain ⟨hx, hb, hml, hown, hts0, hT, hK, hbs, hin, hsc⟩ := C
  have hts : ∀ w ∈ gT, w.before args s = true := fun w h => hts0 w (hT w h)
  have hlen : len = 1 := nb hi
  subst hlen
  obtain ⟨x, t, rfl, hs⟩ := iv_sI hs
  cases hs
  exact eGo.pure1 fun hl hw hS kk => lv_i2s hx hb hd rfl kk
theorem sd_lshl (C : eCx p s m args meth c D dA b base sc (qm k) Ts) (hM : eMOK qm l D dA b base k M) (hRf : R.frames = (qm k).2.2.2.2.2.2.2.1) (hRl : R.locals = (qm k).2.2.2.2.2.2.2.2) {pc len ra rb wi : Nat}  {ls : eL} {st : List Value} {h : eH} {q' : eS} (hd : decode (qm k).2.1 pc = .ok (.lshl, len)) (hi : iB qm k (pc, .lshl, len, ra, rb, wi) = true) (hs : estep sc M (pc, .lshl, len, ra, rb, wi) ls st h = some (.inl q')) : eGo p l e R s m args below meth c D dA b base (qm k).2.2.1 pc ls st h q' := by
  obtain ⟨hx, hb, hml, hown, hts0, hT, hK, hbs, hin, hsc⟩ := C
  have hts : ∀ w ∈ gT, w.before args s = true := fun w h => hts0 w (hT w h)
  have hlen : len = 1 := nb hi
  subst hlen
  obtain ⟨x, y, t, rfl, hs⟩ := iv_sLI hs
  cases hs
  exact eGo.pure1 fun hl hw hS kk => lv_lshl hx hb hd rfl kk
theorem sd_dup (C : eCx p s m args meth c D dA b base sc (qm k) Ts) (hM : eMOK qm l D dA b base k M) (hRf : R.frames = (qm k).2.2.2.2.2.2.2.1) (hRl : R.locals = (qm k).2.2.2.2.2.2.2.2) {pc len ra rb wi : Nat}  {ls : eL} {st : List Value} {h : eH} {q' : eS} (hd : decode (qm k).2.1 pc = .ok (.dup, len)) (hi : iB qm k (pc, .dup, len, ra, rb, wi) = true) (hs : estep sc M (pc, .dup, len, ra, rb, wi) ls st h = some (.inl q')) : eGo p l e R s m args below meth c D dA b base (qm k).2.2.1 pc ls st h q' := by
  obtain ⟨hx, hb, hml, hown, hts0, hT, hK, hbs, hin, hsc⟩ := C
  have hts : ∀ w ∈ gT, w.before args s = true := fun w h => hts0 w (hT w h)
  have hlen : len = 1 := nb hi
  subst hlen
  obtain ⟨v, t, rfl, hs⟩ := iv_sV hs
  obtain ⟨hc, hs⟩ := iv_bo hs
  cases hs
  exact eGo.pure1 fun hl hw hS kk => lv_dup hx hb hd ((lf_cat b base v).trans (nb hc)) kk
theorem sd_pop (C : eCx p s m args meth c D dA b base sc (qm k) Ts) (hM : eMOK qm l D dA b base k M) (hRf : R.frames = (qm k).2.2.2.2.2.2.2.1) (hRl : R.locals = (qm k).2.2.2.2.2.2.2.2) {pc len ra rb wi : Nat}  {ls : eL} {st : List Value} {h : eH} {q' : eS} (hd : decode (qm k).2.1 pc = .ok (.pop, len)) (hi : iB qm k (pc, .pop, len, ra, rb, wi) = true) (hs : estep sc M (pc, .pop, len, ra, rb, wi) ls st h = some (.inl q')) : eGo p l e R s m args below meth c D dA b base (qm k).2.2.1 pc ls st h q' := by
  obtain ⟨hx, hb, hml, hown, hts0, hT, hK, hbs, hin, hsc⟩ := C
  have hts : ∀ w ∈ gT, w.before args s = true := fun w h => hts0 w (hT w h)
  have hlen : len = 1 := nb hi
  subst hlen
  obtain ⟨v, t, rfl, hs⟩ := iv_sV hs
  obtain ⟨hc, hs⟩ := iv_bo hs
  cases hs
  exact eGo.pure1 fun hl hw hS kk => lv_pop hx hb hd ((lf_cat b base v).trans (nb hc)) kk
theorem sd_dup2 (C : eCx p s m args meth c D dA b base sc (qm k) Ts) (hM : eMOK qm l D dA b base k M) (hRf : R.frames = (qm k).2.2.2.2.2.2.2.1) (hRl : R.locals = (qm k).2.2.2.2.2.2.2.2) {pc len ra rb wi : Nat}  {ls : eL} {st : List Value} {h : eH} {q' : eS} (hd : decode (qm k).2.1 pc = .ok (.dup2, len)) (hi : iB qm k (pc, .dup2, len, ra, rb, wi) = true) (hs : estep sc M (pc, .dup2, len, ra, rb, wi) ls st h = some (.inl q')) : eGo p l e R s m args below meth c D dA b base (qm k).2.2.1 pc ls st h q' := by
  obtain ⟨hx, hb, hml, hown, hts0, hT, hK, hbs, hin, hsc⟩ := C
  have hts : ∀ w ∈ gT, w.before args s = true := fun w h => hts0 w (hT w h)
  have hlen : len = 1 := nb hi
  subst hlen
  obtain ⟨v, t, rfl, hs⟩ := iv_sV hs
  obtain ⟨u, t, rfl, hs⟩ := iv_sV hs
  obtain ⟨hc, hs⟩ := iv_bo hs
  rw [Bool.and_eq_true] at hc
  cases hs
  exact eGo.pure1 fun hl hw hS kk => lv_dup2_11 hx hb hd ((lf_cat b base v).trans (nb hc.1)) ((lf_cat b base u).trans (nb hc.2)) kk
theorem sd_goto (C : eCx p s m args meth c D dA b base sc (qm k) Ts) (hM : eMOK qm l D dA b base k M) (hRf : R.frames = (qm k).2.2.2.2.2.2.2.1) (hRl : R.locals = (qm k).2.2.2.2.2.2.2.2) {pc len ra rb wi : Nat} {off : Int} {ls : eL} {st : List Value} {h : eH} {q' : eS} (hd : decode (qm k).2.1 pc = .ok (.goto off, len)) (hi : iB qm k (pc, .goto off, len, ra, rb, wi) = true) (hs : estep sc M (pc, .goto off, len, ra, rb, wi) ls st h = some (.inl q')) : eGo p l e R s m args below meth c D dA b base (qm k).2.2.1 pc ls st h q' := by
  obtain ⟨hx, hb, hml, hown, hts0, hT, hK, hbs, hin, hsc⟩ := C
  have hts : ∀ w ∈ gT, w.before args s = true := fun w h => hts0 w (hT w h)
  obtain ⟨ht, hlen⟩ := jB_ok hi
  dsimp only at ht hlen
  subst hlen
  cases hs
  exact eGo.pure1 fun hl hw hS kk => lv_goto hx hb hd ht kk
theorem sd_ifCond (C : eCx p s m args meth c D dA b base sc (qm k) Ts) (hM : eMOK qm l D dA b base k M) (hRf : R.frames = (qm k).2.2.2.2.2.2.2.1) (hRl : R.locals = (qm k).2.2.2.2.2.2.2.2) {pc len ra rb wi : Nat} {cd : Jvm.ClassFile.Cond} {off : Int} {ls : eL} {st : List Value} {h : eH} {q' : eS} (hd : decode (qm k).2.1 pc = .ok (.ifCond cd off, len)) (hi : iB qm k (pc, .ifCond cd off, len, ra, rb, wi) = true) (hs : estep sc M (pc, .ifCond cd off, len, ra, rb, wi) ls st h = some (.inl q')) : eGo p l e R s m args below meth c D dA b base (qm k).2.2.1 pc ls st h q' := by
  obtain ⟨hx, hb, hml, hown, hts0, hT, hK, hbs, hin, hsc⟩ := C
  have hts : ∀ w ∈ gT, w.before args s = true := fun w h => hts0 w (hT w h)
  obtain ⟨ht, hlen⟩ := jB_ok hi
  dsimp only at ht hlen
  subst hlen
  obtain ⟨x, t, rfl, hs⟩ := iv_sI hs
  cases cd with
  | eq =>
    rcases bal hs with ⟨hc, hs⟩ | ⟨hc, hs⟩
    · cases hs
      exact eGo.pure1 fun hl hw hS kk => lv_if_eq hx hb hd ht (fun _ => kk) (fun z => absurd hc z)
    · cases hs
      exact eGo.pure1 fun hl hw hS kk => lv_if_eq hx hb hd ht (fun z => absurd z hc) (fun _ => kk)
  | ne =>
    rcases bal hs with ⟨hc, hs⟩ | ⟨hc, hs⟩
    · cases hs
      exact eGo.pure1 fun hl hw hS kk => lv_if_ne hx hb hd ht (fun z => absurd hc z) (fun _ => kk)
    · cases hs
      exact eGo.pure1 fun hl hw hS kk => lv_if_ne hx hb hd ht (fun _ => kk) (fun z => absurd z hc)
  | lt =>
    rcases bal hs with ⟨hc, hs⟩ | ⟨hc, hs⟩
    · cases hs
      exact eGo.pure1 fun hl hw hS kk => lv_if_lt hx hb hd ht (fun _ => kk) (fun z => absurd hc z)
    · cases hs
      exact eGo.pure1 fun hl hw hS kk => lv_if_lt hx hb hd ht (fun z => absurd z hc) (fun _ => kk)
  | ge =>
    rcases bal hs with ⟨hc, hs⟩ | ⟨hc, hs⟩
    · cases hs
      exact eGo.pure1 fun hl hw hS kk => lv_if_ge hx hb hd ht (fun _ => kk) (fun z => absurd hc z)
    · cases hs
      exact eGo.pure1 fun hl hw hS kk => lv_if_ge hx hb hd ht (fun z => absurd z hc) (fun _ => kk)
  | gt =>
    rcases bal hs with ⟨hc, hs⟩ | ⟨hc, hs⟩
    · cases hs
      exact eGo.pure1 fun hl hw hS kk => lv_if_gt hx hb hd ht (fun _ => kk) (fun z => absurd hc z)
    · cases hs
      exact eGo.pure1 fun hl hw hS kk => lv_if_gt hx hb hd ht (fun z => absurd z hc) (fun _ => kk)
  | le =>
    rcases bal hs with ⟨hc, hs⟩ | ⟨hc, hs⟩
    · cases hs
      exact eGo.pure1 fun hl hw hS kk => lv_if_le hx hb hd ht (fun _ => kk) (fun z => absurd hc z)
    · cases hs
      exact eGo.pure1 fun hl hw hS kk => lv_if_le hx hb hd ht (fun z => absurd z hc) (fun _ => kk)
theorem sd_if_icmp (C : eCx p s m args meth c D dA b base sc (qm k) Ts) (hM : eMOK qm l D dA b base k M) (hRf : R.frames = (qm k).2.2.2.2.2.2.2.1) (hRl : R.locals = (qm k).2.2.2.2.2.2.2.2) {pc len ra rb wi : Nat} {cd : Jvm.ClassFile.Cond} {off : Int} {ls : eL} {st : List Value} {h : eH} {q' : eS} (hd : decode (qm k).2.1 pc = .ok (.if_icmp cd off, len)) (hi : iB qm k (pc, .if_icmp cd off, len, ra, rb, wi) = true) (hs : estep sc M (pc, .if_icmp cd off, len, ra, rb, wi) ls st h = some (.inl q')) : eGo p l e R s m args below meth c D dA b base (qm k).2.2.1 pc ls st h q' := by
  obtain ⟨hx, hb, hml, hown, hts0, hT, hK, hbs, hin, hsc⟩ := C
  have hts : ∀ w ∈ gT, w.before args s = true := fun w h => hts0 w (hT w h)
  obtain ⟨ht, hlen⟩ := jB_ok hi
  dsimp only at ht hlen
  subst hlen
  obtain ⟨x, y, t, rfl, hs⟩ := iv_sII hs
  cases cd with
  | eq =>
    rcases bal hs with ⟨hc, hs⟩ | ⟨hc, hs⟩
    · cases hs
      exact eGo.pure1 fun hl hw hS kk => lv_icmp_eq hx hb hd ht (fun _ => kk) (fun z => absurd hc z)
    · cases hs
      exact eGo.pure1 fun hl hw hS kk => lv_icmp_eq hx hb hd ht (fun z => absurd z hc) (fun _ => kk)
  | ne =>
    rcases bal hs with ⟨hc, hs⟩ | ⟨hc, hs⟩
    · cases hs
      exact eGo.pure1 fun hl hw hS kk => lv_icmp_ne hx hb hd ht (fun z => absurd hc z) (fun _ => kk)
    · cases hs
      exact eGo.pure1 fun hl hw hS kk => lv_icmp_ne hx hb hd ht (fun _ => kk) (fun z => absurd z hc)
  | lt =>
    rcases bal hs with ⟨hc, hs⟩ | ⟨hc, hs⟩
    · cases hs
      exact eGo.pure1 fun hl hw hS kk => lv_icmp_lt hx hb hd ht (fun _ => kk) (fun z => absurd hc z)
    · cases hs
      exact eGo.pure1 fun hl hw hS kk => lv_icmp_lt hx hb hd ht (fun z => absurd z hc) (fun _ => kk)
  | ge =>
    rcases bal hs with ⟨hc, hs⟩ | ⟨hc, hs⟩
    · cases hs
      exact eGo.pure1 fun hl hw hS kk => lv_icmp_ge hx hb hd ht (fun _ => kk) (fun z => absurd hc z)
    · cases hs
      exact eGo.pure1 fun hl hw hS kk => lv_icmp_ge hx hb hd ht (fun z => absurd z hc) (fun _ => kk)
  | gt =>
    rcases bal hs with ⟨hc, hs⟩ | ⟨hc, hs⟩
    · cases hs
      exact eGo.pure1 fun hl hw hS kk => lv_icmp_gt hx hb hd ht (fun _ => kk) (fun z => absurd hc z)
    · cases hs
      exact eGo.pure1 fun hl hw hS kk => lv_icmp_gt hx hb hd ht (fun z => absurd z hc) (fun _ => kk)
  | le =>
    rcases bal hs with ⟨hc, hs⟩ | ⟨hc, hs⟩
    · cases hs
      exact eGo.pure1 fun hl hw hS kk => lv_icmp_le hx hb hd ht (fun _ => kk) (fun z => absurd hc z)
    · cases hs
      exact eGo.pure1 fun hl hw hS kk => lv_icmp_le hx hb hd ht (fun z => absurd z hc) (fun _ => kk)
theorem sd_tableswitch (C : eCx p s m args meth c D dA b base sc (qm k) Ts) (hM : eMOK qm l D dA b base k M) (hRf : R.frames = (qm k).2.2.2.2.2.2.2.1) (hRl : R.locals = (qm k).2.2.2.2.2.2.2.2) {pc len ra rb wi : Nat} {dd lo hv : Int} {offs : Array Int} {ls : eL} {st : List Value} {h : eH} {q' : eS} (hd : decode (qm k).2.1 pc = .ok (.tableswitch dd lo hv offs, len)) (hi : iB qm k (pc, .tableswitch dd lo hv offs, len, ra, rb, wi) = true) (hs : estep sc M (pc, .tableswitch dd lo hv offs, len, ra, rb, wi) ls st h = some (.inl q')) : eGo p l e R s m args below meth c D dA b base (qm k).2.2.1 pc ls st h q' := by
  obtain ⟨hx, hb, hml, hown, hts0, hT, hK, hbs, hin, hsc⟩ := C
  have hts : ∀ w ∈ gT, w.before args s = true := fun w h => hts0 w (hT w h)
  obtain ⟨x, t, rfl, hs⟩ := iv_sI hs
  cases hz : eSw pc x dd lo hv offs with
  | none =>
    have hs : (match eSw pc x dd lo hv offs with | some z => if 0 ≤ z then some (.inl (z.toNat, ls, t, h)) else none | none => none) = some (Sum.inl q' : eS ⊕ eR) := hs
    rw [hz] at hs
    cases hs
  | some z =>
    have hs : (match eSw pc x dd lo hv offs with | some z => if 0 ≤ z then some (.inl (z.toNat, ls, t, h)) else none | none => none) = some (Sum.inl q' : eS ⊕ eR) := hs
    rw [hz] at hs
    rcases bal hs with ⟨h0, hs⟩ | ⟨-, hs⟩
    · cases hs
      refine eGo.pure1 fun hl hw hS kk => ?_
      unfold eSw at hz
      rcases bal hz with ⟨hc, hz⟩ | ⟨hc, hz⟩
      · cases hz
        exact lv_tableOut hx hb hd hc (by omega) kk
      · cases ho : offs[(x.toInt - lo).toNat]? with
        | none => rw [ho] at hz; cases hz
        | some o =>
          rw [ho] at hz
          cases hz
          have h0 : (0 : Int) ≤ (pc : Int) + o := h0
          show W _ _ _ _ _ _ _ _ _ _ _ _ _ _ _ _
          exact lv_tableIn hx hb hd (fun q => hc (Or.inl q)) (fun q => hc (Or.inr q)) ho (tgt := ((pc : Int) + o).toNat) (by omega) kk
    · cases hs
theorem sd_getfield (C : eCx p s m args meth c D dA b base sc (qm k) Ts) (hM : eMOK qm l D dA b base k M) (hRf : R.frames = (qm k).2.2.2.2.2.2.2.1) (hRl : R.locals = (qm k).2.2.2.2.2.2.2.2) {pc len ra rb wi : Nat} {n : Nat} {ls : eL} {st : List Value} {h : eH} {q' : eS} (hd : decode (qm k).2.1 pc = .ok (.getfield n, len)) (hi : iB qm k (pc, .getfield n, len, ra, rb, wi) = true) (hs : estep sc M (pc, .getfield n, len, ra, rb, wi) ls st h = some (.inl q')) : eGo p l e R s m args below meth c D dA b base (qm k).2.2.1 pc ls st h q' := by
  obtain ⟨hx, hb, hml, hown, hts0, hT, hK, hbs, hin, hsc⟩ := C
  have hts : ∀ w ∈ gT, w.before args s = true := fun w h => hts0 w (hT w h)
  have hi : (Nat.beq len 3 && _) = true := hi
  rw [Bool.and_eq_true] at hi
  have hlen : len = 3 := nb hi.1
  subst hlen
  obtain ⟨q, hq, hlt, hlk⟩ := fB_ok hi.2
  dsimp only at hq hlt hlk
  obtain ⟨a, t, rfl, hs⟩ := iv_sR hs
  obtain ⟨ci, fs, ha, hs⟩ := iv_hO hs
  obtain ⟨hc, hs⟩ := iv_bo hs
  have hc := nb hc
  dsimp only at hc
  subst hc
  cases hv : fs[rb]? with
  | none =>
    have hs : (match fs[rb]? with | some v => some (.inl (pc + 3, ls, v :: t, h)) | none => none) = some (Sum.inl q' : eS ⊕ eR) := hs
    rw [hv] at hs
    cases hs
  | some v =>
    have hs : (match fs[rb]? with | some v => some (.inl (pc + 3, ls, v :: t, h)) | none => none) = some (Sum.inl q' : eS ⊕ eR) := hs
    rw [hv] at hs
    cases hs
    obtain ⟨k1, k2, k3, k4, k5, k6⟩ := qcls_ok hq
    refine eGo.pure1 fun hl hw hS kk => ?_
    have hlt' : a < h.2.1 := hw.lt rfl (by
      rw [ha]
      intro z
      unfold qbad at z
      have z := Sum.inr.inj z
      have z1 : ci = 99 := congrArg Prod.fst z
      rw [z1] at hq
      simp [qcls] at hq)
    have hat := wl_at (dA := dA) (b := b) (base := base) hlt'
    rw [ha] at hat
    refine va_get (C := q.1) (T := q.2.1) (N := q.2.2) (ref := q.1) hx hb hts k1 hown hK.1 hw.2.1 a hat hq rb hlt (hts _ hlk) (fun x hx => by rw [k6 rb hlt] at hx; exact hx) (v := lf b base v) ?_ hd kk
    rw [List.getElem?_map, hv]
    rfl
theorem sd_putfield (C : eCx p s m args meth c D dA b base sc (qm k) Ts) (hM : eMOK qm l D dA b base k M) (hRf : R.frames = (qm k).2.2.2.2.2.2.2.1) (hRl : R.locals = (qm k).2.2.2.2.2.2.2.2) {pc len ra rb wi : Nat} {n : Nat} {ls : eL} {st : List Value} {h : eH} {q' : eS} (hd : decode (qm k).2.1 pc = .ok (.putfield n, len)) (hi : iB qm k (pc, .putfield n, len, ra, rb, wi) = true) (hs : estep sc M (pc, .putfield n, len, ra, rb, wi) ls st h = some (.inl q')) : eGo p l e R s m args below meth c D dA b base (qm k).2.2.1 pc ls st h q' := by
  obtain ⟨hx, hb, hml, hown, hts0, hT, hK, hbs, hin, hsc⟩ := C
  have hts : ∀ w ∈ gT, w.before args s = true := fun w h => hts0 w (hT w h)
  have hi : (Nat.beq len 3 && fB qm k (pc, .putfield n, len, ra, rb, wi) n && pB qm k (pc, .putfield n, len, ra, rb, wi)) = true := hi
  rw [Bool.and_eq_true, Bool.and_eq_true] at hi
  obtain ⟨⟨hi1, hi2⟩, hi3⟩ := hi
  have hlen : len = 3 := nb hi1
  subst hlen
  obtain ⟨q, hq, hlt, hlk⟩ := fB_ok hi2
  dsimp only at hq hlt hlk
  obtain ⟨v, a, t, rfl, hs⟩ := iv_sVR hs
  obtain ⟨ci, fs, ha, hs⟩ := iv_hO hs
  obtain ⟨hc, hs⟩ := iv_bo hs
  rw [Bool.and_eq_true, Bool.and_eq_true] at hc
  obtain ⟨⟨hc, hov⟩, hfl⟩ := hc
  have hc := nb hc
  dsimp only at hc
  subst hc
  cases hs
  obtain ⟨k1, k2, k3, k4, k5, k6⟩ := qcls_ok hq
  have hfl : rb < fs.length := Nat.le_of_ble_eq_true hfl
  have hov := okv_ok (b := b) (base := base) hov
  dsimp only at hov
  have hnq : h.1 a ≠ qbad := by
    rw [ha]
    intro z
    unfold qbad at z
    have z := Sum.inr.inj z
    have z1 : ci = 99 := congrArg Prod.fst z
    rw [z1] at hq
    simp [qcls] at hq
  refine eGo.put hnq fun {H locs cells slots arr Q} hl hw hlt' hS kk => ?_
  have hat := wl_at (dA := dA) (b := b) (base := base) hlt'
  rw [ha] at hat
  have hE : lfE dA b base (.inr (ci, fs.set rb v)) = .inr (ci, (fs.map (lf b base)).set rb (lf b base v)) := by
    show Sum.inr (ci, (fs.set rb v).map (lf b base)) = _
    rw [List.map_set]
  rw [hE] at kk
  have hap := va_apart (own := (qm k).1.cls) hts k1 (qty ci) k4 k5 hK.1 hq
  obtain ⟨r, h1, cell, q1, q2, q3, q4⟩ := hw.2.1 a _ hat
  have hr : r = (q.1, q.2.1, q.2.2) := Option.some.inj (h1.symm.trans hq)
  subst hr
  obtain ⟨hSl, hfc, kC, hkC, hkind⟩ := hK.1.1 ci _ hq
  obtain ⟨cf, kf, fi, f, hfd, hsl⟩ := hSl rb hlt
  have hfd' : s.fieldFound? q.1 (q.2.1 rb).2.1 (q.2.1 rb).2.2.1 = some (cf, kf, fi, f) := by
    have := hfd
    rw [k6 rb hlt] at this
    exact this
  have hlay := hts _ (k1 _ (u_in_lay hlt))
  have hst := (u_facts hfc hkC (u_lays hts k1 hlt) hfd).1
  have hfin : ∀ (H' : Heap), H'[base + a]? = some (cell.setSlot f.slot (lf b base v)) → H'.size = H.size → (∀ x, x ≠ base + a → H'[x]? = H[x]?) → W p l e R s m args below meth c H' (locs ++ [⟨base + a, f.slot⟩]) cells slots Q (F0 m (pc + 3) arr (t.map (lf b base))) := by
    intro H' e1 e2 e3
    rw [hsl] at e1 ⊢
    refine kk H' _ (hw.2.1.set wl_D hat ⟨_, hq, t_OB.to (V := updV (vp_V (fs.map (lf b base))) rb (lf b base v)) ⟨_, e1, q2, q3, t_set q4 hap hlt _⟩ (fun j _ => vp_updV_set (by rw [List.length_map]; exact hfl) _ j)⟩ e3) e2 (hS.put e2 e3 (Nat.le_add_right _ _))
  cases hfl9 : (q.2.1 rb).2.2.2 with
  | false =>
    unfold u_lay at hlay
    rw [if_neg (by rw [hfl9]; decide)] at hlay
    have h6 := u_store hfc hkC hkind hlay hfd (k4 rb hlt) hov.1 hov.2
    exact W.putK hx hb (f := f) ⟨hown, hts _ hlk, ⟨_, _, _, hfd'⟩, hst⟩ (by rw [q2]; exact h6) q1 q3 (by rw [hsl]; exact k2_hasslot (q4 rb hlt)) rfl rfl hd hfin
  | true =>
    unfold u_lay at hlay
    rw [if_pos hfl9] at hlay
    unfold pB at hi3
    dsimp only at hi3
    rw [hq] at hi3
    simp only [hfl9, Bool.or_eq_true, Bool.and_eq_true, beq_iff_eq, Bool.true_eq_false, false_or] at hi3
    have hcf : m.cls = cf := by
      obtain ⟨_, _, c', _, _, _, -, -, hf', -, -, -, hown2, -⟩ := Cond.laysFinal_spec hlay
      have e1 : c' = cf := by have := hfd.symm.trans hf'; simp at this; exact this.1.symm
      rw [k6 rb hlt, ← hi3.2] at hown2
      rw [← e1]; exact Option.some.inj (hown.symm.trans hown2)
    have h6 := u_fits hfc hkC hkind (Or.inr hlay) hfd (k4 rb hlt) hov.1 hov.2
    exact W.putFinK hx hb hown (hts _ hlk) hfd' hst hcf (hin hi3.1) (by rw [q2]; exact h6) q1 q3 (by rw [hsl]; exact k2_hasslot (q4 rb hlt)) rfl rfl hd hfin
theorem sd_baload (C : eCx p s m args meth c D dA b base sc (qm k) Ts) (hM : eMOK qm l D dA b base k M) (hRf : R.frames = (qm k).2.2.2.2.2.2.2.1) (hRl : R.locals = (qm k).2.2.2.2.2.2.2.2) {pc len ra rb wi : Nat}  {ls : eL} {st : List Value} {h : eH} {q' : eS} (hd : decode (qm k).2.1 pc = .ok (.baload, len)) (hi : iB qm k (pc, .baload, len, ra, rb, wi) = true) (hs : estep sc M (pc, .baload, len, ra, rb, wi) ls st h = some (.inl q')) : eGo p l e R s m args below meth c D dA b base (qm k).2.2.1 pc ls st h q' := by
  obtain ⟨hx, hb, hml, hown, hts0, hT, hK, hbs, hin, hsc⟩ := C
  have hts : ∀ w ∈ gT, w.before args s = true := fun w h => hts0 w (hT w h)
  have hlen : len = 1 := nb hi
  subst hlen
  obtain ⟨i, a, t, rfl, hs⟩ := iv_sIR hs
  obtain ⟨n, f, ha, hs⟩ := iv_hI hs
  obtain ⟨hv, hs⟩ := iv_in hs
  cases hs
  refine eGo.pure1 fun hl hw hS kk => ?_
  have hlt' : a < h.2.1 := hw.lt ha (by intro z; cases z)
  have hat := wl_at (dA := dA) (b := b) (base := base) hlt'
  rw [ha] at hat
  exact va_zald hx hb hK.1 hw.2.1 a 2 hat rfl hv hd kk
theorem sd_laload (C : eCx p s m args meth c D dA b base sc (qm k) Ts) (hM : eMOK qm l D dA b base k M) (hRf : R.frames = (qm k).2.2.2.2.2.2.2.1) (hRl : R.locals = (qm k).2.2.2.2.2.2.2.2) {pc len ra rb wi : Nat}  {ls : eL} {st : List Value} {h : eH} {q' : eS} (hd : decode (qm k).2.1 pc = .ok (.laload, len)) (hi : iB qm k (pc, .laload, len, ra, rb, wi) = true) (hs : estep sc M (pc, .laload, len, ra, rb, wi) ls st h = some (.inl q')) : eGo p l e R s m args below meth c D dA b base (qm k).2.2.1 pc ls st h q' := by
  obtain ⟨hx, hb, hml, hown, hts0, hT, hK, hbs, hin, hsc⟩ := C
  have hts : ∀ w ∈ gT, w.before args s = true := fun w h => hts0 w (hT w h)
  have hlen : len = 1 := nb hi
  subst hlen
  obtain ⟨i, a, t, rfl, hs⟩ := iv_sIR hs
  obtain ⟨n, f, ha, hs⟩ := iv_hL hs
  obtain ⟨hv, hs⟩ := iv_in hs
  cases hs
  refine eGo.pure1 fun hl hw hS kk => ?_
  have hlt' : a < h.2.1 := hw.lt ha (by intro z; cases z)
  have hat := wl_at (dA := dA) (b := b) (base := base) hlt'
  rw [ha] at hat
  exact va_lald hx hb hK.1 hw.2.1 a 1 hat rfl hv hd kk
theorem sd_iaload (C : eCx p s m args meth c D dA b base sc (qm k) Ts) (hM : eMOK qm l D dA b base k M) (hRf : R.frames = (qm k).2.2.2.2.2.2.2.1) (hRl : R.locals = (qm k).2.2.2.2.2.2.2.2) {pc len ra rb wi : Nat}  {ls : eL} {st : List Value} {h : eH} {q' : eS} (hd : decode (qm k).2.1 pc = .ok (.iaload, len)) (hi : iB qm k (pc, .iaload, len, ra, rb, wi) = true) (hs : estep sc M (pc, .iaload, len, ra, rb, wi) ls st h = some (.inl q')) : eGo p l e R s m args below meth c D dA b base (qm k).2.2.1 pc ls st h q' := by
  obtain ⟨hx, hb, hml, hown, hts0, hT, hK, hbs, hin, hsc⟩ := C
  have hts : ∀ w ∈ gT, w.before args s = true := fun w h => hts0 w (hT w h)
  have hlen : len = 1 := nb hi
  subst hlen
  rcases iv_sIF hs with ⟨i, a, t, rfl, hs⟩ | ⟨i, x, t, rfl, hs⟩
  · obtain ⟨n, f, ha, hs⟩ := iv_hI hs
    obtain ⟨hv, hs⟩ := iv_in hs
    cases hs
    refine eGo.pure1 fun hl hw hS kk => ?_
    have hlt' : a < h.2.1 := hw.lt ha (by intro z; cases z)
    have hat := wl_at (dA := dA) (b := b) (base := base) hlt'
    rw [ha] at hat
    exact va_iald hx hb hK.1 hw.2.1 a 0 hat rfl hv hd kk
  · obtain ⟨L, xs, hsc0, hs⟩ := iv_oSc hs
    obtain ⟨hv, hs⟩ := iv_in hs
    cases hs
    obtain ⟨hX, hbl, hbb⟩ := hsc L xs hsc0
    exact eGo.pure1 fun hl hw hS kk => va_sld hx hb hX hbl (Nat.not_le.mpr hbb) hS hv hd kk
theorem sd_arraylength (C : eCx p s m args meth c D dA b base sc (qm k) Ts) (hM : eMOK qm l D dA b base k M) (hRf : R.frames = (qm k).2.2.2.2.2.2.2.1) (hRl : R.locals = (qm k).2.2.2.2.2.2.2.2) {pc len ra rb wi : Nat}  {ls : eL} {st : List Value} {h : eH} {q' : eS} (hd : decode (qm k).2.1 pc = .ok (.arraylength, len)) (hi : iB qm k (pc, .arraylength, len, ra, rb, wi) = true) (hs : estep sc M (pc, .arraylength, len, ra, rb, wi) ls st h = some (.inl q')) : eGo p l e R s m args below meth c D dA b base (qm k).2.2.1 pc ls st h q' := by
  obtain ⟨hx, hb, hml, hown, hts0, hT, hK, hbs, hin, hsc⟩ := C
  have hts : ∀ w ∈ gT, w.before args s = true := fun w h => hts0 w (hT w h)
  have hlen : len = 1 := nb hi
  subst hlen
  rcases iv_sRF hs with ⟨a, t, rfl, hs⟩ | ⟨x, t, rfl, hs⟩
  · obtain ⟨tg, x, ha, htg, hs⟩ := iv_hN hs
    cases hs
    refine eGo.pure1 fun hl hw hS kk => ?_
    have hlt' : a < h.2.1 := hw.lt ha (by intro z; cases z)
    have hat := wl_at (dA := dA) (b := b) (base := base) hlt'
    rw [ha] at hat
    obtain ⟨ty, hty⟩ : ∃ ty, (tysL dA)[tg]? = some (dA tg, ty) := by
      match tg, htg with
      | 0, _ => exact ⟨_, rfl⟩
      | 1, _ => exact ⟨_, rfl⟩
      | 2, _ => exact ⟨_, rfl⟩
      | 3, _ => exact ⟨_, rfl⟩
      | 4, _ => exact ⟨_, rfl⟩
      | 5, _ => exact ⟨_, rfl⟩
      | 6, _ => exact ⟨_, rfl⟩
    obtain ⟨n, y⟩ := x
    rcases y with f | f | f | f | f
    · exact va_alen hx hb hK.1 hw.2.1 a tg hat hty rfl hd kk
    · exact va_alen hx hb hK.1 hw.2.1 a tg hat hty rfl hd kk
    · exact va_alen hx hb hK.1 hw.2.1 a tg hat hty rfl hd kk
    · exact va_alen hx hb hK.1 hw.2.1 a tg hat hty rfl hd kk
    · exact va_alen hx hb hK.1 hw.2.1 a tg hat hty rfl hd kk
  · obtain ⟨L, xs, hsc0, hs⟩ := iv_oSc hs
    cases hs
    obtain ⟨hX, hbl, hbb⟩ := hsc L xs hsc0
    exact eGo.pure1 fun hl hw hS kk => va_slen hx hb hX hbl (Nat.not_le.mpr hbb) hS hd kk
theorem sd_aaload (C : eCx p s m args meth c D dA b base sc (qm k) Ts) (hM : eMOK qm l D dA b base k M) (hRf : R.frames = (qm k).2.2.2.2.2.2.2.1) (hRl : R.locals = (qm k).2.2.2.2.2.2.2.2) {pc len ra rb wi : Nat}  {ls : eL} {st : List Value} {h : eH} {q' : eS} (hd : decode (qm k).2.1 pc = .ok (.aaload, len)) (hi : iB qm k (pc, .aaload, len, ra, rb, wi) = true) (hs : estep sc M (pc, .aaload, len, ra, rb, wi) ls st h = some (.inl q')) : eGo p l e R s m args below meth c D dA b base (qm k).2.2.1 pc ls st h q' := by
  obtain ⟨hx, hb, hml, hown, hts0, hT, hK, hbs, hin, hsc⟩ := C
  have hts : ∀ w ∈ gT, w.before args s = true := fun w h => hts0 w (hT w h)
  have hlen : len = 1 := nb hi
  subst hlen
  obtain ⟨i, a, t, rfl, hs⟩ := iv_sIR hs
  obtain ⟨tg, n, f, ha, h3, h6, hs⟩ := iv_hQ hs
  obtain ⟨hv, hs⟩ := iv_in hs
  cases hq : f i.toNatClampNeg with
  | none =>
    rw [hq] at hs
    cases hs
  | some q =>
    rw [hq] at hs
    cases hs
    refine eGo.pure1 fun hl hw hS kk => ?_
    have hlt' : a < h.2.1 := hw.lt ha (by intro z; cases z)
    have hat := wl_at (dA := dA) (b := b) (base := base) hlt'
    rw [ha] at hat
    obtain ⟨ty, hty, hrf⟩ : ∃ ty, (tysL dA)[tg]? = some (dA tg, ty) ∧ ty.isReference = true := by
      match tg, h3, h6 with
      | 3, _, _ => exact ⟨_, rfl, rfl⟩
      | 4, _, _ => exact ⟨_, rfl, rfl⟩
      | 5, _, _ => exact ⟨_, rfl, rfl⟩
      | 6, _, _ => exact ⟨_, rfl, rfl⟩
    have hlt : i.toNatClampNeg < n := Nat.not_le.mp fun q => hv (Or.inr q)
    have hcell : _ = some (vp_cell (dA tg) (n, .inr (.inr (.inr (.inr (fun j => (f j).map (base + ·))))))) := hw.2.1 a _ hat
    refine W.aald (v := .ref (base + q)) (ty := ty) hx hb hcell ((hK.1.2 tg _ hty).1 n (fun j => va_rf ((f j).map (base + ·)))) hrf (fun q => by cases q) (by show ¬ (i < 0 ∨ (arrV _ _ _).slots.size ≤ _); rw [arrV_size]; exact hv) ?_ rfl rfl hd kk
    show (arrV _ _ _).slots[_]? = _
    rw [arrV_read _ _ hlt]
    dsimp only
    rw [hq]
    rfl
theorem sd_iastore (C : eCx p s m args meth c D dA b base sc (qm k) Ts) (hM : eMOK qm l D dA b base k M) (hRf : R.frames = (qm k).2.2.2.2.2.2.2.1) (hRl : R.locals = (qm k).2.2.2.2.2.2.2.2) {pc len ra rb wi : Nat}  {ls : eL} {st : List Value} {h : eH} {q' : eS} (hd : decode (qm k).2.1 pc = .ok (.iastore, len)) (hi : iB qm k (pc, .iastore, len, ra, rb, wi) = true) (hs : estep sc M (pc, .iastore, len, ra, rb, wi) ls st h = some (.inl q')) : eGo p l e R s m args below meth c D dA b base (qm k).2.2.1 pc ls st h q' := by
  obtain ⟨hx, hb, hml, hown, hts0, hT, hK, hbs, hin, hsc⟩ := C
  have hts : ∀ w ∈ gT, w.before args s = true := fun w h => hts0 w (hT w h)
  have hlen : len = 1 := nb hi
  subst hlen
  obtain ⟨x, i, a, t, rfl, hs⟩ := iv_sIIR hs
  obtain ⟨n, f, ha, hs⟩ := iv_hI hs
  obtain ⟨hv, hs⟩ := iv_in hs
  cases hs
  refine eGo.put (by rw [ha]; intro z; cases z) fun hl hw hlt' hS kk => ?_
  have hat := wl_at (dA := dA) (b := b) (base := base) hlt'
  rw [ha] at hat
  have hcell : _ = some (vp_cell (dA 0) (n, .inl f)) := hw.2.1 a _ hat
  refine W.iast hx hb hcell ((hK.1.2 0 _ rfl).1 n (fun j => .int (f j))) (fun q => by cases q) (by show ¬ (i < 0 ∨ (arrV _ _ _).slots.size ≤ _); rw [arrV_size]; exact hv) rfl rfl hd fun H1 e z oq => ?_
  refine kk H1 _ (hw.2.1.set wl_D hat ?_ oq) z (hS.put z oq (Nat.le_add_right _ _))
  show H1[base + a]? = some (vp_cell (dA 0) (n, .inl (upd f i.toNatClampNeg x)))
  rw [e]
  rw [vp_cell_i, vp_cell_i, arrV_store]
  congr 2
  funext q
  by_cases hq : q = i.toNatClampNeg
  · subst hq
    simp [updV, upd]
  · simp [updV, upd, hq]
theorem sd_lastore (C : eCx p s m args meth c D dA b base sc (qm k) Ts) (hM : eMOK qm l D dA b base k M) (hRf : R.frames = (qm k).2.2.2.2.2.2.2.1) (hRl : R.locals = (qm k).2.2.2.2.2.2.2.2) {pc len ra rb wi : Nat}  {ls : eL} {st : List Value} {h : eH} {q' : eS} (hd : decode (qm k).2.1 pc = .ok (.lastore, len)) (hi : iB qm k (pc, .lastore, len, ra, rb, wi) = true) (hs : estep sc M (pc, .lastore, len, ra, rb, wi) ls st h = some (.inl q')) : eGo p l e R s m args below meth c D dA b base (qm k).2.2.1 pc ls st h q' := by
  obtain ⟨hx, hb, hml, hown, hts0, hT, hK, hbs, hin, hsc⟩ := C
  have hts : ∀ w ∈ gT, w.before args s = true := fun w h => hts0 w (hT w h)
  have hlen : len = 1 := nb hi
  subst hlen
  obtain ⟨x, i, a, t, rfl, hs⟩ := iv_sLIR hs
  obtain ⟨n, f, ha, hs⟩ := iv_hL hs
  obtain ⟨hv, hs⟩ := iv_in hs
  cases hs
  refine eGo.put (by rw [ha]; intro z; cases z) fun hl hw hlt' hS kk => ?_
  have hat := wl_at (dA := dA) (b := b) (base := base) hlt'
  rw [ha] at hat
  have hcell : _ = some (vp_cell (dA 1) (n, .inr (.inl f))) := hw.2.1 a _ hat
  refine W.last hx hb hcell ((hK.1.2 1 _ rfl).1 n (fun j => .long (f j))) (fun q => by cases q) (by show ¬ (i < 0 ∨ (arrV _ _ _).slots.size ≤ _); rw [arrV_size]; exact hv) rfl rfl hd fun H1 e z oq => ?_
  refine kk H1 _ (hw.2.1.set wl_D hat ?_ oq) z (hS.put z oq (Nat.le_add_right _ _))
  show H1[base + a]? = some (vp_cell (dA 1) (n, .inr (.inl (vp_updL f i.toNatClampNeg x))))
  rw [e]
  rw [vp_cell_l, vp_cell_l, arrV_store]
  congr 2
  funext q
  by_cases hq : q = i.toNatClampNeg
  · subst hq
    simp [updV, vp_updL]
  · simp [updV, vp_updL, hq]
theorem sd_bastore (C : eCx p s m args meth c D dA b base sc (qm k) Ts) (hM : eMOK qm l D dA b base k M) (hRf : R.frames = (qm k).2.2.2.2.2.2.2.1) (hRl : R.locals = (qm k).2.2.2.2.2.2.2.2) {pc len ra rb wi : Nat}  {ls : eL} {st : List Value} {h : eH} {q' : eS} (hd : decode (qm k).2.1 pc = .ok (.bastore, len)) (hi : iB qm k (pc, .bastore, len, ra, rb, wi) = true) (hs : estep sc M (pc, .bastore, len, ra, rb, wi) ls st h = some (.inl q')) : eGo p l e R s m args below meth c D dA b base (qm k).2.2.1 pc ls st h q' := by
  obtain ⟨hx, hb, hml, hown, hts0, hT, hK, hbs, hin, hsc⟩ := C
  have hts : ∀ w ∈ gT, w.before args s = true := fun w h => hts0 w (hT w h)
  have hlen : len = 1 := nb hi
  subst hlen
  obtain ⟨x, i, a, t, rfl, hs⟩ := iv_sIIR hs
  obtain ⟨n, f, ha, hs⟩ := iv_hI hs
  obtain ⟨hv, hs⟩ := iv_in hs
  obtain ⟨hc, hs⟩ := iv_bo hs
  have hnar : narrow .boolean (.int x) = .int x := by
    simp only [Bool.or_eq_true, beq_iff_eq] at hc
    rcases hc with rfl | rfl <;> decide
  cases hs
  refine eGo.put (by rw [ha]; intro z; cases z) fun hl hw hlt' hS kk => ?_
  have hat := wl_at (dA := dA) (b := b) (base := base) hlt'
  rw [ha] at hat
  have hcell : _ = some (vp_cell (dA 2) (n, .inl f)) := hw.2.1 a _ hat
  refine W.zast hx hb hcell ((hK.1.2 2 _ rfl).1 n (fun j => .int (f j))) (fun q => by cases q) (by show ¬ (i < 0 ∨ (arrV _ _ _).slots.size ≤ _); rw [arrV_size]; exact hv) rfl rfl hd fun H1 e z oq => ?_
  refine kk H1 _ (hw.2.1.set wl_D hat ?_ oq) z (hS.put z oq (Nat.le_add_right _ _))
  show H1[base + a]? = some (vp_cell (dA 2) (n, .inl (upd f i.toNatClampNeg x)))
  rw [e]
  rw [vp_cell_i, vp_cell_i, arrV_store]
  congr 2
  funext q
  by_cases hq : q = i.toNatClampNeg
  · subst hq
    simp [updV, upd, hnar]
  · simp [updV, upd, hq]
theorem sd_aastore (C : eCx p s m args meth c D dA b base sc (qm k) Ts) (hM : eMOK qm l D dA b base k M) (hRf : R.frames = (qm k).2.2.2.2.2.2.2.1) (hRl : R.locals = (qm k).2.2.2.2.2.2.2.2) {pc len ra rb wi : Nat}  {ls : eL} {st : List Value} {h : eH} {q' : eS} (hd : decode (qm k).2.1 pc = .ok (.aastore, len)) (hi : iB qm k (pc, .aastore, len, ra, rb, wi) = true) (hs : estep sc M (pc, .aastore, len, ra, rb, wi) ls st h = some (.inl q')) : eGo p l e R s m args below meth c D dA b base (qm k).2.2.1 pc ls st h q' := by
  obtain ⟨hx, hb, hml, hown, hts0, hT, hK, hbs, hin, hsc⟩ := C
  have hts : ∀ w ∈ gT, w.before args s = true := fun w h => hts0 w (hT w h)
  have hlen : len = 1 := nb hi
  subst hlen
  obtain ⟨v, i, a, t, rfl, hs⟩ := iv_sRIR hs
  obtain ⟨tg, n, f, ha, h3, h6, hs⟩ := iv_hQ hs
  obtain ⟨cv, vs, hv0, hs⟩ := iv_hO hs
  obtain ⟨hc, hs⟩ := iv_bo hs
  obtain ⟨hv, hs⟩ := iv_in hs
  cases hs
  obtain ⟨r, hr, hty⟩ : ∃ r : vw_C, qcls[cv]? = some r ∧ (tysL dA)[tg]? = some (dA tg, .object r.1) := by
    rw [Bool.or_eq_true, Bool.and_eq_true, Bool.and_eq_true] at hc
    rcases hc with ⟨h1, h2⟩ | ⟨h1, h2⟩
    · rw [nb h1, nb h2]; exact ⟨_, rfl, rfl⟩
    · rw [nb h1, nb h2]; exact ⟨_, rfl, rfl⟩
  refine eGo.put (by rw [ha]; intro z; cases z) fun hl hw hlt' hS kk => ?_
  have hat := wl_at (dA := dA) (b := b) (base := base) hlt'
  rw [ha] at hat
  have hvt : v < h.2.1 := hw.lt rfl (by
    rw [hv0]
    intro z
    unfold qbad at z
    have z := Sum.inr.inj z
    have z1 : cv = 99 := congrArg Prod.fst z
    rw [z1] at hr
    simp [qcls] at hr)
  have hav := wl_at (dA := dA) (b := b) (base := base) hvt
  rw [hv0] at hav
  have hlt : i.toNatClampNeg < n := Nat.not_le.mp fun q => hv (Or.inr q)
  have h0 : ¬ i < 0 := fun q => hv (Or.inl q)
  obtain ⟨r', hr', cellV, g1, g2, g3, -⟩ := hw.2.1 v _ hav
  have hcls := (hK.1.1 cv r hr).2
  obtain ⟨kA, comp, k1, k2, k3, -⟩ := (hK.1.2 tg _ hty).2
  have hcomp : comp = D.1 cv := Option.some.inj (k3.symm.trans hcls.1)
  subst hcomp
  obtain ⟨kC, hkC, -⟩ := hcls.2
  have hcell : _ = some (vp_cell (dA tg) (n, .inr (.inr (.inr (.inr (fun j => (f j).map (base + ·))))))) := hw.2.1 a _ hat
  refine W.aast hx hb hcell (fun q h => by cases h) (fun h => by cases h) k1 k2 rfl hkC ⟨h0, by show _ < (arrV _ _ _).slots.size; rw [arrV_size]; exact hlt⟩ g1 (fun q h => by rw [g3] at h; cases h) (by rw [g2]; exact hkC) (by rw [g2]; exact va_assign hcls) rfl rfl hd fun H1 e z oq => ?_
  refine kk H1 _ (hw.2.1.set wl_D hat ?_ oq) z (hS.put z oq (Nat.le_add_right _ _))
  show H1[base + a]? = some (vp_cell (dA tg) (n, .inr (.inr (.inr (.inr (fun j => ((va_up f i.toNatClampNeg (some v)) j).map (base + ·)))))))
  rw [e]
  rw [vp_cell_q, vp_cell_q, arrV_store]
  congr 2
  funext q
  by_cases hq : q = i.toNatClampNeg
  · subst hq
    simp [updV, va_up, va_rf]
  · simp [updV, va_up, hq]
theorem qlen {ci : Nat} {q : vw_C} (h : qcls[ci]? = some q) : (qYs.getD ci []).length = q.2.2 := by
  match ci, h with
  | 0, h => cases h; rfl
  | 1, h => cases h; rfl
  | 2, h => cases h; rfl
  | 3, h => cases h; rfl
  | 4, h => cases h; rfl
  | 5, h => cases h; rfl
  | 6, h => cases h; rfl
  | 7, h => cases h; rfl
  | 8, h => cases h; rfl
  | 9, h => cases h; rfl
  | 10, h => cases h; rfl
  | 11, h => cases h; rfl
  | i + 12, h => simp [qcls] at h
theorem lf_dv (ty : FieldType) : lf b base (defaultValue ty) = if ty = .float then .ref b else defaultValue ty := by
  cases ty <;> rfl
theorem qnof {ci : Nat} : ∀ ty ∈ qYs.getD ci [], ty ≠ .float := by
  match ci with
  | 0 => decide
  | 1 => decide
  | 2 => decide
  | 3 => decide
  | 4 => decide
  | 5 => decide
  | 6 => decide
  | 7 => decide
  | 8 => decide
  | 9 => decide
  | 10 => decide
  | 11 => decide
  | i + 12 => intro ty h; simp [qYs] at h
theorem eDf_lf {ci : Nat} : (eDf ci).map (lf b base) = eDf ci := by
  unfold eDf
  rw [List.map_map]
  refine List.map_congr_left fun ty hty => ?_
  show lf b base (defaultValue ty) = defaultValue ty
  rw [lf_dv, if_neg (qnof ty hty)]
theorem eDf_at {ci : Nat} {j : Nat} (h : j < (qYs.getD ci []).length) : defaultValue (qty ci j) = vp_V (eDf ci) j := by
  unfold qty vp_V eDf
  generalize qYs.getD ci [] = L at h ⊢
  rw [List.getD_eq_getElem?_getD, List.getD_eq_getElem?_getD, List.getElem?_map, List.getElem?_eq_getElem h]
  rfl
/-- one cell comes -/
theorem eGo.new {nL pc pc' sl : Nat} {ls : eL} {st st' : List Value} {h : eH} {x : va_E}
    (k : ∀ {H : Heap} {locs : List Loc} {cells slots : Nat} {arr : Array Slot} {Q : State → Prop}, lv_has arr nL (eEnt b base ls) → WH D dA b base h H → va_S (fun q => base ≤ q) s.heap H locs → cells + 1 ≤ R.cells → slots + sl ≤ R.slots → (∀ H' : Heap, va_at D qcls (base + h.2.1, lfE dA b base x) H' → H'.size = H.size + 1 → (∀ q, q < H.size → H'[q]? = H[q]?) → W p l e R s m args below meth c H' locs (cells + 1) (slots + sl) Q (F0 m pc' arr (st'.map (lf b base)))) → W p l e R s m args below meth c H locs cells slots Q (F0 m pc arr (st.map (lf b base)))) :
    eGo p l e R s m args below meth c D dA b base nL pc ls st h (pc', ls, st', (va_up h.1 h.2.1 x, h.2.1 + 1, h.2.2 + sl)) := by
  refine ⟨Nat.le_succ _, Nat.le_add_right _ _, rfl, fun {H locs cells slots arr Q} hl hw hS h1 h2 kk => ?_⟩
  dsimp only at h1 h2 kk
  rw [show h.2.1 + 1 - h.2.1 = 1 by omega] at h1 kk
  rw [show h.2.2 + sl - h.2.2 = sl by omega] at h2 kk
  refine k hl hw hS h1 h2 fun H' hat hz ho => ?_
  refine kk H' locs arr hl ⟨by rw [hz, hw.1]; rfl, ?_, fun i hi => ?_⟩ ⟨by rw [hz]; exact Nat.le_succ_of_le hS.1, fun q g1 g2 => (ho q (Nat.lt_of_lt_of_le g1 hS.1)).trans (hS.2.1 q g1 g2), hS.2.2⟩
  · rw [← wl_push (k := h.2.2 + sl)]
    refine (hw.2.1.kept fun j q hq => ho q.1 ((hw.2.1 j q hq).lt)).app fun j q hq => ?_
    have h0 : j < 1 := (List.getElem?_eq_some_iff.mp hq).1
    rw [show j = 0 by omega] at hq
    cases hq
    exact hat
  · dsimp only at hi ⊢
    rw [show va_up h.1 h.2.1 x i = h.1 i from if_neg (by omega)]
    exact hw.2.2 i (by omega)
theorem sd_new (C : eCx p s m args meth c D dA b base sc (qm k) Ts) (hM : eMOK qm l D dA b base k M) (hRf : R.frames = (qm k).2.2.2.2.2.2.2.1) (hRl : R.locals = (qm k).2.2.2.2.2.2.2.2) {pc len ra rb wi : Nat} {n : Nat} {ls : eL} {st : List Value} {h : eH} {q' : eS} (hd : decode (qm k).2.1 pc = .ok (.new n, len)) (hi : iB qm k (pc, .new n, len, ra, rb, wi) = true) (hs : estep sc M (pc, .new n, len, ra, rb, wi) ls st h = some (.inl q')) : eGo p l e R s m args below meth c D dA b base (qm k).2.2.1 pc ls st h q' := by
  obtain ⟨hx, hb, hml, hown, hts0, hT, hK, hbs, hin, hsc⟩ := C
  have hts : ∀ w ∈ gT, w.before args s = true := fun w h => hts0 w (hT w h)
  have hi : (Nat.beq len 3 && _) = true := hi
  rw [Bool.and_eq_true] at hi
  have hlen : len = 3 := nb hi.1
  subst hlen
  obtain ⟨hc12, hs⟩ := iv_bo hs
  cases hs
  obtain ⟨q, hq, hlk⟩ : ∃ q, qcls[ra]? = some q ∧ Cond.classLink (qm k).1.cls n q.1 ∈ gT := by
    have h2 := hi.2
    split at h2
    · next q hq => exact ⟨q, hq, wAt_ok h2⟩
    · cases h2
  obtain ⟨k1, k2, k3, k4, k5, k6⟩ := qcls_ok hq
  have hln := qlen hq
  have hlen : (eDf ra).length = q.2.2 := by unfold eDf; rw [List.length_map]; exact hln
  refine eGo.new fun {H locs cells slots arr Q} hl hw hS hcl hsl kk => ?_
  have hKn := hK.1.1 ra _ hq
  have hsl : slots + q.2.2 ≤ R.slots := by have := hsl; dsimp only at this; rw [hlen] at this; exact this
  refine W.newcK (n := q.2.2) hx hb hown (hts _ hlk) (hts _ k3) (hts _ k2) rfl hd hcl hsl hKn.2.1 hw.1 fun H1 kC hkC e1 z1 o1 => ?_
  have := kk H1 ⟨q, hq, (u_born (qty ra) hts k1 hKn hkC e1 k4).to (fun j hj => by rw [eDf_lf]; exact eDf_at (by rw [hln]; exact hj))⟩ (by rw [z1, hw.1]) (fun x hx => o1 x (by rw [← hw.1]; exact hx))
  dsimp only at this
  rw [hlen] at this
  exact this
theorem sd_newarray (C : eCx p s m args meth c D dA b base sc (qm k) Ts) (hM : eMOK qm l D dA b base k M) (hRf : R.frames = (qm k).2.2.2.2.2.2.2.1) (hRl : R.locals = (qm k).2.2.2.2.2.2.2.2) {pc len ra rb wi : Nat} {at9 : ArrayType} {ls : eL} {st : List Value} {h : eH} {q' : eS} (hd : decode (qm k).2.1 pc = .ok (.newarray at9, len)) (hi : iB qm k (pc, .newarray at9, len, ra, rb, wi) = true) (hs : estep sc M (pc, .newarray at9, len, ra, rb, wi) ls st h = some (.inl q')) : eGo p l e R s m args below meth c D dA b base (qm k).2.2.1 pc ls st h q' := by
  obtain ⟨hx, hb, hml, hown, hts0, hT, hK, hbs, hin, hsc⟩ := C
  have hts : ∀ w ∈ gT, w.before args s = true := fun w h => hts0 w (hT w h)
  have hi : (Nat.beq len 2 && _) = true := hi
  rw [Bool.and_eq_true] at hi
  have hlen : len = 2 := nb hi.1
  subst hlen
  have key : ∀ (tg : Nat) (ty : FieldType) (z : Nat → vp_A), newarray.typeOf at9 = ty → (tysL dA)[tg]? = some (dA tg, ty) → (∀ cA, va_RA s cA ty → s.vm.findClass ("[" ++ ty.toString) = some cA) → (∀ (n : Nat) (c9 : ClassId), vp_cell c9 (z n) = arrV c9 n (fun _ => defaultValue ty)) → (∀ n, lfE dA b base (.inl (tg, z n)) = .inl (dA tg, z n)) → componentBytes ty ≤ 8 →
      eNewA pc ls st h (fun x => (tg, x)) z 2 = some (Sum.inl q' : eS ⊕ eR) → eGo p l e R s m args below meth c D dA b base (qm k).2.2.1 pc ls st h q' := by
    intro tg ty z hty htg hra hz hlfE hcb hs
    obtain ⟨n, t, rfl, hs⟩ := iv_sI hs
    rcases bal hs with ⟨-, hs⟩ | ⟨hc, hs⟩
    · cases hs
    · cases hs
      have hn : ¬ n < 0 := fun q => hc (Or.inl q)
      have hn2 : n.toNatClampNeg ≤ 1000000 := Nat.not_lt.mp fun q => hc (Or.inr q)
      refine eGo.new fun {H locs cells slots arr Q} hl hw hS hcl hsl kk => ?_
      refine va_newaK hx hb (hts _ (wAt_ok hi.2)) rfl hd rfl hn rfl (by rw [hty]; exact Nat.le_trans (Nat.mul_le_mul hn2 hcb) (by decide)) hcl hsl hw.1 fun H1 cA e1 z1 o1 hAr hNm => ?_
      rw [hty] at hNm e1
      have hcA : cA = dA tg := Option.some.inj (hNm.symm.trans (hra _ (hK.1.2 tg _ htg).2))
      subst hcA
      refine kk H1 ?_ (by rw [z1, hw.1]) (fun x hx => o1 x (by rw [← hw.1]; exact hx))
      rw [hlfE]
      show H1[base + h.2.1]? = some (vp_cell (dA tg) (z n.toNatClampNeg))
      rw [hz]
      exact e1
  cases at9 with
  | int => exact key 0 .int (fun n => (n, .inl (fun _ => 0))) rfl rfl (fun _ h => h) (fun _ _ => rfl) (fun _ => rfl) (by decide) hs
  | long => exact key 1 .long (fun n => (n, .inr (.inl (fun _ => 0)))) rfl rfl (fun _ h => h) (fun _ _ => rfl) (fun _ => rfl) (by decide) hs
  | boolean => exact key 2 .boolean (fun n => (n, .inl (fun _ => 0))) rfl rfl (fun _ h => h) (fun _ _ => rfl) (fun _ => rfl) (by decide) hs
  | char => cases hs
  | float => cases hs
  | double => cases hs
  | byte => cases hs
  | short => cases hs
theorem sd_anewarray (C : eCx p s m args meth c D dA b base sc (qm k) Ts) (hM : eMOK qm l D dA b base k M) (hRf : R.frames = (qm k).2.2.2.2.2.2.2.1) (hRl : R.locals = (qm k).2.2.2.2.2.2.2.2) {pc len ra rb wi : Nat} {n9 : Nat} {ls : eL} {st : List Value} {h : eH} {q' : eS} (hd : decode (qm k).2.1 pc = .ok (.anewarray n9, len)) (hi : iB qm k (pc, .anewarray n9, len, ra, rb, wi) = true) (hs : estep sc M (pc, .anewarray n9, len, ra, rb, wi) ls st h = some (.inl q')) : eGo p l e R s m args below meth c D dA b base (qm k).2.2.1 pc ls st h q' := by
  obtain ⟨hx, hb, hml, hown, hts0, hT, hK, hbs, hin, hsc⟩ := C
  have hts : ∀ w ∈ gT, w.before args s = true := fun w h => hts0 w (hT w h)
  have hi : (Nat.beq len 3 && _) = true := hi
  rw [Bool.and_eq_true] at hi
  have hlen : len = 3 := nb hi.1
  subst hlen
  have key : ∀ C : String, (tysL dA)[ra]? = some (dA ra, .object C) → Cond.classLink (qm k).1.cls n9 C ∈ gT → FieldType.object C ∈ qOv → eGo p l e R s m args below meth c D dA b base (qm k).2.2.1 pc ls st h q' := by
    intro C htg hlk hov
    obtain ⟨n, t, rfl, hs⟩ := iv_sI hs
    rcases bal hs with ⟨-, hs⟩ | ⟨hc, hs⟩
    · cases hs
    · cases hs
      have hn : ¬ n < 0 := fun q => hc (Or.inl q)
      have hn2 : n.toNatClampNeg ≤ 1000000 := Nat.not_lt.mp fun q => hc (Or.inr q)
      refine eGo.new fun {H locs cells slots arr Q} hl hw hS hcl hsl kk => ?_
      refine W.anew hx hb hown (hts _ hlk) (hK.2.1 _ hov) rfl hd rfl hn (by omega) hcl hsl fun cA kA comp f1 f2 f3 f4 => ?_
      obtain ⟨-, -, -, -, -, g4⟩ := (hK.1.2 ra _ htg).2
      have hcA : cA = dA ra := Option.some.inj (f1.symm.trans g4)
      subst hcA
      have hsz := hw.1
      have := kk (H.push ({ cls := dA ra, slots := Array.replicate n.toNatClampNeg .null, vm := .none } : Cell)) (by
        show (H.push _)[base + h.2.1]? = some (vp_cell (dA ra) (n.toNatClampNeg, .inr (.inr (.inr (.inr (fun _ => none))))))
        rw [← hsz, Array.getElem?_push_size, vp_cell_q, arrV_new]
        rfl) (by rw [Array.size_push]) (fun q hq => by rw [Array.getElem?_push, if_neg (Nat.ne_of_lt hq)])
      rw [hsz]
      exact this
  have h2 := hi.2
  rw [Bool.or_eq_true, Bool.and_eq_true, Bool.and_eq_true] at h2
  rcases h2 with ⟨h2, h3⟩ | ⟨h2, h3⟩
  · have h2 := nb h2
    dsimp only at h2
    subst h2
    exact key _ rfl (wAt_ok h3) (by decide)
  · have h2 := nb h2
    dsimp only at h2
    subst h2
    exact key _ rfl (wAt_ok h3) (by decide)
theorem ou_eq (c9 : ClassId) (N h0 : Nat) : ∀ i : Nat, Jvm.Free.Multi.outerC c9 N h0 i = arrV c9 N (fun j => va_rf (if j < i then some (h0 + 1 + j) else none))
  | 0 => by
    show ({ cls := c9, slots := Array.replicate N .null, vm := .none } : Cell) = _
    rw [arrV_new]
    refine congrArg (arrV c9 N) (funext fun j => ?_)
    simp [va_rf]
  | i + 1 => by
    show (Jvm.Free.Multi.outerC c9 N h0 i).setSlot i (.ref (h0 + 1 + i)) = _
    rw [ou_eq c9 N h0 i, arrV_store]
    refine congrArg (arrV c9 N) (funext fun j => ?_)
    by_cases e1 : j = i
    · subst e1
      simp [updV, va_rf]
    · by_cases h1 : j < i
      · simp [updV, e1, h1, Nat.lt_succ_of_lt h1]
      · simp [updV, e1, h1, show ¬ j < i + 1 by omega]
theorem sd_mul (C : eCx p s m args meth c D dA b base sc (qm k) Ts) (hM : eMOK qm l D dA b base k M) (hRf : R.frames = (qm k).2.2.2.2.2.2.2.1) (hRl : R.locals = (qm k).2.2.2.2.2.2.2.2) {pc len ra rb wi : Nat} {n9 d9 : Nat} {ls : eL} {st : List Value} {h : eH} {q' : eS} (hd : decode (qm k).2.1 pc = .ok (.multianewarray n9 d9, len)) (hi : iB qm k (pc, .multianewarray n9 d9, len, ra, rb, wi) = true) (hs : estep sc M (pc, .multianewarray n9 d9, len, ra, rb, wi) ls st h = some (.inl q')) : eGo p l e R s m args below meth c D dA b base (qm k).2.2.1 pc ls st h q' := by
  obtain ⟨hx, hb, hml, hown, hts0, hT, hK, hbs, hin, hsc⟩ := C
  have hts : ∀ w ∈ gT, w.before args s = true := fun w h => hts0 w (hT w h)
  have hi : (Nat.beq len 4 && Nat.beq d9 2 && _) = true := hi
  rw [Bool.and_eq_true, Bool.and_eq_true] at hi
  have hlen : len = 4 := nb hi.1.1
  subst hlen
  have hd9 : d9 = 2 := nb hi.1.2
  subst hd9
  have key : ∀ (ty : FieldType) (z : Nat → vp_A), (tysL dA)[ra]? = some (dA ra, .array ty) → (tysL dA)[rb]? = some (dA rb, ty) → Cond.classLink (qm k).1.cls n9 ("[" ++ (FieldType.array ty).toString) ∈ gT → FieldType.array ty ∈ qOv → Cond.arrayClass ty ∈ gT → fits ty (defaultValue ty) = true → (defaultValue ty).isDefault = true → componentBytes ty ≤ 8 → s.vm.findClass ("[" ++ (FieldType.array ty).toString) = some (dA ra) → s.vm.findClass (FieldType.array ty).toString = some (dA rb) →
      (∀ (n : Nat) (c9 : ClassId), vp_cell c9 (z n) = arrV c9 n (fun _ => defaultValue ty)) → (∀ n, lfE dA b base (.inl (rb, z n)) = .inl (dA rb, z n)) → (∀ n : Nat, ((rb, n, (bif Nat.beq rb 0 then .inl (fun _ => 0) else .inr (.inl (fun _ => 0)))) : Nat × vp_A) = (rb, z n)) → eGo p l e R s m args below meth c D dA b base (qm k).2.2.1 pc ls st h q' := by
    intro ty z hta htb hlk hov hac hdf hdd hcb hna hnb hz hlfE hzz
    obtain ⟨n, j, t, rfl, hs⟩ := iv_sII hs
    rcases bal hs with ⟨-, hs⟩ | ⟨hc, hs⟩
    · cases hs
    · cases hs
      have hn : ¬ n < 0 := fun q => hc (Or.inl q)
      have hj : ¬ j < 0 := fun q => hc (Or.inr (Or.inl q))
      have hn2 : n.toNatClampNeg ≤ 1000 := Nat.not_lt.mp fun q => hc (Or.inr (Or.inr (Or.inl q)))
      have hj2 : j.toNatClampNeg ≤ 1000 := Nat.not_lt.mp fun q => hc (Or.inr (Or.inr (Or.inr q)))
      refine ⟨by dsimp only; omega, by dsimp only; omega, rfl, fun {H locs cells slots arr Q} hl hw hS h1 h2 kk => ?_⟩
      dsimp only at h1 h2 kk
      rw [show h.2.1 + 1 + n.toNatClampNeg - h.2.1 = 1 + n.toNatClampNeg by omega] at h1 kk
      rw [show h.2.2 + n.toNatClampNeg + n.toNatClampNeg * j.toNatClampNeg - h.2.2 = n.toNatClampNeg + n.toNatClampNeg * j.toNatClampNeg by omega] at h2 kk
      intro T hT X
      obtain ⟨vm₁, cA, comp, -, fA, fC, -, -, X', step⟩ := X.multianewarray2F hx hown (hts _ hlk) (hK.2.1 _ hov) (hts _ hac) (g := F0 m pc arr (.int j :: .int n :: t.map (lf b base))) rfl (by rw [hb]; exact hd) rfl hn hj (by omega) (Nat.le_trans (Nat.mul_le_mul hj2 hcb) (by decide)) (by omega) hdf hdd h1 h2
      have e1 : cA = dA ra := Option.some.inj (fA.symm.trans hna)
      have e2 : comp = dA rb := Option.some.inj (fC.symm.trans hnb)
      subst e1
      subst e2
      generalize hF : Jvm.Free.Multi.fill (T.setVm vm₁) (dA ra) (dA rb) n.toNatClampNeg j.toNatClampNeg (defaultValue ty) n.toNatClampNeg = F at X' step
      have hTh : (T.setVm vm₁).heap = H := hT
      obtain ⟨f1, f2, -, -⟩ := Jvm.Free.Multi.fill_facts (T.setVm vm₁) (dA ra) (dA rb) n.toNatClampNeg j.toNatClampNeg (defaultValue ty) n.toNatClampNeg
      rw [hF, hTh] at f1 f2
      have hold : ∀ x : Nat, x < H.size → F.heap[x]? = H[x]? := fun x hx => by
        have := Jvm.Free.Multi.fill_old (T.setVm vm₁) (dA ra) (dA rb) n.toNatClampNeg j.toNatClampNeg (defaultValue ty) (a := x) (by rw [hTh]; exact hx) n.toNatClampNeg
        rw [hF, hTh] at this
        exact this
      have hrow : ∀ i : Nat, i < n.toNatClampNeg → F.heap[H.size + 1 + i]? = some (vp_cell (dA rb) (z j.toNatClampNeg)) := fun i hi => by
        have := Jvm.Free.Multi.fill_inner (T.setVm vm₁) (dA ra) (dA rb) n.toNatClampNeg j.toNatClampNeg (defaultValue ty) n.toNatClampNeg i hi
        rw [hF, hTh] at this
        rw [this, hz]
        unfold Jvm.Free.Multi.innerC
        rw [arrV_new]
      have hsz := hw.1
      have hWH := fun (HH : WH D dA b base _ F.heap) => kk F.heap locs arr hl HH ⟨by rw [f1]; have := hS.1; omega, fun q g1 g2 => (hold q (Nat.lt_of_lt_of_le g1 hS.1)).trans (hS.2.1 q g1 g2), hS.2.2⟩ F rfl (by rw [← Nat.add_assoc, ← Nat.add_assoc]; exact X')
      obtain ⟨t2, a1, b1⟩ := hWH (by
        refine ⟨by dsimp only; rw [f1, hsz]; omega, fun i q hq => ?_, fun i hi => ?_⟩
        · have hi : i < h.2.1 + 1 + n.toNatClampNeg := by
            have := (List.getElem?_eq_some_iff.mp hq).1
            rw [wl_len] at this
            exact this
          rw [wl_at (by exact hi)] at hq
          cases hq
          dsimp only
          by_cases hi1 : i = h.2.1
          · subst hi1
            rw [if_pos rfl]
            show F.heap[base + h.2.1]? = some (vp_cell (dA ra) (n.toNatClampNeg, .inr (.inr (.inr (.inr (fun i => (if i < n.toNatClampNeg then some (h.2.1 + 1 + i) else none).map (base + ·)))))))
            rw [← hsz, f2, ou_eq, vp_cell_q]
            refine congrArg (fun f => some (arrV (dA ra) n.toNatClampNeg f)) (funext fun i => ?_)
            by_cases hin9 : i < n.toNatClampNeg
            · rw [if_pos hin9, if_pos hin9, hsz]
              show va_rf (some (base + h.2.1 + 1 + i)) = va_rf (some (base + (h.2.1 + 1 + i)))
              rw [show base + h.2.1 + 1 + i = base + (h.2.1 + 1 + i) by omega]
            · rw [if_neg hin9, if_neg hin9]
              rfl
          · rw [if_neg hi1]
            by_cases hi2 : h.2.1 < i ∧ i < h.2.1 + 1 + n.toNatClampNeg
            · rw [if_pos hi2, hzz, hlfE]
              show F.heap[base + i]? = some (vp_cell (dA rb) (z j.toNatClampNeg))
              have := hrow (i - (h.2.1 + 1)) (by omega)
              rw [hsz, show base + h.2.1 + 1 + (i - (h.2.1 + 1)) = base + i by omega] at this
              exact this
            · rw [if_neg hi2]
              have hi3 : i < h.2.1 := by omega
              exact (hw.2.1 i _ (wl_at hi3)).kept (hold _ (by rw [hsz]; show base + i < _; omega))
        · dsimp only at hi ⊢
          rw [if_neg (by omega), if_neg (by omega)]
          exact hw.2.2 i (by omega))
      refine ⟨t2, step t2 ?_, b1⟩
      rw [hT, hsz]
      exact a1
  have h2 := hi.2
  rw [Bool.or_eq_true, Bool.and_eq_true, Bool.and_eq_true, Bool.and_eq_true, Bool.and_eq_true] at h2
  rcases h2 with ⟨⟨h2, h3⟩, h4⟩ | ⟨⟨h2, h3⟩, h4⟩
  · have e2 : ra = 5 := nb h2
    have e3 : rb = 0 := nb h3
    subst e2
    subst e3
    exact key .int (fun n => (n, .inl (fun _ => 0))) rfl rfl (wAt_ok h4) (by decide) qArrW.1 (by decide) (by decide) (by decide) (hK.1.2 5 _ rfl).2 (hK.1.2 0 _ rfl).2 (fun _ _ => rfl) (fun _ => rfl) (fun _ => rfl)
  · have e2 : ra = 6 := nb h2
    have e3 : rb = 1 := nb h3
    subst e2
    subst e3
    exact key .long (fun n => (n, .inr (.inl (fun _ => 0)))) rfl rfl (wAt_ok h4) (by decide) qArrW.2.1 (by decide) (by decide) (by decide) (hK.1.2 6 _ rfl).2 (hK.1.2 1 _ rfl).2 (fun _ _ => rfl) (fun _ => rfl) (fun _ => rfl)
theorem take_len {st t : List Value} {n : Nat} {v : Value} (h : st.drop n = v :: t) : (st.take n).length = n ∧ st = st.take n ++ v :: t := by
  have h1 : (st.drop n).length = t.length + 1 := by rw [h]; rfl
  rw [List.length_drop] at h1
  refine ⟨by rw [List.length_take]; omega, ?_⟩
  rw [← h, List.take_append_drop]
theorem iv_eInv {M : eM} {j : Nat} {as t : List Value} {h : eH} {f : List Value → eH → eO} {z : eS ⊕ eR} (hs : eInv M j as t h f = some z) : ∃ x : eR, M j as h = some x ∧ eSum t ≤ 8 ∧ f (x.1.toList ++ t) x.2 = some z := by
  obtain ⟨h1, h2⟩ := iv_bo hs
  cases hm : M j as h with
  | none => rw [hm] at h2; cases h2
  | some x =>
    rw [hm] at h2
    exact ⟨x, rfl, Nat.le_of_ble_eq_true h1, h2⟩
theorem st_split {st t : List Value} {n : Nat} {v : Value} (h : st.drop n = v :: t) : st.map (lf b base) = (((st.take n).reverse).map (lf b base)).reverse ++ lf b base v :: t.map (lf b base) := by
  rw [List.map_reverse, List.reverse_reverse, ← List.map_cons (f := lf b base), ← List.map_append, ← (take_len h).2]
theorem sd_virt (C : eCx p s m args meth c D dA b base sc (qm k) Ts) (hM : eMOK qm l D dA b base k M) (hRf : R.frames = (qm k).2.2.2.2.2.2.2.1) (hRl : R.locals = (qm k).2.2.2.2.2.2.2.2) {pc len ra rb wi : Nat} {n9 : Nat} {ls : eL} {st : List Value} {h : eH} {q' : eS} (hd : decode (qm k).2.1 pc = .ok (.invokevirtual n9, len)) (hi : iB qm k (pc, .invokevirtual n9, len, ra, rb, wi) = true) (hs : estep sc M (pc, .invokevirtual n9, len, ra, rb, wi) ls st h = some (.inl q')) : eGo p l e R s m args below meth c D dA b base (qm k).2.2.1 pc ls st h q' := by
  obtain ⟨hx, hb, hml, hown, hts0, hT, hK, hbs, hin, hsc⟩ := C
  have hts : ∀ w ∈ gT, w.before args s = true := fun w h => hts0 w (hT w h)
  have hi : (Nat.beq len 3 && cB qm k (pc, .invokevirtual n9, len, ra, rb, wi) && !(qm ra).2.2.2.2.1 && (qm ra).1.name != "<init>" && wAt wi (.methodLink (qm k).1.cls n9 (qm ra).1)) = true := hi
  simp only [Bool.and_eq_true, Bool.not_eq_true', bne_iff_ne, ne_eq] at hi
  obtain ⟨⟨⟨⟨hi1, hcB⟩, hst⟩, hnm⟩, hlk⟩ := hi
  have hlen : len = 3 := nb hi1
  subst hlen
  have hlk := wAt_ok hlk
  obtain ⟨a, t, hdr, hs⟩ := iv_sR hs
  dsimp only at hdr
  obtain ⟨x, hMx, hsum, hs⟩ := iv_eInv hs
  dsimp only at hMx
  cases hs
  obtain ⟨c1, c3, c4, c5⟩ := cB_ok hcB
  dsimp only at c1 c3 c4 c5
  obtain ⟨c2, g1, g2, g3, g4⟩ := hM ra _ h x c1 hMx
  obtain ⟨fs, hfs⟩ := g4 hst a _ rfl
  obtain ⟨qc, hqc, hqn⟩ := c2.2.2.2.2.2.2.2 hst
  refine ⟨g2, g3, rfl, fun {H locs cells slots arr Q} hl hw hS h1 h2 kk => ?_⟩
  have hlt' : a < h.2.1 := hw.lt rfl (by
    rw [hfs]
    intro z
    unfold qbad at z
    have z := Sum.inr.inj z
    have z1 : (qm ra).2.2.2.2.2.2.1 = 99 := congrArg Prod.fst z
    rw [z1] at hqc
    simp [qcls] at hqc)
  have hat := wl_at (dA := dA) (b := b) (base := base) hlt'
  rw [hfs] at hat
  have hrec := va_recv hK.1 hw.2.1 hqc hat
  rw [hqn] at hrec
  rw [st_split (b := b) (base := base) hdr]
  have hlen9 : (((st.take rb).reverse).map (lf b base)).length = rb := by rw [List.length_map, List.length_reverse]; exact (take_len hdr).1
  refine e_call (x := x) (h := h) (t := t) (a := (Value.ref (base + a) :: ((st.take rb).reverse).map (lf b base)).toArray) (va_runV (C := (qm ra).1.cls) ⟨hx, hb, hml, hown, hts0⟩ g1 ⟨callB_of (ws' := gT) rb hts0 (goodG hT c2) rfl rfl rfl (hts _ c2.2.2.2.2.2.1) (hts _ hlk) ⟨c2.2.2.2.2.2.2.1.1, c2.2.2.2.2.2.2.1.2, c5⟩ ⟨by rw [hRf]; exact c3, by rw [hRl]; exact c4⟩, hts _ (c2.2.2.2.1 hst), hts _ (c2.2.2.2.2.1 hst hnm)⟩ ⟨ePc_blind, hrec, fun U hU hW => ⟨rfl, by rw [hU]; exact hw, KK.warm hW hK⟩⟩ rfl hlen9 hl.1 rfl (lv_room (by rw [eSum_map]; exact hsum)) hd ⟨h1, h2⟩) hS (fun H' locs' hw' hS' => kk H' locs' arr hl hw' hS')
theorem sd_special (C : eCx p s m args meth c D dA b base sc (qm k) Ts) (hM : eMOK qm l D dA b base k M) (hRf : R.frames = (qm k).2.2.2.2.2.2.2.1) (hRl : R.locals = (qm k).2.2.2.2.2.2.2.2) {pc len ra rb wi : Nat} {n9 : Nat} {ls : eL} {st : List Value} {h : eH} {q' : eS} (hd : decode (qm k).2.1 pc = .ok (.invokespecial n9, len)) (hi : iB qm k (pc, .invokespecial n9, len, ra, rb, wi) = true) (hs : estep sc M (pc, .invokespecial n9, len, ra, rb, wi) ls st h = some (.inl q')) : eGo p l e R s m args below meth c D dA b base (qm k).2.2.1 pc ls st h q' := by
  obtain ⟨hx, hb, hml, hown, hts0, hT, hK, hbs, hin, hsc⟩ := C
  have hts : ∀ w ∈ gT, w.before args s = true := fun w h => hts0 w (hT w h)
  have hi : (Nat.beq len 3 && (bif Nat.beq ra 9999 then wAt wi (.methodLink (qm k).1.cls n9 objectInit) && Nat.ble 1 (qm k).2.2.2.2.2.2.2.1 && Nat.ble 20 (qm k).2.2.2.2.2.2.2.2 else
      (cB qm k (pc, .invokespecial n9, len, ra, rb, wi) && !(qm ra).2.2.2.2.1 && (qm ra).1.name == "<init>" && (qm ra).2.2.2.1 == none && (wAt wi (.methodLink (qm k).1.cls n9 (qm ra).1) || decide (((qm k).1.cls, n9, (qm ra).1) ∈ qNe))))) = true := hi
  rw [Bool.and_eq_true] at hi
  obtain ⟨hi1, hi⟩ := hi
  have hlen : len = 3 := nb hi1
  subst hlen
  have hs : (bif Nat.beq ra 9999 then sR st (fun _ t => bo (Nat.ble (eSum t) 8) (some (.inl (pc + 3, ls, t, h)))) else eVirt M (pc, .invokespecial n9, 3, ra, rb, wi) ls st h) = some (Sum.inl q' : eS ⊕ eR) := hs
  cases h99 : Nat.beq ra 9999 with
  | true =>
    rw [h99] at hi hs
    simp only [cond_true, Bool.and_eq_true] at hi hs
    obtain ⟨⟨hlk, hf⟩, hlo⟩ := hi
    obtain ⟨a, t, rfl, hs⟩ := iv_sR hs
    obtain ⟨hsum, hs⟩ := iv_bo hs
    cases hs
    have hsum : eSum t ≤ 8 := Nat.le_of_ble_eq_true hsum
    have hf := Nat.le_of_ble_eq_true hf
    have hlo := Nat.le_of_ble_eq_true hlo
    exact eGo.pure1 fun hl hw hS kk => W.objInit hx hb hown (hts _ (wAt_ok hlk)) (hts _ qObjI.1) (hts _ qObjI.2) rfl (by rw [hml]; exact hl.1) rfl hd (by rw [hRf]; exact hf) (by rw [hRl, eSum_map]; show 2 * 0 + _ + 12 ≤ _; omega) kk
  | false =>
  rw [h99] at hi hs
  simp only [cond_false, Bool.and_eq_true, Bool.not_eq_true', beq_iff_eq, Bool.or_eq_true, decide_eq_true_eq] at hi hs
  obtain ⟨⟨⟨⟨hcB, hst⟩, hnm⟩, hrt⟩, hlk⟩ := hi
  obtain ⟨a, t, hdr, hs⟩ := iv_sR hs
  dsimp only at hdr
  obtain ⟨x, hMx, hsum, hs⟩ := iv_eInv hs
  dsimp only at hMx
  cases hs
  obtain ⟨c1, c3, c4, c5⟩ := cB_ok hcB
  dsimp only at c1 c3 c4 c5
  obtain ⟨c2, g1, g2, g3, g4⟩ := hM ra _ h x c1 hMx
  obtain ⟨fs, hfs⟩ := g4 hst a _ rfl
  obtain ⟨qc, hqc, hqn⟩ := c2.2.2.2.2.2.2.2 hst
  refine ⟨g2, g3, rfl, fun {H locs cells slots arr Q} hl hw hS h1 h2 kk => ?_⟩
  have hlt' : a < h.2.1 := hw.lt rfl (by
    rw [hfs]
    intro z
    unfold qbad at z
    have z := Sum.inr.inj z
    have z1 : (qm ra).2.2.2.2.2.2.1 = 99 := congrArg Prod.fst z
    rw [z1] at hqc
    simp [qcls] at hqc)
  have hat := wl_at (dA := dA) (b := b) (base := base) hlt'
  rw [hfs] at hat
  have hrec := va_recv hK.1 hw.2.1 hqc hat
  rw [hqn] at hrec
  rw [st_split (b := b) (base := base) hdr]
  have hlen9 : (((st.take rb).reverse).map (lf b base)).length = rb := by rw [List.length_map, List.length_reverse]; exact (take_len hdr).1
  refine e_call (x := x) (h := h) (t := t) (a := (Value.ref (base + a) :: ((st.take rb).reverse).map (lf b base)).toArray) (by
    have g1 := g1
    unfold eMet at g1
    rw [hrt] at g1
    have c22 := c2.2.1
    rw [hrt] at c22
    have hGd : GoodIn Ts (Cond.code (qm ra).1 (qm ra).2.1 (qm ra).2.2.1 none :: gT) := by
      have := goodG hT c2
      rw [hrt] at this
      exact this
    rcases hlk with hlk | hlk
    · have hlk := wAt_ok hlk
      exact va_runI ⟨hx, hb, hml, hown, hts0⟩ g1 ⟨callB_of (ws' := gT) rb hts0 hGd rfl rfl rfl (hts _ c2.2.2.2.2.2.1) (hts _ hlk) ⟨c2.2.2.2.2.2.2.1.1, c2.2.2.2.2.2.2.1.2, c5⟩ ⟨by rw [hRf]; exact c3, by rw [hRl]; exact c4⟩, hnm, hts _ (c2.2.2.2.1 hst)⟩ ⟨ePc_blind, fun U hU hW => ⟨rfl, by rw [hU]; exact hw, KK.warm hW hK⟩⟩ rfl hlen9 hl.1 rfl (lv_room (by rw [eSum_map]; exact hsum)) hd ⟨h1, h2⟩
    · exact va_runIN (host := "TensionNet") ⟨hx, hb, hml, hown, hts0⟩ g1 ⟨va_cnB (ws' := gT) rb hts0 hGd rfl rfl rfl (hK.2.2 _ hlk) (hts _ c2.2.2.2.2.2.1) ⟨c2.2.2.2.2.2.2.1.1, c2.2.2.2.2.2.2.1.2, c5⟩ ⟨by rw [hRf]; exact c3, by rw [hRl]; exact c4⟩, hnm, hts _ (c2.2.2.2.1 hst)⟩ ⟨ePc_blind, fun U hU hW => ⟨rfl, by rw [hU]; exact hw, KK.warm hW hK⟩⟩ rfl hlen9 hl.1 rfl (lv_room (by rw [eSum_map]; exact hsum)) hd ⟨h1, h2⟩) hS (fun H' locs' hw' hS' => kk H' locs' arr hl hw' hS')
theorem st_split0 {st : List Value} {n : Nat} : st.map (lf b base) = (((st.take n).reverse).map (lf b base)).reverse ++ (st.drop n).map (lf b base) := by
  rw [List.map_reverse, List.reverse_reverse, ← List.map_append, List.take_append_drop]
theorem clampN {z : Int32} (hz : ¬ z < 0) : z.toInt = (z.toNatClampNeg : Int) := by
  have hz0 : (0 : Int) ≤ z.toInt := by
    have := Int32.not_lt.mp hz
    simpa using Int32.le_iff_toInt_le.mp this
  show z.toInt = ((z.toInt.toNat : Nat) : Int)
  omega
theorem sd_stat (C : eCx p s m args meth c D dA b base sc (qm k) Ts) (hM : eMOK qm l D dA b base k M) (hRf : R.frames = (qm k).2.2.2.2.2.2.2.1) (hRl : R.locals = (qm k).2.2.2.2.2.2.2.2) {pc len ra rb wi : Nat} {n9 : Nat} {ls : eL} {st : List Value} {h : eH} {q' : eS} (hd : decode (qm k).2.1 pc = .ok (.invokestatic n9, len)) (hi : iB qm k (pc, .invokestatic n9, len, ra, rb, wi) = true) (hs : estep sc M (pc, .invokestatic n9, len, ra, rb, wi) ls st h = some (.inl q')) : eGo p l e R s m args below meth c D dA b base (qm k).2.2.1 pc ls st h q' := by
  obtain ⟨hx, hb, hml, hown, hts0, hT, hK, hbs, hin, hsc⟩ := C
  have hts : ∀ w ∈ gT, w.before args s = true := fun w h => hts0 w (hT w h)
  have hi : (Nat.beq len 3 && (bif Nat.beq ra 9998 then wAt wi (.methodLink (qm k).1.cls n9 arraycopyName) && Nat.ble 1 (qm k).2.2.2.2.2.2.2.1 && Nat.ble 40 (qm k).2.2.2.2.2.2.2.2 else
      (cB qm k (pc, .invokestatic n9, len, ra, rb, wi) && (qm ra).2.2.2.2.1 && wAt wi (.methodLink (qm k).1.cls n9 (qm ra).1)))) = true := hi
  rw [Bool.and_eq_true] at hi
  obtain ⟨hi1, hi⟩ := hi
  have hlen : len = 3 := nb hi1
  subst hlen
  have hs : (bif Nat.beq ra 9998 then eCpy pc ls st h else eStat M (pc, .invokestatic n9, 3, ra, rb, wi) ls st h) = some (Sum.inl q' : eS ⊕ eR) := hs
  cases h99 : Nat.beq ra 9998 with
  | true =>
    rw [h99] at hi hs
    simp only [cond_true, Bool.and_eq_true] at hi hs
    obtain ⟨⟨hlk, hf⟩, hlo⟩ := hi
    obtain ⟨a0, sp, a1, dp, n, t, rfl, hs⟩ := iv_sCpy hs
    obtain ⟨n0, f, ha0, hs⟩ := iv_hI hs
    obtain ⟨n1, g, ha1, hs⟩ := iv_hI hs
    obtain ⟨hsum, hs⟩ := iv_bo hs
    rcases bal hs with ⟨-, hs⟩ | ⟨hc, hs⟩
    · cases hs
    cases hs
    have hsum : eSum t ≤ 8 := Nat.le_of_ble_eq_true hsum
    have hf := Nat.le_of_ble_eq_true hf
    have hlo := Nat.le_of_ble_eq_true hlo
    have c1 : ¬ sp < 0 := fun q => hc (Or.inl q)
    have c2 : ¬ dp < 0 := fun q => hc (Or.inr (Or.inl q))
    have c3 : ¬ n < 0 := fun q => hc (Or.inr (Or.inr (Or.inl q)))
    have c4 : sp.toNatClampNeg + n.toNatClampNeg ≤ n0 := Nat.not_lt.mp fun q => hc (Or.inr (Or.inr (Or.inr (Or.inl q))))
    have c5 : dp.toNatClampNeg + n.toNatClampNeg ≤ n1 := Nat.not_lt.mp fun q => hc (Or.inr (Or.inr (Or.inr (Or.inr q))))
    refine eGo.put (by rw [ha1]; intro z; cases z) fun {H locs cells slots arr Q} hl hw hlt1 hS kk => ?_
    have hlt0 : a0 < h.2.1 := hw.lt ha0 (by intro z; cases z)
    have hat0 := wl_at (dA := dA) (b := b) (base := base) hlt0
    rw [ha0] at hat0
    have hat1 := wl_at (dA := dA) (b := b) (base := base) hlt1
    rw [ha1] at hat1
    intro T hT X
    have hc0 : H[base + a0]? = some (vp_cell (dA 0) (n0, .inl f)) := hw.2.1 a0 _ hat0
    have hc1 : H[base + a1]? = some (vp_cell (dA 0) (n1, .inl g)) := hw.2.1 a1 _ hat1
    obtain ⟨-, k0, hk0, cm0, hkk0⟩ := (hK.1.2 0 _ rfl).1 n0 (fun j => .int (f j))
    obtain ⟨-, k1, hk1, cm1, hkk1⟩ := (hK.1.2 0 _ rfl).1 n1 (fun j => .int (g j))
    have e7 : nativeFrameWords "java/lang/System" "arraycopy" 5 = 7 := by decide
    obtain ⟨vm', X', step⟩ := X.arraycopy hx hown (hts _ (wAt_ok hlk)) (hts _ qCpyW.1) (hts _ qCpyW.2.1) (hts _ qCpyW.2.2) (src := base + a0) (dst := base + a1) (cs := vp_cell (dA 0) (n0, .inl f)) (cd := vp_cell (dA 0) (n1, .inl g)) (srcPos := sp) (destPos := dp) (n := n) (by rw [hT]; exact hc0) (by rw [hT]; exact hc1)
      (fun _ h => by cases h) (fun _ h => by cases h) (fun h => by cases h) (fun h => by cases h) hk0 hk1 hkk0 hkk1 rfl c1 c2 c3
      (by rw [clampN c1, clampN c3]; show ¬ _ > ((arrV (dA 0) n0 (fun j => .int (f j))).slots.size : Int); rw [arrV_size]; omega)
      (by rw [clampN c2, clampN c3]; show ¬ _ > ((arrV (dA 0) n1 (fun j => .int (g j))).slots.size : Int); rw [arrV_size]; omega)
      (fun vm₁ _ i hi => by
        have e9 : (vp_cell (dA 0) (n0, .inl f)).slots.getD (sp.toNatClampNeg + i) .null = .int (f (sp.toNatClampNeg + i)) := by
          show (arrV (dA 0) n0 (fun j => .int (f j))).slots.getD _ _ = _
          rw [Array.getD_eq_getD_getElem?, arrV_read _ _ (by omega)]
          rfl
        refine ⟨?_, ?_⟩
        · rw [e9]
          rfl
        · rw [e9]
          exact trivial)
      (g := F0 m pc arr (.int n :: .int dp :: .ref (base + a1) :: .int sp :: .ref (base + a0) :: t.map (lf b base))) rfl (by rw [hml]; exact hl.1) (rest := t.map (lf b base)) rfl (by rw [hb]; exact hd) (by rw [hRf]; exact hf) (by rw [hRl, eSum_map]; show 2 * 0 + _ + _ ≤ _; rw [e7]; omega)
    have e1 : copied (vp_cell (dA 0) (n0, .inl f)) (vp_cell (dA 0) (n1, .inl g)) sp dp n = vp_cell (dA 0) (n1, .inl (va_cpy f g sp.toNatClampNeg dp.toNatClampNeg n.toNatClampNeg)) := va_copied (fun z => .int z) (dA 0) (dA 0) f g c4
    rw [e1] at X' step
    have hl9 : base + a1 < H.size := (Array.getElem?_eq_some_iff.mp hc1).1
    generalize hcell : vp_cell (dA 0) (n1, .inl (va_cpy f g sp.toNatClampNeg dp.toNatClampNeg n.toNatClampNeg)) = nc at X' step
    have hheap : ((T.setVm vm').setCell (base + a1) nc).heap = H.setIfInBounds (base + a1) nc := by rw [← hT]; rfl
    have oq : ∀ q : Nat, q ≠ base + a1 → (H.setIfInBounds (base + a1) nc)[q]? = H[q]? := fun q hq => by simp [Array.getElem?_setIfInBounds, Ne.symm hq]
    obtain ⟨t9, b1, b2⟩ := kk _ _ (hw.2.1.set wl_D hat1 (show (H.setIfInBounds (base + a1) nc)[base + a1]? = some (vp_cell (dA 0) (n1, .inl (va_cpy f g sp.toNatClampNeg dp.toNatClampNeg n.toNatClampNeg))) by rw [hcell]; simp [Array.getElem?_setIfInBounds, hl9]) oq) (by simp) ⟨by simp; exact hS.1, fun q g1 g2 => by
        rw [oq q (fun e => g2 (by rw [e]; exact Nat.le_add_right _ _))]
        exact hS.2.1 q g1 g2, fun q hq => by
        rcases List.mem_append.mp hq with h | h
        · exact hS.2.2 q h
        · obtain ⟨z, -, hz⟩ := List.mem_map.mp h
          rw [← hz]
          exact Nat.le_add_right _ _⟩ _ hheap X'
    exact ⟨t9, step t9 b1, b2⟩
  | false =>
  rw [h99] at hi hs
  simp only [cond_false, Bool.and_eq_true] at hi hs
  obtain ⟨⟨hcB, hst⟩, hlk⟩ := hi
  have hlk := wAt_ok hlk
  obtain ⟨hle, hs⟩ := iv_bo hs
  have hle : rb ≤ st.length := Nat.le_of_ble_eq_true hle
  obtain ⟨x, hMx, hsum, hs⟩ := iv_eInv hs
  dsimp only at hMx hsum
  cases hs
  obtain ⟨c1, c3, c4, c5⟩ := cB_ok hcB
  dsimp only at c1 c3 c4 c5
  obtain ⟨c2, g1, g2, g3, g4⟩ := hM ra _ h x c1 hMx
  refine ⟨g2, g3, rfl, fun {H locs cells slots arr Q} hl hw hS h1 h2 kk => ?_⟩
  rw [st_split0 (b := b) (base := base) (n := rb)]
  have hlen9 : (((st.take rb).reverse).map (lf b base)).length = rb := by rw [List.length_map, List.length_reverse, List.length_take]; omega
  refine e_call (x := x) (h := h) (t := st.drop rb) (a := (((st.take rb).reverse).map (lf b base)).toArray) (va_runS ⟨hx, hb, hml, hown, hts0⟩ g1 ⟨callB_of (ws' := gT) rb hts0 (goodG hT c2) rfl rfl rfl (hts _ c2.2.2.2.2.2.1) (hts _ hlk) ⟨c2.2.2.2.2.2.2.1.1, c2.2.2.2.2.2.2.1.2, c5⟩ ⟨by rw [hRf]; exact c3, by rw [hRl]; exact c4⟩, hts _ (c2.2.2.1 hst)⟩ ⟨ePc_blind, fun U hU hW => ⟨rfl, by rw [hU]; exact hw, KK.warm hW hK⟩⟩ rfl hlen9 hl.1 rfl (lv_room (by rw [eSum_map]; exact hsum)) hd ⟨h1, h2⟩) hS (fun H' locs' hw' hS' => kk H' locs' arr hl hw' hS')
theorem estep_sound (C : eCx p s m args meth c D dA b base sc (qm k) Ts) (hM : eMOK qm l D dA b base k M) (hRf : R.frames = (qm k).2.2.2.2.2.2.2.1) (hRl : R.locals = (qm k).2.2.2.2.2.2.2.2) {r : eRow} (hr : rB qm k r = true) {ls : eL} {st : List Value} {h : eH} {q' : eS} (hs : estep sc M r ls st h = some (.inl q')) : eGo p l e R s m args below meth c D dA b base (qm k).2.2.1 r.1 ls st h q' := by
  simp only [rB, Bool.and_eq_true, decide_eq_true_eq] at hr
  obtain ⟨hd, hi⟩ := hr
  obtain ⟨pc, ins, len, ra, rb, wi⟩ := r
  dsimp only at hd ⊢
  cases ins with
  | aload_n n => exact sd_aload_n C hM hRf hRl hd hi hs
  | aload n => exact sd_aload C hM hRf hRl hd hi hs
  | iload_n n => exact sd_iload_n C hM hRf hRl hd hi hs
  | iload n => exact sd_iload C hM hRf hRl hd hi hs
  | lload_n n => exact sd_lload_n C hM hRf hRl hd hi hs
  | lload n => exact sd_lload C hM hRf hRl hd hi hs
  | istore_n n => exact sd_istore_n C hM hRf hRl hd hi hs
  | istore n => exact sd_istore C hM hRf hRl hd hi hs
  | astore_n n => exact sd_astore_n C hM hRf hRl hd hi hs
  | astore n => exact sd_astore C hM hRf hRl hd hi hs
  | lstore_n n => exact sd_lstore_n C hM hRf hRl hd hi hs
  | lstore n => exact sd_lstore C hM hRf hRl hd hi hs
  | iinc i n => exact sd_iinc C hM hRf hRl hd hi hs
  | iconst n => exact sd_iconst C hM hRf hRl hd hi hs
  | bipush n => exact sd_bipush C hM hRf hRl hd hi hs
  | sipush n => exact sd_sipush C hM hRf hRl hd hi hs
  | lconst n => exact sd_lconst C hM hRf hRl hd hi hs
  | ldc n => exact sd_ldc C hM hRf hRl hd hi hs
  | ldc2_w n => exact sd_ldc2_w C hM hRf hRl hd hi hs
  | iadd  => exact sd_iadd C hM hRf hRl hd hi hs
  | isub  => exact sd_isub C hM hRf hRl hd hi hs
  | imul  => exact sd_imul C hM hRf hRl hd hi hs
  | iand  => exact sd_iand C hM hRf hRl hd hi hs
  | ior  => exact sd_ior C hM hRf hRl hd hi hs
  | ishr  => exact sd_ishr C hM hRf hRl hd hi hs
  | iushr  => exact sd_iushr C hM hRf hRl hd hi hs
  | ladd  => exact sd_ladd C hM hRf hRl hd hi hs
  | lsub  => exact sd_lsub C hM hRf hRl hd hi hs
  | lmul  => exact sd_lmul C hM hRf hRl hd hi hs
  | land  => exact sd_land C hM hRf hRl hd hi hs
  | lor  => exact sd_lor C hM hRf hRl hd hi hs
  | lxor  => exact sd_lxor C hM hRf hRl hd hi hs
  | lcmp  => exact sd_lcmp C hM hRf hRl hd hi hs
  | idiv  => exact sd_idiv C hM hRf hRl hd hi hs
  | irem  => exact sd_irem C hM hRf hRl hd hi hs
  | ldiv  => exact sd_ldiv C hM hRf hRl hd hi hs
  | lrem  => exact sd_lrem C hM hRf hRl hd hi hs
  | ineg  => exact sd_ineg C hM hRf hRl hd hi hs
  | lneg  => exact sd_lneg C hM hRf hRl hd hi hs
  | i2l  => exact sd_i2l C hM hRf hRl hd hi hs
  | l2i  => exact sd_l2i C hM hRf hRl hd hi hs
  | i2b  => exact sd_i2b C hM hRf hRl hd hi hs
  | i2s  => exact sd_i2s C hM hRf hRl hd hi hs
  | lshl  => exact sd_lshl C hM hRf hRl hd hi hs
  | dup  => exact sd_dup C hM hRf hRl hd hi hs
  | pop  => exact sd_pop C hM hRf hRl hd hi hs
  | dup2  => exact sd_dup2 C hM hRf hRl hd hi hs
  | goto o => exact sd_goto C hM hRf hRl hd hi hs
  | ifCond cd o => exact sd_ifCond C hM hRf hRl hd hi hs
  | if_icmp cd o => exact sd_if_icmp C hM hRf hRl hd hi hs
  | tableswitch a9 b9 c9 d9 => exact sd_tableswitch C hM hRf hRl hd hi hs
  | getfield n => exact sd_getfield C hM hRf hRl hd hi hs
  | putfield n => exact sd_putfield C hM hRf hRl hd hi hs
  | baload  => exact sd_baload C hM hRf hRl hd hi hs
  | laload  => exact sd_laload C hM hRf hRl hd hi hs
  | iaload  => exact sd_iaload C hM hRf hRl hd hi hs
  | arraylength  => exact sd_arraylength C hM hRf hRl hd hi hs
  | aaload  => exact sd_aaload C hM hRf hRl hd hi hs
  | iastore  => exact sd_iastore C hM hRf hRl hd hi hs
  | lastore  => exact sd_lastore C hM hRf hRl hd hi hs
  | bastore  => exact sd_bastore C hM hRf hRl hd hi hs
  | aastore  => exact sd_aastore C hM hRf hRl hd hi hs
  | new n => exact sd_new C hM hRf hRl hd hi hs
  | newarray n => exact sd_newarray C hM hRf hRl hd hi hs
  | anewarray n => exact sd_anewarray C hM hRf hRl hd hi hs
  | multianewarray n d9 => exact sd_mul C hM hRf hRl hd hi hs
  | invokevirtual n => exact sd_virt C hM hRf hRl hd hi hs
  | invokespecial n => exact sd_special C hM hRf hRl hd hi hs
  | invokestatic n => exact sd_stat C hM hRf hRl hd hi hs
  | ireturn =>
    exfalso
    unfold estep at hs
    dsimp only at hs
    split at hs
    · obtain ⟨-, hs⟩ := iv_bo hs
      cases hs
    · cases hs
  | lreturn =>
    exfalso
    unfold estep at hs
    dsimp only at hs
    split at hs
    · cases hs
    · cases hs
  | areturn =>
    exfalso
    unfold estep at hs
    dsimp only at hs
    split at hs
    · cases hs
    · cases hs
  | return_ =>
    exfalso
    unfold estep at hs
    dsimp only at hs
    split at hs
    · cases hs
    · cases hs
  | _ => exact absurd hi (by simp [iB])
end CASES
end SND
