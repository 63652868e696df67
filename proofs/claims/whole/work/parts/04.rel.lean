/-! HOW A HEAP OF THE EVALUATOR LIES IN THE MACHINE: cell i at base + i; the script's cell is b (its reference is written as a float) -/
def qbad : va_E := .inr (99, [])
def lf (b base : Nat) (v : Value) : Value := match v with
  | .ref i => .ref (base + i)
  | .float _ => .ref b
  | v => v
def lfE (dA : Nat → ClassId) (b base : Nat) (x : va_E) : va_E := match x with
  | .inl (t, n, .inr (.inr (.inr (.inr g)))) => .inl (dA t, n, .inr (.inr (.inr (.inr (fun j => (g j).map (base + ·))))))
  | .inl (t, a) => .inl (dA t, a)
  | .inr (ci, fs) => .inr (ci, fs.map (lf b base))
def wl (dA : Nat → ClassId) (b base : Nat) (h : eH) : va_W := (List.range h.2.1).map (fun i => (base + i, lfE dA b base (h.1 i)))
def WH (D : va_G) (dA : Nat → ClassId) (b base : Nat) (h : eH) (H : Heap) : Prop := H.size = base + h.2.1 ∧ va_P D qcls (wl dA b base h) H ∧ ∀ i, h.2.1 ≤ i → h.1 i = qbad
abbrev tysL (dA : Nat → ClassId) : List (ClassId × FieldType) := [(dA 0, .int), (dA 1, .long), (dA 2, .boolean), (dA 3, .object "TensionNet$Whole"), (dA 4, .object "TensionNet$Triple"), (dA 5, .array .int), (dA 6, .array .long)]
def qOv : List FieldType := [.object "TensionNet$Whole", .object "TensionNet$Triple", .array .int, .array .long]
def qNe : List (String × Nat × MethodName) := [("TensionNet", 25, ⟨"TensionNet$Desk", "<init>", "()V"⟩), ("TensionNet$Desk", 11, ⟨"TensionNet$Divider", "<init>", "()V"⟩), ("TensionNet", 72, ⟨"TensionNet$Net", "<init>", "()V"⟩)]
def KK (D : va_G) (dA : Nat → ClassId) (U : State) : Prop := va_K D qcls (tysL dA) U ∧ (∀ t ∈ qOv, (Cond.arrayOver t).before #[] U = true) ∧ ∀ q ∈ qNe, va_Nw (.methodLinkNest q.1 q.2.1 q.2.2 "TensionNet") U
theorem ao_moved {t : FieldType} {A A' : Array Value} {u U : State} (hvm : u.vm.Alike U.vm) (h : (Cond.arrayOver t).before A u = true) : (Cond.arrayOver t).before A' U = true := by
  have h1 : (Cond.arrayOver t).before A (u.setVm U.vm) = true := by rw [Cond.arrayOver_setVmC hvm]; exact h
  exact h1
theorem KK.warm {D : va_G} {dA : Nat → ClassId} {s U : State} (hW : s.WarmedH U.vm) (h : KK D dA s) : KK D dA U := ⟨va_K.moved hW.alike h.1, fun t ht => ao_moved hW.alike (h.2.1 t ht), fun q hq => va_Nw.warmM hW (h.2.2 q hq)⟩
theorem KK.same {D : va_G} {dA : Nat → ClassId} {s U : State} (hv : s.vm = U.vm) (h : KK D dA s) : KK D dA U := ⟨va_K.moved (by rw [hv]; exact Vm.Alike.refl _) h.1, fun t ht => ao_moved (by rw [hv]; exact Vm.Alike.refl _) (h.2.1 t ht), fun q hq => (h.2.2 q hq).same rfl hv⟩
theorem wl_len {dA : Nat → ClassId} {b base : Nat} {h : eH} : (wl dA b base h).length = h.2.1 := by simp [wl]
theorem wl_at {dA : Nat → ClassId} {b base : Nat} {h : eH} {i : Nat} (hi : i < h.2.1) : (wl dA b base h)[i]? = some (base + i, lfE dA b base (h.1 i)) := by
  unfold wl
  rw [List.getElem?_map, List.getElem?_range hi]
  rfl
theorem wl_set {dA : Nat → ClassId} {b base : Nat} {h : eH} {i : Nat} {e : va_E} (hi : i < h.2.1) : (wl dA b base h).set i (base + i, lfE dA b base e) = wl dA b base (eUp h i e) := by
  refine List.ext_getElem? fun j => ?_
  by_cases hj : j < h.2.1
  · rw [wl_at (h := eUp h i e) hj]
    by_cases hij : i = j
    · subst hij
      rw [List.getElem?_set_self (by rw [wl_len]; exact hi)]
      simp [eUp, va_up]
    · rw [List.getElem?_set_ne hij, wl_at hj]
      simp [eUp, va_up, Ne.symm hij]
  · rw [List.getElem?_eq_none (by rw [List.length_set, wl_len]; omega), List.getElem?_eq_none (by rw [wl_len]; show h.2.1 ≤ j; omega)]
theorem wl_push {dA : Nat → ClassId} {b base : Nat} {h : eH} {e : va_E} {k : Nat} : wl dA b base h ++ [(base + h.2.1, lfE dA b base e)] = wl dA b base (va_up h.1 h.2.1 e, h.2.1 + 1, k) := by
  unfold wl
  dsimp only
  rw [List.range_succ, List.map_append]
  congr 1
  · refine List.map_congr_left fun i hi => ?_
    have : i < h.2.1 := List.mem_range.mp hi
    rw [show va_up h.1 h.2.1 e i = h.1 i from if_neg (by omega)]
  · show _ = [(base + h.2.1, lfE dA b base (va_up h.1 h.2.1 e h.2.1))]
    rw [show va_up h.1 h.2.1 e h.2.1 = e from if_pos rfl]
theorem wl_D {dA : Nat → ClassId} {b base : Nat} {h : eH} : va_D (fun q => base ≤ q) (wl dA b base h) := by
  have key : ∀ (i : Nat) (q : Nat × va_E), (wl dA b base h)[i]? = some q → q.1 = base + i := by
    intro i q hq
    have hi : i < h.2.1 := by rw [← wl_len (dA := dA) (b := b) (base := base)]; exact (List.getElem?_eq_some_iff.mp hq).1
    rw [wl_at hi] at hq
    cases hq
    rfl
  refine ⟨fun i j x y hi hj hxy => ?_, fun k q hk => ?_⟩
  · have := key i x hi
    have := key j y hj
    omega
  · rw [key k q hk]
    exact Nat.le_add_right _ _
theorem WH.lt {D : va_G} {dA : Nat → ClassId} {b base : Nat} {h : eH} {H : Heap} (hw : WH D dA b base h H) {a : Nat} {e : va_E} (he : h.1 a = e) (hne : e ≠ qbad) : a < h.2.1 := by
  by_cases hlt : a < h.2.1
  · exact hlt
  · exact absurd (he.symm.trans (hw.2.2 a (by omega))) hne
theorem WH.up {D : va_G} {dA : Nat → ClassId} {b base : Nat} {h : eH} {H H1 : Heap} (hw : WH D dA b base h H) {a : Nat} {e : va_E} (ha : a < h.2.1) (hz : H1.size = H.size) (hP : va_P D qcls ((wl dA b base h).set a (base + a, lfE dA b base e)) H1) : WH D dA b base (eUp h a e) H1 := by
  refine ⟨by rw [hz]; exact hw.1, by rw [← wl_set ha]; exact hP, fun i hi => ?_⟩
  show va_up h.1 a e i = qbad
  rw [show va_up h.1 a e i = h.1 i from if_neg (by have : h.2.1 ≤ i := hi; omega)]
  exact hw.2.2 i hi
/-- the locals -/
def eEnt (b base : Nat) (ls : eL) : List (Nat × Value) := (List.range ls.length).filterMap (fun i => (ls.getD i none).map (fun v => (i, lf b base v)))
theorem eEnt_mem {b base : Nat} {ls : eL} {q : Nat × Value} : q ∈ eEnt b base ls ↔ ∃ v, ls.getD q.1 none = some v ∧ q.2 = lf b base v := by
  unfold eEnt
  rw [List.mem_filterMap]
  constructor
  · rintro ⟨i, -, hi⟩
    cases hv : ls.getD i none with
    | none => rw [hv] at hi; cases hi
    | some v =>
      rw [hv] at hi
      cases hi
      exact ⟨v, hv, rfl⟩
  · rintro ⟨v, hv, he⟩
    have hlt : q.1 < ls.length := by
      by_cases h : q.1 < ls.length
      · exact h
      · rw [List.getD_eq_getElem?_getD, List.getElem?_eq_none (by omega)] at hv
        cases hv
    refine ⟨q.1, List.mem_range.mpr hlt, ?_⟩
    rw [hv]
    show some (q.1, lf b base v) = some q
    rw [← he]
theorem lv_incl {arr : Array Slot} {nL : Nat} {l l' : List (Nat × Value)} (h : lv_has arr nL l) (hi : ∀ q ∈ l', q ∈ l) : lv_has arr nL l' := ⟨h.1, h.2.1, fun q hq => h.2.2 q (hi q hq)⟩
theorem ent_at {b base : Nat} {ls : eL} {arr : Array Slot} {nL i : Nat} {v : Value} (h : lv_has arr nL (eEnt b base ls)) (hv : ls.getD i none = some v) : arr[i]? = some (.val (lf b base v)) := h.2.2 (i, lf b base v) (eEnt_mem.mpr ⟨v, hv, rfl⟩)
theorem lf_cat (b base : Nat) (v : Value) : (lf b base v).category = v.category := by cases v <;> rfl
theorem getD_set_self {α : Type} {l : List α} {i : Nat} {v d u : α} (h : (l.set i v).getD i d = u) (hne : u ≠ d) : u = v := by
  rw [List.getD_eq_getElem?_getD] at h
  by_cases hi : i < l.length
  · rw [List.getElem?_set_self hi] at h
    exact h.symm
  · rw [List.getElem?_eq_none (by rw [List.length_set]; omega)] at h
    exact absurd h.symm hne
theorem getD_set_ne {α : Type} {l : List α} {i j : Nat} {v d : α} (h : j ≠ i) : (l.set i v).getD j d = l.getD j d := by
  rw [List.getD_eq_getElem?_getD, List.getD_eq_getElem?_getD, List.getElem?_set_ne (Ne.symm h)]
theorem eKl_some {o : Option Value} {v : Value} (h : eKl o = some v) : o = some v ∧ v.category = 1 := by
  unfold eKl at h
  split at h
  · cases h
  · cases h
  · next h1 h2 =>
    subst h
    refine ⟨rfl, ?_⟩
    cases v <;> first | rfl | exact absurd rfl (h1 _) | exact absurd rfl (h2 _)
theorem eKill_get {ls : eL} {i j : Nat} {v : Value} (hj : j ≠ i) (h : (eKill ls i).getD j none = some v) : ls.getD j none = some v ∧ ¬ (j + 1 = i ∧ v.category = 2) := by
  cases i with
  | zero => exact ⟨h, fun q => by omega⟩
  | succ i =>
    unfold eKill at h
    by_cases hji : j = i
    · subst hji
      have h2 := getD_set_self h (by simp)
      have h3 := eKl_some h2.symm
      exact ⟨h3.1, fun q => by rw [h3.2] at q; exact absurd q.2 (by decide)⟩
    · rw [getD_set_ne hji] at h
      exact ⟨h, fun q => by omega⟩
theorem eKill_len (ls : eL) (i : Nat) : (eKill ls i).length = ls.length := by
  cases i with
  | zero => rfl
  | succ i => exact List.length_set ..
theorem eSet1_len (ls : eL) (i : Nat) (v : Value) : (eSet1 ls i v).length = ls.length := by
  unfold eSet1
  rw [List.length_set, eKill_len]
theorem eSet2_len (ls : eL) (i : Nat) (v : Value) : (eSet2 ls i v).length = ls.length := by
  unfold eSet2
  rw [List.length_set, List.length_set, eKill_len]
theorem eSet1_in {b base : Nat} {ls : eL} {i : Nat} {v : Value} : ∀ q ∈ eEnt b base (eSet1 ls i v), q ∈ (i, lf b base v) :: (eEnt b base ls).filter (fun q => !(q.1 == i) && !(q.1 + 1 == i && q.2.category == 2)) := by
  intro q hq
  obtain ⟨u, hu, he⟩ := eEnt_mem.mp hq
  unfold eSet1 at hu
  by_cases hi : q.1 = i
  · rw [hi] at hu
    have := Option.some.inj (getD_set_self hu (by simp))
    subst this
    refine List.mem_cons.mpr (Or.inl ?_)
    rw [← hi, ← he]
  · rw [getD_set_ne hi] at hu
    obtain ⟨h1, h2⟩ := eKill_get hi hu
    refine List.mem_cons.mpr (Or.inr (List.mem_filter.mpr ⟨eEnt_mem.mpr ⟨u, h1, he⟩, ?_⟩))
    rw [he, lf_cat]
    simp only [Bool.and_eq_true, Bool.not_eq_true', beq_eq_false_iff_ne, ne_eq, Bool.and_eq_false_iff]
    refine ⟨hi, ?_⟩
    by_cases h3 : q.1 + 1 = i
    · exact Or.inr (fun h4 => h2 ⟨h3, h4⟩)
    · exact Or.inl h3
theorem eSet2_in {b base : Nat} {ls : eL} {i : Nat} {v : Value} : ∀ q ∈ eEnt b base (eSet2 ls i v), q ∈ (i, lf b base v) :: (eEnt b base ls).filter (fun q => !(q.1 == i) && (!(q.1 == i + 1) && !(q.1 + 1 == i && q.2.category == 2))) := by
  intro q hq
  obtain ⟨u, hu, he⟩ := eEnt_mem.mp hq
  unfold eSet2 at hu
  have h9 : q.1 ≠ i + 1 := by
    intro h
    rw [h] at hu
    have := getD_set_self hu (by simp)
    cases this
  rw [getD_set_ne h9] at hu
  by_cases hi : q.1 = i
  · rw [hi] at hu
    have := Option.some.inj (getD_set_self hu (by simp))
    subst this
    refine List.mem_cons.mpr (Or.inl ?_)
    rw [← hi, ← he]
  · rw [getD_set_ne hi] at hu
    obtain ⟨h1, h2⟩ := eKill_get hi hu
    refine List.mem_cons.mpr (Or.inr (List.mem_filter.mpr ⟨eEnt_mem.mpr ⟨u, h1, he⟩, ?_⟩))
    rw [he, lf_cat]
    simp only [Bool.and_eq_true, Bool.not_eq_true', beq_eq_false_iff_ne, ne_eq, Bool.and_eq_false_iff]
    refine ⟨hi, h9, ?_⟩
    by_cases h3 : q.1 + 1 = i
    · exact Or.inr (fun h4 => h2 ⟨h3, h4⟩)
    · exact Or.inl h3
/-- the locals at the entry -/
def entL (n : Nat) (as : List Value) : eL := as.flatMap (fun v => if v.category = 2 then [some v, none] else [some v]) ++ List.replicate (n - (as.flatMap (fun v => if v.category = 2 then [some v, none] else [some v])).length) none
theorem ent_args {b base : Nat} : ∀ (as : List Value) (i j : Nat) (v : Value) (t : eL), (∀ k, t.getD k none = none) → ((as.flatMap (fun v => if v.category = 2 then [some v, none] else [some v])) ++ t).getD j none = some v → (i + j, lf b base v) ∈ lv_args i (as.map (lf b base)) := by
  intro as
  induction as with
  | nil =>
    intro i j v t ht h
    rw [List.flatMap_nil, List.nil_append, ht] at h
    cases h
  | cons a as ih =>
    intro i j v t ht h
    show (i + j, lf b base v) ∈ (i, lf b base a) :: lv_args (if (lf b base a).category = 2 then i + 2 else i + 1) (as.map (lf b base))
    rw [lf_cat, List.flatMap_cons] at *
    by_cases hc : a.category = 2
    · rw [if_pos hc] at h ⊢
      match j, h with
      | 0, h => cases h; exact List.mem_cons_self
      | 1, h => cases h
      | j + 2, h =>
        have := ih (i + 2) j v t ht h
        rw [show i + (j + 2) = i + 2 + j by omega]
        exact List.mem_cons_of_mem _ this
    · rw [if_neg hc] at h ⊢
      match j, h with
      | 0, h => cases h; exact List.mem_cons_self
      | j + 1, h =>
        have := ih (i + 1) j v t ht h
        rw [show i + (j + 1) = i + 1 + j by omega]
        exact List.mem_cons_of_mem _ this
theorem entL_in {b base n : Nat} {as : List Value} : ∀ q ∈ eEnt b base (entL n as), q ∈ lv_args 0 (as.map (lf b base)) := by
  intro q hq
  obtain ⟨u, hu, he⟩ := eEnt_mem.mp hq
  have := ent_args (b := b) (base := base) as 0 q.1 u (List.replicate _ none) (fun k => by
    rw [List.getD_eq_getElem?_getD, List.getElem?_replicate]
    split <;> rfl) hu
  rw [Nat.zero_add, ← he] at this
  exact this
theorem entL_sl {b base : Nat} (as : List Value) : (lg_sl (as.map (lf b base))).length = (as.flatMap (fun v => if v.category = 2 then [some v, (none : Option Value)] else [some v])).length := by
  induction as with
  | nil => rfl
  | cons a as ih =>
    show (lg_sl (lf b base a :: as.map (lf b base))).length = _
    unfold lg_sl at ih ⊢
    rw [List.flatMap_cons, List.flatMap_cons, List.length_append, List.length_append, ih, lf_cat]
    by_cases hc : a.category = 2
    · rw [if_pos hc, if_pos hc]; rfl
    · rw [if_neg hc, if_neg hc]; rfl
theorem eSum_map {b base : Nat} (t : List Value) : ((t.map (lf b base)).map fun v => v.category).sum = eSum t := by
  induction t with
  | nil => rfl
  | cons v t ih =>
    simp only [List.map_cons, List.sum_cons, eSum, ih, lf_cat]
/-! what it takes that a step is one -/
section IV
variable {α : Type} {z : α}
theorem iv_oA {o : Option Value} {f : Value → Option α} (h : oA o f = some z) : ∃ v, o = some v ∧ ((∃ a, v = .ref a) ∨ ∃ a, v = .float a) ∧ f v = some z := by
  unfold oA at h
  split at h
  · exact ⟨_, rfl, Or.inl ⟨_, rfl⟩, h⟩
  · exact ⟨_, rfl, Or.inr ⟨_, rfl⟩, h⟩
  · cases h
theorem iv_oI {o : Option Value} {f : Int32 → Option α} (h : oI o f = some z) : ∃ x, o = some (.int x) ∧ f x = some z := by
  unfold oI at h
  split at h
  · exact ⟨_, rfl, h⟩
  · cases h
theorem iv_oL {o : Option Value} {f : Int64 → Option α} (h : oL o f = some z) : ∃ x, o = some (.long x) ∧ f x = some z := by
  unfold oL at h
  split at h
  · exact ⟨_, rfl, h⟩
  · cases h
theorem iv_sI {st : List Value} {f : Int32 → List Value → Option α} (h : sI st f = some z) : ∃ x t, st = .int x :: t ∧ f x t = some z := by
  unfold sI at h
  split at h
  · exact ⟨_, _, rfl, h⟩
  · cases h
theorem iv_sL {st : List Value} {f : Int64 → List Value → Option α} (h : sL st f = some z) : ∃ x t, st = .long x :: t ∧ f x t = some z := by
  unfold sL at h
  split at h
  · exact ⟨_, _, rfl, h⟩
  · cases h
theorem iv_sR {st : List Value} {f : Nat → List Value → Option α} (h : sR st f = some z) : ∃ x t, st = .ref x :: t ∧ f x t = some z := by
  unfold sR at h
  split at h
  · exact ⟨_, _, rfl, h⟩
  · cases h
theorem iv_sII {st : List Value} {f : Int32 → Int32 → List Value → Option α} (h : sII st f = some z) : ∃ x y t, st = .int y :: .int x :: t ∧ f x y t = some z := by
  unfold sII at h
  split at h
  · exact ⟨_, _, _, rfl, h⟩
  · cases h
theorem iv_sLL {st : List Value} {f : Int64 → Int64 → List Value → Option α} (h : sLL st f = some z) : ∃ x y t, st = .long y :: .long x :: t ∧ f x y t = some z := by
  unfold sLL at h
  split at h
  · exact ⟨_, _, _, rfl, h⟩
  · cases h
theorem iv_sLI {st : List Value} {f : Int64 → Int32 → List Value → Option α} (h : sLI st f = some z) : ∃ x y t, st = .int y :: .long x :: t ∧ f x y t = some z := by
  unfold sLI at h
  split at h
  · exact ⟨_, _, _, rfl, h⟩
  · cases h
theorem iv_sIR {st : List Value} {f : Int32 → Nat → List Value → Option α} (h : sIR st f = some z) : ∃ i a t, st = .int i :: .ref a :: t ∧ f i a t = some z := by
  unfold sIR at h
  split at h
  · exact ⟨_, _, _, rfl, h⟩
  · cases h
theorem iv_sIIR {st : List Value} {f : Int32 → Int32 → Nat → List Value → Option α} (h : sIIR st f = some z) : ∃ x i a t, st = .int x :: .int i :: .ref a :: t ∧ f x i a t = some z := by
  unfold sIIR at h
  split at h
  · exact ⟨_, _, _, _, rfl, h⟩
  · cases h
theorem iv_sLIR {st : List Value} {f : Int64 → Int32 → Nat → List Value → Option α} (h : sLIR st f = some z) : ∃ x i a t, st = .long x :: .int i :: .ref a :: t ∧ f x i a t = some z := by
  unfold sLIR at h
  split at h
  · exact ⟨_, _, _, _, rfl, h⟩
  · cases h
theorem iv_sRIR {st : List Value} {f : Nat → Int32 → Nat → List Value → Option α} (h : sRIR st f = some z) : ∃ x i a t, st = .ref x :: .int i :: .ref a :: t ∧ f x i a t = some z := by
  unfold sRIR at h
  split at h
  · exact ⟨_, _, _, _, rfl, h⟩
  · cases h
theorem iv_sVR {st : List Value} {f : Value → Nat → List Value → Option α} (h : sVR st f = some z) : ∃ v a t, st = v :: .ref a :: t ∧ f v a t = some z := by
  unfold sVR at h
  split at h
  · exact ⟨_, _, _, rfl, h⟩
  · cases h
theorem iv_sV {st : List Value} {f : Value → List Value → Option α} (h : sV st f = some z) : ∃ v t, st = v :: t ∧ f v t = some z := by
  unfold sV at h
  split at h
  · exact ⟨_, _, rfl, h⟩
  · cases h
theorem iv_sCpy {st : List Value} {f : Nat → Int32 → Nat → Int32 → Int32 → List Value → Option α} (h : sCpy st f = some z) : ∃ a0 sp a1 dp n t, st = .int n :: .int dp :: .ref a1 :: .int sp :: .ref a0 :: t ∧ f a0 sp a1 dp n t = some z := by
  unfold sCpy at h
  split at h
  · exact ⟨_, _, _, _, _, _, rfl, h⟩
  · cases h
theorem iv_sIF {st : List Value} {f : Int32 → Nat → List Value → Option α} {g : Int32 → List Value → Option α} (h : sIF st f g = some z) : (∃ i a t, st = .int i :: .ref a :: t ∧ f i a t = some z) ∨ ∃ i x t, st = .int i :: .float x :: t ∧ g i t = some z := by
  unfold sIF at h
  split at h
  · exact Or.inl ⟨_, _, _, rfl, h⟩
  · exact Or.inr ⟨_, _, _, rfl, h⟩
  · cases h
theorem iv_sRF {st : List Value} {f : Nat → List Value → Option α} {g : List Value → Option α} (h : sRF st f g = some z) : (∃ a t, st = .ref a :: t ∧ f a t = some z) ∨ ∃ x t, st = .float x :: t ∧ g t = some z := by
  unfold sRF at h
  split at h
  · exact Or.inl ⟨_, _, rfl, h⟩
  · exact Or.inr ⟨_, _, rfl, h⟩
  · cases h
theorem iv_oSc {sc : Option (Nat × (Nat → Int32))} {f : Nat → (Nat → Int32) → Option α} (h : oSc sc f = some z) : ∃ n g, sc = some (n, g) ∧ f n g = some z := by
  unfold oSc at h
  split at h
  · exact ⟨_, _, rfl, h⟩
  · cases h
theorem iv_bo {b : Bool} {o : Option α} (h : bo b o = some z) : b = true ∧ o = some z := by
  cases b with
  | false => cases h
  | true => exact ⟨rfl, h⟩
theorem iv_hO {h0 : eH} {a : Nat} {f : Nat → List Value → Option α} (h : hO h0 a f = some z) : ∃ ci fs, h0.1 a = .inr (ci, fs) ∧ f ci fs = some z := by
  unfold hO at h
  split at h
  · next e => exact ⟨_, _, e, h⟩
  · cases h
theorem iv_hI {h0 : eH} {a tg : Nat} {f : Nat → (Nat → Int32) → Option α} (h : hI h0 a tg f = some z) : ∃ n g, h0.1 a = .inl (tg, n, .inl g) ∧ f n g = some z := by
  unfold hI at h
  split at h
  · next t n g e =>
    obtain ⟨h1, h2⟩ := iv_bo h
    rw [Nat.eq_of_beq_eq_true h1] at e
    exact ⟨_, _, e, h2⟩
  · cases h
theorem iv_hL {h0 : eH} {a : Nat} {f : Nat → (Nat → Int64) → Option α} (h : hL h0 a f = some z) : ∃ n g, h0.1 a = .inl (1, n, .inr (.inl g)) ∧ f n g = some z := by
  unfold hL at h
  split at h
  · next t n g e =>
    obtain ⟨h1, h2⟩ := iv_bo h
    rw [Nat.eq_of_beq_eq_true h1] at e
    exact ⟨_, _, e, h2⟩
  · cases h
theorem iv_hQ {h0 : eH} {a : Nat} {f : Nat → Nat → (Nat → Option Nat) → Option α} (h : hQ h0 a f = some z) : ∃ t n g, h0.1 a = .inl (t, n, .inr (.inr (.inr (.inr g)))) ∧ 3 ≤ t ∧ t ≤ 6 ∧ f t n g = some z := by
  unfold hQ at h
  split at h
  · next t n g e =>
    obtain ⟨h1, h2⟩ := iv_bo h
    rw [Bool.and_eq_true] at h1
    exact ⟨_, _, _, e, Nat.le_of_ble_eq_true h1.1, Nat.le_of_ble_eq_true h1.2, h2⟩
  · cases h
theorem iv_hN {h0 : eH} {a : Nat} {f : Nat → Option α} (h : hN h0 a f = some z) : ∃ t x, h0.1 a = .inl (t, x) ∧ t ≤ 6 ∧ f x.1 = some z := by
  unfold hN at h
  split at h
  · next t n g e =>
    obtain ⟨h1, h2⟩ := iv_bo h
    exact ⟨_, _, e, Nat.le_of_ble_eq_true h1, h2⟩
  · cases h
theorem iv_in {i : Int32} {n : Nat} {o : Option α} (h : inR i n o = some z) : vp_in i n ∧ o = some z := by
  unfold inR at h
  by_cases hc : i < 0 ∨ n ≤ i.toNatClampNeg
  · rw [if_pos hc] at h; cases h
  · rw [if_neg hc] at h; exact ⟨hc, h⟩
end IV
