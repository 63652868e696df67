theorem fe_fr {s t : State} {o : Outcome} {L : List Loc} {k n k' n' : Nat} (h : FrameEnd s o t L k n) (hL : ∀ q ∈ L, s.heap.size ≤ q.base) (h1 : k ≤ k') (h2 : n ≤ n') : Framed s o t [] k' n' := ⟨h.1, h.2.1, h.2.2.weaken (fun y hy hlt => absurd hlt (Nat.not_lt.mpr (hL y hy))) h1 h2⟩
theorem k_arr {s : State} {ty : FieldType} {args : Array Value} (h : (Cond.arrayClass ty).before args s = true) (hty : ∀ C, ty ≠ .object C) : ∃ cA, ArrOfT s cA ty ∧ va_RA s cA ty := by
  obtain ⟨cA, k, comp, h1, h2, h3⟩ := Cond.arrayClass_spec h
  refine ⟨cA, fun n z => ⟨fun k h => (by cases h), k, h2, comp, h3⟩, ?_⟩
  cases ty <;> first | exact h1 | exact absurd rfl (hty _)
theorem k_obj {s : State} {C : String} {args : Array Value} (h : (Cond.arrayOver (.object C)).before args s = true) : ∃ cA, ArrOfT s cA (.object C) ∧ va_RA s cA (.object C) := by
  obtain ⟨comp, c, k, h1, h2, h3, h4, h5⟩ := Cond.arrayOver_spec h
  exact ⟨c, fun n z => ⟨fun k h => (by cases h), k, h3, comp, h4⟩, k, comp, h3, h4, h1, h5⟩
theorem k_aoa {s : State} {t : FieldType} {args : Array Value} (h : (Cond.arrayOver (.array t)).before args s = true) : ∃ cA, ArrOfT s cA (.array t) ∧ va_RA s cA (.array t) := by
  obtain ⟨comp, c, k, h1, h2, h3, h4, h5⟩ := arrayOverA_spec h
  exact ⟨c, fun n z => ⟨fun k h => (by cases h), k, h3, comp, h4⟩, h5⟩
theorem k_ov : ∀ t ∈ qOv, Cond.arrayOver t ∈ lw_tbl := by decide +kernel
theorem k_ne : ∀ q ∈ qNe, Cond.methodLinkNest q.1 q.2.1 q.2.2 "TensionNet" ∈ lw_tbl := by decide +kernel
theorem k_cls {s : State} {args : Array Value} (hts : ∀ w ∈ gT, w.before args s = true) : ∀ ci : Nat, ∃ (cC : ClassId) (iS : Nat → Nat), ∀ q, qcls[ci]? = some q → u_Kn s q.1 q.2.1 q.2.2 cC iS := by
  intro ci
  cases hq : qcls[ci]? with
  | none => exact ⟨0, fun _ => 0, fun q h => by cases h⟩
  | some q =>
    obtain ⟨k1, k2, k3, -⟩ := qcls_ok hq
    obtain ⟨cC, iS, hK⟩ := u_known hts k1 (hts _ k3)
    exact ⟨cC, iS, fun q' h => by cases h; exact hK⟩
set_option maxHeartbeats 4000000 in
set_option maxRecDepth 100000 in
/-- THE LAW, from its entry, out of its run in the evaluator -/
theorem whole_start {p : Program} {e : Env} {s : State} {m : MethodId} {below : List Frame} {meth : Method} {c : Code} (l : Launch) {b L : Nat} {xs : Nat → Int32} (hL : L ≤ 2560) (C0 : lw_At p s m meth c b L xs) : W p l e room_1 s m #[Value.ref b] below meth c s.heap [] 0 0 (lw_Z below #[Value.ref b] s) (entryFrame m ([Value.ref b] : List Value).toArray 4) := by
  obtain ⟨hx, hb, hr, hml, hown, hts, hX, hbl, hlocks, hgv⟩ := id C0
  have htg : ∀ w ∈ gT, w.before #[Value.ref b] s = true := fun w h => hts w (gT_good h).1
  obtain ⟨dC, hdC⟩ : ∃ f : Nat → ClassId × (Nat → Nat), ∀ ci q, qcls[ci]? = some q → u_Kn s q.1 q.2.1 q.2.2 (f ci).1 (f ci).2 := ⟨fun ci => ((k_cls htg ci).choose, (k_cls htg ci).choose_spec.choose), fun ci q hq => (k_cls htg ci).choose_spec.choose_spec q hq⟩
  obtain ⟨a0, h0, r0⟩ := k_arr (htg _ qArrW.1) (fun C h => by cases h)
  obtain ⟨a1, h1, r1⟩ := k_arr (htg _ qArrW.2.1) (fun C h => by cases h)
  obtain ⟨a2, h2, r2⟩ := k_arr (htg _ qArrW.2.2) (fun C h => by cases h)
  obtain ⟨a3, h3, r3⟩ := k_obj (hts _ (k_ov (.object "TensionNet$Whole") (by decide)))
  obtain ⟨a4, h4, r4⟩ := k_obj (hts _ (k_ov (.object "TensionNet$Triple") (by decide)))
  obtain ⟨a5, h5, r5⟩ := k_aoa (hts _ (k_ov (.array .int) (by decide)))
  obtain ⟨a6, h6, r6⟩ := k_aoa (hts _ (k_ov (.array .long) (by decide)))
  obtain ⟨dA, e0, e1, e2, e3, e4, e5, e6⟩ : ∃ dA : Nat → ClassId, dA 0 = a0 ∧ dA 1 = a1 ∧ dA 2 = a2 ∧ dA 3 = a3 ∧ dA 4 = a4 ∧ dA 5 = a5 ∧ dA 6 = a6 := ⟨fun k => match k with | 0 => a0 | 1 => a1 | 2 => a2 | 3 => a3 | 4 => a4 | 5 => a5 | _ => a6, rfl, rfl, rfl, rfl, rfl, rfl, rfl⟩
  subst e0 e1 e2 e3 e4 e5 e6
  have hK : KK (fun ci => (dC ci).1, fun ci => (dC ci).2) dA s := by
    refine ⟨⟨fun ci q hq => hdC ci q hq, fun k q hq => ?_⟩, fun t ht => ?_, fun q hq => ?_⟩
    · match k, hq with
      | 0, hq => cases hq; exact ⟨h0, r0⟩
      | 1, hq => cases hq; exact ⟨h1, r1⟩
      | 2, hq => cases hq; exact ⟨h2, r2⟩
      | 3, hq => cases hq; exact ⟨h3, r3⟩
      | 4, hq => cases hq; exact ⟨h4, r4⟩
      | 5, hq => cases hq; exact ⟨h5, r5⟩
      | 6, hq => cases hq; exact ⟨h6, r6⟩
      | k + 7, hq => simp at hq
    · exact ao_moved (Vm.Alike.refl _) (hts _ (k_ov t ht))
    · exact va_Nw.of rfl (hts _ (k_ne q hq))
  obtain ⟨h', hrun, hn, hs⟩ := law_eval L xs hL
  obtain ⟨f, hf⟩ := eRun_iff.mp hrun
  have C : eCx p s m #[Value.ref b] meth c (fun ci => (dC ci).1, fun ci => (dC ci).2) dA b s.heap.size (some (L, xs)) (qm 192) lw_tbl := ⟨hx, hb, hml, hown, hts, fun w h => (gT_good h).1, hK, Nat.le_refl _, fun hn => absurd hn (by decide), fun L' xs' h => by cases h; exact ⟨hX, hbl, hbl⟩⟩
  obtain ⟨m1, m2, run⟩ := eexec_sound (l := l) (e := e) (R := room_1) (below := below) C (eTo_sound kAll 192 (Nat.le_refl _)) rfl rfl hr hlocks kLaw f hf
  have hl := lv_entry ([.ref b]) (n := 4) (Nat.le_of_ble_eq_true rfl)
  rw [lg_entry_eq]
  generalize (lg_sl ([.ref b]) ++ List.replicate (4 - (lg_sl ([.ref b])).length) Slot.unset).toArray = ls at hl ⊢
  have hw : WH (fun ci => (dC ci).1, fun ci => (dC ci).2) dA b s.heap.size eH0 s.heap := ⟨rfl, fun k q h => by simp [wl, eH0] at h, fun i _ => rfl⟩
  have := run (cells := 0) (slots := 0) (H := s.heap) (locs := []) (arr := ls) (lv_incl hl (entL_in (b := b) (base := s.heap.size) (n := 4) (as := [.float 0]))) hw va_S.rf (by rw [Nat.zero_add]; exact hn) (by rw [Nat.zero_add]; exact hs)
  intro T hT X
  obtain ⟨t, s1, o, g1, g2, ⟨g3, -⟩, LL, g4, g5⟩ := this T hT X
  refine ⟨t, s1, o, g1, g2, g3, fe_fr g4 g5 ?_ ?_⟩
  · rw [Nat.zero_add]; exact hn
  · rw [Nat.zero_add]; exact hs
