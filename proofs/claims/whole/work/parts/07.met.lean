/-! A RUN OF THE EVALUATOR IS A CONTRACT -/
theorem eFind_mem {tb : List eRow} {pc : Nat} {r : eRow} (h : eFind tb pc = some r) : r ∈ tb ∧ r.1 = pc := by
  induction tb with
  | nil => cases h
  | cons a t ih =>
    unfold eFind at h
    cases hb : Nat.beq a.1 pc with
    | true =>
      rw [hb] at h
      cases h
      exact ⟨List.mem_cons_self, nb hb⟩
    | false =>
      rw [hb] at h
      obtain ⟨h1, h2⟩ := ih h
      exact ⟨List.mem_cons_of_mem _ h1, h2⟩
theorem eret_heap {sc : eSc} {M : eM} {r : eRow} {ls : eL} {st : List Value} {h : eH} {x : eR} (hs : estep sc M r ls st h = some (.inr x)) : x.2 = h := by
  obtain ⟨pc, ins, len, ra, rb, wi⟩ := r
  cases ins with
  | ireturn =>
    unfold estep at hs
    dsimp only at hs
    split at hs
    · obtain ⟨-, hs⟩ := iv_bo hs
      cases hs
      rfl
    · cases hs
  | lreturn =>
    unfold estep at hs
    dsimp only at hs
    split at hs
    · cases hs
      rfl
    · cases hs
  | areturn =>
    unfold estep at hs
    dsimp only at hs
    split at hs
    · cases hs
      rfl
    · cases hs
  | return_ =>
    unfold estep at hs
    dsimp only at hs
    split at hs
    · cases hs
      rfl
    · cases hs
  | aload_n n =>
    exfalso
    have hs : oA (ls.getD n.val none) (fun v => some (.inl (pc + 1, ls, v :: st, h))) = some (Sum.inr x : eS ⊕ eR) := hs
    obtain ⟨v, -, -, hs⟩ := iv_oA hs
    cases hs
  | aload n =>
    exfalso
    have hs : oA (ls.getD n none) (fun v => some (.inl (pc + 2, ls, v :: st, h))) = some (Sum.inr x : eS ⊕ eR) := hs
    obtain ⟨v, -, -, hs⟩ := iv_oA hs
    cases hs
  | iload_n n =>
    exfalso
    obtain ⟨v, -, hs⟩ := iv_oI hs
    cases hs
  | iload n =>
    exfalso
    obtain ⟨v, -, hs⟩ := iv_oI hs
    cases hs
  | lload_n n =>
    exfalso
    obtain ⟨v, -, hs⟩ := iv_oL hs
    cases hs
  | lload n =>
    exfalso
    obtain ⟨v, -, hs⟩ := iv_oL hs
    cases hs
  | istore_n n =>
    exfalso
    obtain ⟨v, t, -, hs⟩ := iv_sI hs
    cases hs
  | istore n =>
    exfalso
    obtain ⟨v, t, -, hs⟩ := iv_sI hs
    cases hs
  | astore_n n =>
    exfalso
    obtain ⟨v, t, -, hs⟩ := iv_sR hs
    cases hs
  | astore n =>
    exfalso
    obtain ⟨v, t, -, hs⟩ := iv_sR hs
    cases hs
  | lstore_n n =>
    exfalso
    obtain ⟨v, t, -, hs⟩ := iv_sL hs
    cases hs
  | lstore n =>
    exfalso
    obtain ⟨v, t, -, hs⟩ := iv_sL hs
    cases hs
  | iinc i n =>
    exfalso
    obtain ⟨v, -, hs⟩ := iv_oI hs
    cases hs
  | iconst n =>
    exfalso
    cases hs
  | bipush n =>
    exfalso
    cases hs
  | sipush n =>
    exfalso
    cases hs
  | lconst n =>
    exfalso
    cases hs
  | ldc n =>
    exfalso
    cases hs
  | ldc2_w n =>
    exfalso
    cases hs
  | goto n =>
    exfalso
    cases hs
  | iadd  =>
    exfalso
    obtain ⟨a, b9, t, -, hs⟩ := iv_sII hs
    cases hs
  | isub  =>
    exfalso
    obtain ⟨a, b9, t, -, hs⟩ := iv_sII hs
    cases hs
  | imul  =>
    exfalso
    obtain ⟨a, b9, t, -, hs⟩ := iv_sII hs
    cases hs
  | iand  =>
    exfalso
    obtain ⟨a, b9, t, -, hs⟩ := iv_sII hs
    cases hs
  | ior  =>
    exfalso
    obtain ⟨a, b9, t, -, hs⟩ := iv_sII hs
    cases hs
  | ishr  =>
    exfalso
    obtain ⟨a, b9, t, -, hs⟩ := iv_sII hs
    cases hs
  | iushr  =>
    exfalso
    obtain ⟨a, b9, t, -, hs⟩ := iv_sII hs
    cases hs
  | ladd  =>
    exfalso
    obtain ⟨a, b9, t, -, hs⟩ := iv_sLL hs
    cases hs
  | lsub  =>
    exfalso
    obtain ⟨a, b9, t, -, hs⟩ := iv_sLL hs
    cases hs
  | lmul  =>
    exfalso
    obtain ⟨a, b9, t, -, hs⟩ := iv_sLL hs
    cases hs
  | land  =>
    exfalso
    obtain ⟨a, b9, t, -, hs⟩ := iv_sLL hs
    cases hs
  | lor  =>
    exfalso
    obtain ⟨a, b9, t, -, hs⟩ := iv_sLL hs
    cases hs
  | lxor  =>
    exfalso
    obtain ⟨a, b9, t, -, hs⟩ := iv_sLL hs
    cases hs
  | lcmp  =>
    exfalso
    obtain ⟨a, b9, t, -, hs⟩ := iv_sLL hs
    cases hs
  | idiv  =>
    exfalso
    obtain ⟨a, b9, t, -, hs⟩ := iv_sII hs
    rcases bal hs with ⟨-, hs⟩ | ⟨-, hs⟩ <;> cases hs
  | irem  =>
    exfalso
    obtain ⟨a, b9, t, -, hs⟩ := iv_sII hs
    rcases bal hs with ⟨-, hs⟩ | ⟨-, hs⟩ <;> cases hs
  | ldiv  =>
    exfalso
    obtain ⟨a, b9, t, -, hs⟩ := iv_sLL hs
    rcases bal hs with ⟨-, hs⟩ | ⟨-, hs⟩ <;> cases hs
  | lrem  =>
    exfalso
    obtain ⟨a, b9, t, -, hs⟩ := iv_sLL hs
    rcases bal hs with ⟨-, hs⟩ | ⟨-, hs⟩ <;> cases hs
  | ineg  =>
    exfalso
    obtain ⟨a, t, -, hs⟩ := iv_sI hs
    cases hs
  | lneg  =>
    exfalso
    obtain ⟨a, t, -, hs⟩ := iv_sL hs
    cases hs
  | i2l  =>
    exfalso
    obtain ⟨a, t, -, hs⟩ := iv_sI hs
    cases hs
  | l2i  =>
    exfalso
    obtain ⟨a, t, -, hs⟩ := iv_sL hs
    cases hs
  | i2b  =>
    exfalso
    obtain ⟨a, t, -, hs⟩ := iv_sI hs
    cases hs
  | i2s  =>
    exfalso
    obtain ⟨a, t, -, hs⟩ := iv_sI hs
    cases hs
  | lshl  =>
    exfalso
    obtain ⟨a, b9, t, -, hs⟩ := iv_sLI hs
    cases hs
  | dup  =>
    exfalso
    obtain ⟨v, t, -, hs⟩ := iv_sV hs
    obtain ⟨-, hs⟩ := iv_bo hs
    cases hs
  | pop  =>
    exfalso
    obtain ⟨v, t, -, hs⟩ := iv_sV hs
    obtain ⟨-, hs⟩ := iv_bo hs
    cases hs
  | dup2  =>
    exfalso
    obtain ⟨v, t, -, hs⟩ := iv_sV hs
    obtain ⟨v, t, -, hs⟩ := iv_sV hs
    obtain ⟨-, hs⟩ := iv_bo hs
    cases hs
  | ifCond cd off =>
    exfalso
    obtain ⟨a, t, -, hs⟩ := iv_sI hs
    cases cd <;> (rcases bal hs with ⟨-, hs⟩ | ⟨-, hs⟩ <;> cases hs)
  | if_icmp cd off =>
    exfalso
    obtain ⟨a, b9, t, -, hs⟩ := iv_sII hs
    cases cd <;> (rcases bal hs with ⟨-, hs⟩ | ⟨-, hs⟩ <;> cases hs)
  | tableswitch a9 b9 c9 d9 =>
    exfalso
    obtain ⟨v, t, -, hs⟩ := iv_sI hs
    dsimp only at hs
    split at hs
    · rcases bal hs with ⟨-, hs⟩ | ⟨-, hs⟩ <;> cases hs
    · cases hs
  | getfield n =>
    exfalso
    obtain ⟨a, t, -, hs⟩ := iv_sR hs
    obtain ⟨ci, fs, -, hs⟩ := iv_hO hs
    obtain ⟨-, hs⟩ := iv_bo hs
    dsimp only at hs
    split at hs <;> cases hs
  | putfield n =>
    exfalso
    obtain ⟨v, a, t, -, hs⟩ := iv_sVR hs
    obtain ⟨ci, fs, -, hs⟩ := iv_hO hs
    obtain ⟨-, hs⟩ := iv_bo hs
    cases hs
  | baload  =>
    exfalso
    obtain ⟨i, a, t, -, hs⟩ := iv_sIR hs
    obtain ⟨n, f, -, hs⟩ := iv_hI hs
    obtain ⟨-, hs⟩ := iv_in hs
    cases hs
  | laload  =>
    exfalso
    obtain ⟨i, a, t, -, hs⟩ := iv_sIR hs
    obtain ⟨n, f, -, hs⟩ := iv_hL hs
    obtain ⟨-, hs⟩ := iv_in hs
    cases hs
  | iaload  =>
    exfalso
    rcases iv_sIF hs with ⟨i, a, t, -, hs⟩ | ⟨i, y, t, -, hs⟩
    · obtain ⟨n, f, -, hs⟩ := iv_hI hs
      obtain ⟨-, hs⟩ := iv_in hs
      cases hs
    · obtain ⟨L, xs, -, hs⟩ := iv_oSc hs
      obtain ⟨-, hs⟩ := iv_in hs
      cases hs
  | arraylength  =>
    exfalso
    rcases iv_sRF hs with ⟨a, t, -, hs⟩ | ⟨y, t, -, hs⟩
    · obtain ⟨n, f, -, -, hs⟩ := iv_hN hs
      cases hs
    · obtain ⟨L, xs, -, hs⟩ := iv_oSc hs
      cases hs
  | aaload  =>
    exfalso
    obtain ⟨i, a, t, -, hs⟩ := iv_sIR hs
    obtain ⟨tg, n, f, -, -, -, hs⟩ := iv_hQ hs
    obtain ⟨-, hs⟩ := iv_in hs
    split at hs <;> cases hs
  | iastore  =>
    exfalso
    obtain ⟨y, i, a, t, -, hs⟩ := iv_sIIR hs
    obtain ⟨n, f, -, hs⟩ := iv_hI hs
    obtain ⟨-, hs⟩ := iv_in hs
    cases hs
  | bastore  =>
    exfalso
    obtain ⟨y, i, a, t, -, hs⟩ := iv_sIIR hs
    obtain ⟨n, f, -, hs⟩ := iv_hI hs
    obtain ⟨-, hs⟩ := iv_in hs
    obtain ⟨-, hs⟩ := iv_bo hs
    cases hs
  | lastore  =>
    exfalso
    obtain ⟨y, i, a, t, -, hs⟩ := iv_sLIR hs
    obtain ⟨n, f, -, hs⟩ := iv_hL hs
    obtain ⟨-, hs⟩ := iv_in hs
    cases hs
  | aastore  =>
    exfalso
    obtain ⟨v, i, a, t, -, hs⟩ := iv_sRIR hs
    obtain ⟨tg, n, f, -, -, -, hs⟩ := iv_hQ hs
    obtain ⟨cv, vs, -, hs⟩ := iv_hO hs
    obtain ⟨-, hs⟩ := iv_bo hs
    obtain ⟨-, hs⟩ := iv_in hs
    cases hs
  | new n =>
    exfalso
    obtain ⟨-, hs⟩ := iv_bo hs
    cases hs
  | newarray n =>
    exfalso
    cases n <;> first | (cases hs; done) | (obtain ⟨v, t, -, hs⟩ := iv_sI hs; rcases bal hs with ⟨-, hs⟩ | ⟨-, hs⟩ <;> cases hs)
  | anewarray n =>
    exfalso
    obtain ⟨v, t, -, hs⟩ := iv_sI hs
    rcases bal hs with ⟨-, hs⟩ | ⟨-, hs⟩ <;> cases hs
  | multianewarray n d9 =>
    exfalso
    obtain ⟨v, u, t, -, hs⟩ := iv_sII hs
    rcases bal hs with ⟨-, hs⟩ | ⟨-, hs⟩ <;> cases hs
  | invokevirtual n =>
    exfalso
    obtain ⟨a, t, -, hs⟩ := iv_sR hs
    obtain ⟨y, -, -, hs⟩ := iv_eInv hs
    cases hs
  | invokespecial n =>
    exfalso
    have hs : (bif Nat.beq ra 9999 then sR st (fun _ t => bo (Nat.ble (eSum t) 8) (some (.inl (pc + 3, ls, t, h)))) else eVirt M (pc, .invokespecial n, len, ra, rb, wi) ls st h) = some (Sum.inr x : eS ⊕ eR) := hs
    cases h99 : Nat.beq ra 9999 with
    | true =>
      rw [h99] at hs
      obtain ⟨a, t, -, hs⟩ := iv_sR hs
      obtain ⟨-, hs⟩ := iv_bo hs
      cases hs
    | false =>
      rw [h99] at hs
      obtain ⟨a, t, -, hs⟩ := iv_sR hs
      obtain ⟨y, -, -, hs⟩ := iv_eInv hs
      cases hs
  | invokestatic n =>
    exfalso
    have hs : (bif Nat.beq ra 9998 then eCpy pc ls st h else eStat M (pc, .invokestatic n, len, ra, rb, wi) ls st h) = some (Sum.inr x : eS ⊕ eR) := hs
    cases h99 : Nat.beq ra 9998 with
    | true =>
      rw [h99] at hs
      obtain ⟨a0, sp, a1, dp, n, t, -, hs⟩ := iv_sCpy hs
      obtain ⟨n0, f, -, hs⟩ := iv_hI hs
      obtain ⟨n1, g, -, hs⟩ := iv_hI hs
      obtain ⟨-, hs⟩ := iv_bo hs
      rcases bal hs with ⟨-, hs⟩ | ⟨-, hs⟩ <;> cases hs
    | false =>
      rw [h99] at hs
      obtain ⟨-, hs⟩ := iv_bo hs
      obtain ⟨y, -, -, hs⟩ := iv_eInv hs
      cases hs
  | _ => cases hs
theorem estep_le {sc : eSc} {M : eM} (hM : ∀ (j : Nat) (as : List Value) (h : eH) (x : eR), M j as h = some x → h.2.1 ≤ x.2.2.1 ∧ h.2.2 ≤ x.2.2.2) {r : eRow} {ls : eL} {st : List Value} {h : eH} {q' : eS} (hs : estep sc M r ls st h = some (.inl q')) : h.2.1 ≤ q'.2.2.2.2.1 ∧ h.2.2 ≤ q'.2.2.2.2.2 := by
  obtain ⟨pc, ins, len, ra, rb, wi⟩ := r
  have z : h.2.1 ≤ h.2.1 ∧ h.2.2 ≤ h.2.2 := ⟨Nat.le_refl _, Nat.le_refl _⟩
  cases ins with
  | aload_n n =>
    have hs : oA (ls.getD n.val none) (fun v => some (.inl (pc + 1, ls, v :: st, h))) = some (Sum.inl q' : eS ⊕ eR) := hs
    obtain ⟨v, -, -, hs⟩ := iv_oA hs
    cases hs
    exact z
  | aload n =>
    have hs : oA (ls.getD n none) (fun v => some (.inl (pc + 2, ls, v :: st, h))) = some (Sum.inl q' : eS ⊕ eR) := hs
    obtain ⟨v, -, -, hs⟩ := iv_oA hs
    cases hs
    exact z
  | iload_n n =>
    obtain ⟨v, -, hs⟩ := iv_oI hs
    cases hs
    exact z
  | iload n =>
    obtain ⟨v, -, hs⟩ := iv_oI hs
    cases hs
    exact z
  | lload_n n =>
    obtain ⟨v, -, hs⟩ := iv_oL hs
    cases hs
    exact z
  | lload n =>
    obtain ⟨v, -, hs⟩ := iv_oL hs
    cases hs
    exact z
  | istore_n n =>
    obtain ⟨v, t, -, hs⟩ := iv_sI hs
    cases hs
    exact z
  | istore n =>
    obtain ⟨v, t, -, hs⟩ := iv_sI hs
    cases hs
    exact z
  | astore_n n =>
    obtain ⟨v, t, -, hs⟩ := iv_sR hs
    cases hs
    exact z
  | astore n =>
    obtain ⟨v, t, -, hs⟩ := iv_sR hs
    cases hs
    exact z
  | lstore_n n =>
    obtain ⟨v, t, -, hs⟩ := iv_sL hs
    cases hs
    exact z
  | lstore n =>
    obtain ⟨v, t, -, hs⟩ := iv_sL hs
    cases hs
    exact z
  | iinc i n =>
    obtain ⟨v, -, hs⟩ := iv_oI hs
    cases hs
    exact z
  | iconst n =>
    cases hs
    exact z
  | bipush n =>
    cases hs
    exact z
  | sipush n =>
    cases hs
    exact z
  | lconst n =>
    cases hs
    exact z
  | ldc n =>
    cases hs
    exact z
  | ldc2_w n =>
    cases hs
    exact z
  | goto n =>
    cases hs
    exact z
  | iadd  =>
    obtain ⟨a, b9, t, -, hs⟩ := iv_sII hs
    cases hs
    exact z
  | isub  =>
    obtain ⟨a, b9, t, -, hs⟩ := iv_sII hs
    cases hs
    exact z
  | imul  =>
    obtain ⟨a, b9, t, -, hs⟩ := iv_sII hs
    cases hs
    exact z
  | iand  =>
    obtain ⟨a, b9, t, -, hs⟩ := iv_sII hs
    cases hs
    exact z
  | ior  =>
    obtain ⟨a, b9, t, -, hs⟩ := iv_sII hs
    cases hs
    exact z
  | ishr  =>
    obtain ⟨a, b9, t, -, hs⟩ := iv_sII hs
    cases hs
    exact z
  | iushr  =>
    obtain ⟨a, b9, t, -, hs⟩ := iv_sII hs
    cases hs
    exact z
  | ladd  =>
    obtain ⟨a, b9, t, -, hs⟩ := iv_sLL hs
    cases hs
    exact z
  | lsub  =>
    obtain ⟨a, b9, t, -, hs⟩ := iv_sLL hs
    cases hs
    exact z
  | lmul  =>
    obtain ⟨a, b9, t, -, hs⟩ := iv_sLL hs
    cases hs
    exact z
  | land  =>
    obtain ⟨a, b9, t, -, hs⟩ := iv_sLL hs
    cases hs
    exact z
  | lor  =>
    obtain ⟨a, b9, t, -, hs⟩ := iv_sLL hs
    cases hs
    exact z
  | lxor  =>
    obtain ⟨a, b9, t, -, hs⟩ := iv_sLL hs
    cases hs
    exact z
  | lcmp  =>
    obtain ⟨a, b9, t, -, hs⟩ := iv_sLL hs
    cases hs
    exact z
  | idiv  =>
    obtain ⟨a, b9, t, -, hs⟩ := iv_sII hs
    rcases bal hs with ⟨-, hs⟩ | ⟨-, hs⟩ <;> first | (cases hs; done) | (cases hs; exact z)
  | irem  =>
    obtain ⟨a, b9, t, -, hs⟩ := iv_sII hs
    rcases bal hs with ⟨-, hs⟩ | ⟨-, hs⟩ <;> first | (cases hs; done) | (cases hs; exact z)
  | ldiv  =>
    obtain ⟨a, b9, t, -, hs⟩ := iv_sLL hs
    rcases bal hs with ⟨-, hs⟩ | ⟨-, hs⟩ <;> first | (cases hs; done) | (cases hs; exact z)
  | lrem  =>
    obtain ⟨a, b9, t, -, hs⟩ := iv_sLL hs
    rcases bal hs with ⟨-, hs⟩ | ⟨-, hs⟩ <;> first | (cases hs; done) | (cases hs; exact z)
  | ineg  =>
    obtain ⟨a, t, -, hs⟩ := iv_sI hs
    cases hs
    exact z
  | lneg  =>
    obtain ⟨a, t, -, hs⟩ := iv_sL hs
    cases hs
    exact z
  | i2l  =>
    obtain ⟨a, t, -, hs⟩ := iv_sI hs
    cases hs
    exact z
  | l2i  =>
    obtain ⟨a, t, -, hs⟩ := iv_sL hs
    cases hs
    exact z
  | i2b  =>
    obtain ⟨a, t, -, hs⟩ := iv_sI hs
    cases hs
    exact z
  | i2s  =>
    obtain ⟨a, t, -, hs⟩ := iv_sI hs
    cases hs
    exact z
  | lshl  =>
    obtain ⟨a, b9, t, -, hs⟩ := iv_sLI hs
    cases hs
    exact z
  | dup  =>
    obtain ⟨v, t, -, hs⟩ := iv_sV hs
    obtain ⟨-, hs⟩ := iv_bo hs
    cases hs
    exact z
  | pop  =>
    obtain ⟨v, t, -, hs⟩ := iv_sV hs
    obtain ⟨-, hs⟩ := iv_bo hs
    cases hs
    exact z
  | dup2  =>
    obtain ⟨v, t, -, hs⟩ := iv_sV hs
    obtain ⟨v, t, -, hs⟩ := iv_sV hs
    obtain ⟨-, hs⟩ := iv_bo hs
    cases hs
    exact z
  | ifCond cd off =>
    obtain ⟨a, t, -, hs⟩ := iv_sI hs
    cases cd <;> (rcases bal hs with ⟨-, hs⟩ | ⟨-, hs⟩ <;> (cases hs; exact z))
  | if_icmp cd off =>
    obtain ⟨a, b9, t, -, hs⟩ := iv_sII hs
    cases cd <;> (rcases bal hs with ⟨-, hs⟩ | ⟨-, hs⟩ <;> (cases hs; exact z))
  | tableswitch a9 b9 c9 d9 =>
    obtain ⟨v, t, -, hs⟩ := iv_sI hs
    dsimp only at hs
    split at hs
    · rcases bal hs with ⟨-, hs⟩ | ⟨-, hs⟩ <;> first | (cases hs; done) | (cases hs; exact z)
    · cases hs
  | getfield n =>
    obtain ⟨a, t, -, hs⟩ := iv_sR hs
    obtain ⟨ci, fs, -, hs⟩ := iv_hO hs
    obtain ⟨-, hs⟩ := iv_bo hs
    dsimp only at hs
    split at hs <;> first | (cases hs; done) | (cases hs; exact z)
  | putfield n =>
    obtain ⟨v, a, t, -, hs⟩ := iv_sVR hs
    obtain ⟨ci, fs, -, hs⟩ := iv_hO hs
    obtain ⟨-, hs⟩ := iv_bo hs
    cases hs
    exact z
  | baload  =>
    obtain ⟨i, a, t, -, hs⟩ := iv_sIR hs
    obtain ⟨n, f, -, hs⟩ := iv_hI hs
    obtain ⟨-, hs⟩ := iv_in hs
    cases hs
    exact z
  | laload  =>
    obtain ⟨i, a, t, -, hs⟩ := iv_sIR hs
    obtain ⟨n, f, -, hs⟩ := iv_hL hs
    obtain ⟨-, hs⟩ := iv_in hs
    cases hs
    exact z
  | iaload  =>
    rcases iv_sIF hs with ⟨i, a, t, -, hs⟩ | ⟨i, y, t, -, hs⟩
    · obtain ⟨n, f, -, hs⟩ := iv_hI hs
      obtain ⟨-, hs⟩ := iv_in hs
      cases hs
      exact z
    · obtain ⟨L, xs, -, hs⟩ := iv_oSc hs
      obtain ⟨-, hs⟩ := iv_in hs
      cases hs
      exact z
  | arraylength  =>
    rcases iv_sRF hs with ⟨a, t, -, hs⟩ | ⟨y, t, -, hs⟩
    · obtain ⟨n, f, -, -, hs⟩ := iv_hN hs
      cases hs
      exact z
    · obtain ⟨L, xs, -, hs⟩ := iv_oSc hs
      cases hs
      exact z
  | aaload  =>
    obtain ⟨i, a, t, -, hs⟩ := iv_sIR hs
    obtain ⟨tg, n, f, -, -, -, hs⟩ := iv_hQ hs
    obtain ⟨-, hs⟩ := iv_in hs
    split at hs <;> first | (cases hs; done) | (cases hs; exact z)
  | iastore  =>
    obtain ⟨y, i, a, t, -, hs⟩ := iv_sIIR hs
    obtain ⟨n, f, -, hs⟩ := iv_hI hs
    obtain ⟨-, hs⟩ := iv_in hs
    cases hs
    exact z
  | bastore  =>
    obtain ⟨y, i, a, t, -, hs⟩ := iv_sIIR hs
    obtain ⟨n, f, -, hs⟩ := iv_hI hs
    obtain ⟨-, hs⟩ := iv_in hs
    obtain ⟨-, hs⟩ := iv_bo hs
    cases hs
    exact z
  | lastore  =>
    obtain ⟨y, i, a, t, -, hs⟩ := iv_sLIR hs
    obtain ⟨n, f, -, hs⟩ := iv_hL hs
    obtain ⟨-, hs⟩ := iv_in hs
    cases hs
    exact z
  | aastore  =>
    obtain ⟨v, i, a, t, -, hs⟩ := iv_sRIR hs
    obtain ⟨tg, n, f, -, -, -, hs⟩ := iv_hQ hs
    obtain ⟨cv, vs, -, hs⟩ := iv_hO hs
    obtain ⟨-, hs⟩ := iv_bo hs
    obtain ⟨-, hs⟩ := iv_in hs
    cases hs
    exact z
  | new n =>
    obtain ⟨-, hs⟩ := iv_bo hs
    cases hs
    exact ⟨Nat.le_succ _, Nat.le_add_right _ _⟩
  | newarray n =>
    cases n <;> first | (cases hs; done) | (obtain ⟨v, t, -, hs⟩ := iv_sI hs; rcases bal hs with ⟨-, hs⟩ | ⟨-, hs⟩ <;> first | (cases hs; done) | (cases hs; exact ⟨Nat.le_succ _, Nat.le_add_right _ _⟩))
  | anewarray n =>
    obtain ⟨v, t, -, hs⟩ := iv_sI hs
    rcases bal hs with ⟨-, hs⟩ | ⟨-, hs⟩ <;> first | (cases hs; done) | (cases hs; exact ⟨Nat.le_succ _, Nat.le_add_right _ _⟩)
  | multianewarray n d9 =>
    obtain ⟨v, u, t, -, hs⟩ := iv_sII hs
    rcases bal hs with ⟨-, hs⟩ | ⟨-, hs⟩ <;> first | (cases hs; done) | (cases hs; exact ⟨by dsimp only; omega, by dsimp only; omega⟩)
  | invokevirtual n =>
    obtain ⟨a, t, -, hs⟩ := iv_sR hs
    obtain ⟨y, hy, -, hs⟩ := iv_eInv hs
    cases hs
    exact hM _ _ _ _ hy
  | invokespecial n =>
    have hs : (bif Nat.beq ra 9999 then sR st (fun _ t => bo (Nat.ble (eSum t) 8) (some (.inl (pc + 3, ls, t, h)))) else eVirt M (pc, .invokespecial n, len, ra, rb, wi) ls st h) = some (Sum.inl q' : eS ⊕ eR) := hs
    cases h99 : Nat.beq ra 9999 with
    | true =>
      rw [h99] at hs
      obtain ⟨a, t, -, hs⟩ := iv_sR hs
      obtain ⟨-, hs⟩ := iv_bo hs
      cases hs
      exact z
    | false =>
      rw [h99] at hs
      obtain ⟨a, t, -, hs⟩ := iv_sR hs
      obtain ⟨y, hy, -, hs⟩ := iv_eInv hs
      cases hs
      exact hM _ _ _ _ hy
  | invokestatic n =>
    have hs : (bif Nat.beq ra 9998 then eCpy pc ls st h else eStat M (pc, .invokestatic n, len, ra, rb, wi) ls st h) = some (Sum.inl q' : eS ⊕ eR) := hs
    cases h99 : Nat.beq ra 9998 with
    | true =>
      rw [h99] at hs
      obtain ⟨a0, sp, a1, dp, n, t, -, hs⟩ := iv_sCpy hs
      obtain ⟨n0, f, -, hs⟩ := iv_hI hs
      obtain ⟨n1, g, -, hs⟩ := iv_hI hs
      obtain ⟨-, hs⟩ := iv_bo hs
      rcases bal hs with ⟨-, hs⟩ | ⟨-, hs⟩ <;> first | (cases hs; done) | (cases hs; exact z)
    | false =>
      rw [h99] at hs
      obtain ⟨-, hs⟩ := iv_bo hs
      obtain ⟨y, hy, -, hs⟩ := iv_eInv hs
      cases hs
      exact hM _ _ _ _ hy
  | ireturn =>
    exfalso
    unfold estep at hs
    dsimp only at hs
    split at hs
    · obtain ⟨-, hs⟩ := iv_bo hs
      cases hs
    · cases hs
  | lreturn =>
    exfalso
    unfold estep at hs
    dsimp only at hs
    split at hs
    · cases hs
    · cases hs
  | areturn =>
    exfalso
    unfold estep at hs
    dsimp only at hs
    split at hs
    · cases hs
    · cases hs
  | return_ =>
    exfalso
    unfold estep at hs
    dsimp only at hs
    split at hs
    · cases hs
    · cases hs
  | _ => cases hs
theorem eExec_le {sc : eSc} {M : eM} (hM : ∀ (j : Nat) (as : List Value) (h : eH) (x : eR), M j as h = some x → h.2.1 ≤ x.2.2.1 ∧ h.2.2 ≤ x.2.2.2) {tb : List eRow} : ∀ (f : Nat) {q : eS} {x : eR}, eExec f sc M tb q = some x → q.2.2.2.2.1 ≤ x.2.2.1 ∧ q.2.2.2.2.2 ≤ x.2.2.2 := by
  intro f
  induction f with
  | zero => intro q x hs; cases hs
  | succ f ih =>
    intro q x hs
    unfold eExec at hs
    cases hf : eFind tb q.1 with
    | none => rw [hf] at hs; cases hs
    | some r =>
      rw [hf] at hs
      dsimp only at hs
      cases hst : estep sc M r q.2.1 q.2.2.1 q.2.2.2 with
      | none => rw [hst] at hs; cases hs
      | some y =>
        rw [hst] at hs
        cases y with
        | inl q' =>
          obtain ⟨g1, g2⟩ := estep_le hM hst
          obtain ⟨i1, i2⟩ := ih hs
          exact ⟨Nat.le_trans g1 i1, Nat.le_trans g2 i2⟩
        | inr z =>
          cases hs
          rw [eret_heap hst]
          exact ⟨Nat.le_refl _, Nat.le_refl _⟩
section MET
variable {p : Program} {l : Launch} {e : Env} {R : Room} {s : State} {m : MethodId} {args : Array Value} {below : List Frame} {meth : Method} {c : Code} {D : va_G} {dA : Nat → ClassId} {b base : Nat} {qm : Nat → eMI} {k : Nat} {sc : eSc} {M : eM} {Ts : List Cond}
theorem eret_sound (C : eCx p s m args meth c D dA b base sc (qm k) Ts) (hrt : meth.sig.returnType = (qm k).2.2.2.1) (hlocks : meth.locks = false) {r : eRow} (hr : rB qm k r = true) {ls : eL} {st : List Value} {h : eH} {x : eR} (hs : estep sc M r ls st h = some (.inr x)) : x.2 = h ∧ ∀ {H : Heap} {locs : List Loc} {cells slots : Nat} {arr : Array Slot}, WH D dA b base h H → va_S (fun q => base ≤ q) s.heap H locs → W p l e R s m args below meth c H locs cells slots (MQ below (eQ D dA b base x) args s cells slots (fun q => base ≤ q)) (F0 m r.1 arr (st.map (lf b base))) := by
  obtain ⟨hx, hb, hml, hown, hts0, hT, hK, hbs, hin, hsc⟩ := C
  simp only [rB, Bool.and_eq_true, decide_eq_true_eq] at hr
  obtain ⟨hd, hi⟩ := hr
  obtain ⟨pc, ins, len, ra, rb, wi⟩ := r
  dsimp only at hd ⊢
  have fin : ∀ {H : Heap} {locs : List Loc} {v : Option Value}, WH D dA b base h H → va_S (fun q => base ≤ q) s.heap H locs → ∀ t : State, t.heap = H → s.WarmedH t.vm → eQ D dA b base (v, h) args s (.returned (v.map (lf b base))) t := fun hw hS t ht hW => ⟨rfl, by rw [ht]; exact hw, KK.warm hW hK, hS.F ht⟩
  cases ins with
  | ireturn =>
    have hi : (Nat.beq len 1 && ((Nat.beq ra 0 && (qm k).2.2.2.1 == some .int) || (Nat.beq ra 1 && (qm k).2.2.2.1 == some .boolean))) = true := hi
    simp only [Bool.and_eq_true, Bool.or_eq_true, beq_iff_eq] at hi
    obtain ⟨hi1, hj⟩ := hi
    have hlen : len = 1 := nb hi1
    subst hlen
    unfold estep at hs
    dsimp only at hs
    split at hs
    · next v =>
      obtain ⟨hc, hs⟩ := iv_bo hs
      cases hs
      refine ⟨rfl, fun {H locs cells slots arr} hw hS => ?_⟩
      rcases hj with ⟨h0, hty⟩ | ⟨h1, hty⟩
      · exact W.iret hx hb (by rw [hrt]; exact hty) (fin (v := some (.int v)) hw hS) hS.2.2 hd hlocks
      · have h1 := nb h1
        have hn : narrow .boolean (.int v) = .int v := by
          subst h1
          simp only [Bool.or_eq_true, beq_iff_eq] at hc
          rcases hc with hc | hc | hc
          · cases hc
          · subst hc; decide
          · subst hc; decide
        exact W.zret hx hb (by rw [hrt]; exact hty) hn (fin (v := some (.int v)) hw hS) hS.2.2 hd hlocks
    · cases hs
  | lreturn =>
    have hi : (Nat.beq len 1 && (qm k).2.2.2.1 == some .long) = true := hi
    simp only [Bool.and_eq_true, beq_iff_eq] at hi
    have hlen : len = 1 := nb hi.1
    subst hlen
    unfold estep at hs
    dsimp only at hs
    split at hs
    · next v =>
      cases hs
      exact ⟨rfl, fun {H locs cells slots arr} hw hS => W.lret hx hb (by rw [hrt]; exact hi.2) (fin (v := some (.long v)) hw hS) hS.2.2 hd hlocks⟩
    · cases hs
  | areturn =>
    have hi : (Nat.beq len 1 && (qm k).2.2.2.1 == some (.object "TensionNet$Whole")) = true := hi
    simp only [Bool.and_eq_true, beq_iff_eq] at hi
    have hlen : len = 1 := nb hi.1
    subst hlen
    unfold estep at hs
    dsimp only at hs
    split at hs
    · next v =>
      cases hs
      exact ⟨rfl, fun {H locs cells slots arr} hw hS => W.aret hx hb (by rw [hrt]; exact hi.2) (Or.inl ⟨_, rfl⟩) (Or.inr ⟨_, rfl⟩) (fin (v := some (.ref v)) hw hS) hS.2.2 hd hlocks⟩
    · cases hs
  | return_ =>
    have hi : (Nat.beq len 1 && (qm k).2.2.2.1 == none) = true := hi
    simp only [Bool.and_eq_true, beq_iff_eq] at hi
    have hlen : len = 1 := nb hi.1
    subst hlen
    unfold estep at hs
    dsimp only at hs
    split at hs
    · cases hs
      exact ⟨rfl, fun {H locs cells slots arr} hw hS => W.vret hx hb (by rw [hrt]; exact hi.2) (fin (v := none) hw hS) hS.2.2 hd hlocks⟩
    · cases hs
  | aload_n n =>
    exfalso
    have hs : oA (ls.getD n.val none) (fun v => some (.inl (pc + 1, ls, v :: st, h))) = some (Sum.inr x : eS ⊕ eR) := hs
    obtain ⟨v, -, -, hs⟩ := iv_oA hs
    cases hs
  | aload n =>
    exfalso
    have hs : oA (ls.getD n none) (fun v => some (.inl (pc + 2, ls, v :: st, h))) = some (Sum.inr x : eS ⊕ eR) := hs
    obtain ⟨v, -, -, hs⟩ := iv_oA hs
    cases hs
  | iload_n n =>
    exfalso
    obtain ⟨v, -, hs⟩ := iv_oI hs
    cases hs
  | iload n =>
    exfalso
    obtain ⟨v, -, hs⟩ := iv_oI hs
    cases hs
  | lload_n n =>
    exfalso
    obtain ⟨v, -, hs⟩ := iv_oL hs
    cases hs
  | lload n =>
    exfalso
    obtain ⟨v, -, hs⟩ := iv_oL hs
    cases hs
  | istore_n n =>
    exfalso
    obtain ⟨v, t, -, hs⟩ := iv_sI hs
    cases hs
  | istore n =>
    exfalso
    obtain ⟨v, t, -, hs⟩ := iv_sI hs
    cases hs
  | astore_n n =>
    exfalso
    obtain ⟨v, t, -, hs⟩ := iv_sR hs
    cases hs
  | astore n =>
    exfalso
    obtain ⟨v, t, -, hs⟩ := iv_sR hs
    cases hs
  | lstore_n n =>
    exfalso
    obtain ⟨v, t, -, hs⟩ := iv_sL hs
    cases hs
  | lstore n =>
    exfalso
    obtain ⟨v, t, -, hs⟩ := iv_sL hs
    cases hs
  | iinc i n =>
    exfalso
    obtain ⟨v, -, hs⟩ := iv_oI hs
    cases hs
  | iconst n =>
    exfalso
    cases hs
  | bipush n =>
    exfalso
    cases hs
  | sipush n =>
    exfalso
    cases hs
  | lconst n =>
    exfalso
    cases hs
  | ldc n =>
    exfalso
    cases hs
  | ldc2_w n =>
    exfalso
    cases hs
  | goto n =>
    exfalso
    cases hs
  | iadd  =>
    exfalso
    obtain ⟨a, b9, t, -, hs⟩ := iv_sII hs
    cases hs
  | isub  =>
    exfalso
    obtain ⟨a, b9, t, -, hs⟩ := iv_sII hs
    cases hs
  | imul  =>
    exfalso
    obtain ⟨a, b9, t, -, hs⟩ := iv_sII hs
    cases hs
  | iand  =>
    exfalso
    obtain ⟨a, b9, t, -, hs⟩ := iv_sII hs
    cases hs
  | ior  =>
    exfalso
    obtain ⟨a, b9, t, -, hs⟩ := iv_sII hs
    cases hs
  | ishr  =>
    exfalso
    obtain ⟨a, b9, t, -, hs⟩ := iv_sII hs
    cases hs
  | iushr  =>
    exfalso
    obtain ⟨a, b9, t, -, hs⟩ := iv_sII hs
    cases hs
  | ladd  =>
    exfalso
    obtain ⟨a, b9, t, -, hs⟩ := iv_sLL hs
    cases hs
  | lsub  =>
    exfalso
    obtain ⟨a, b9, t, -, hs⟩ := iv_sLL hs
    cases hs
  | lmul  =>
    exfalso
    obtain ⟨a, b9, t, -, hs⟩ := iv_sLL hs
    cases hs
  | land  =>
    exfalso
    obtain ⟨a, b9, t, -, hs⟩ := iv_sLL hs
    cases hs
  | lor  =>
    exfalso
    obtain ⟨a, b9, t, -, hs⟩ := iv_sLL hs
    cases hs
  | lxor  =>
    exfalso
    obtain ⟨a, b9, t, -, hs⟩ := iv_sLL hs
    cases hs
  | lcmp  =>
    exfalso
    obtain ⟨a, b9, t, -, hs⟩ := iv_sLL hs
    cases hs
  | idiv  =>
    exfalso
    obtain ⟨a, b9, t, -, hs⟩ := iv_sII hs
    rcases bal hs with ⟨-, hs⟩ | ⟨-, hs⟩ <;> cases hs
  | irem  =>
    exfalso
    obtain ⟨a, b9, t, -, hs⟩ := iv_sII hs
    rcases bal hs with ⟨-, hs⟩ | ⟨-, hs⟩ <;> cases hs
  | ldiv  =>
    exfalso
    obtain ⟨a, b9, t, -, hs⟩ := iv_sLL hs
    rcases bal hs with ⟨-, hs⟩ | ⟨-, hs⟩ <;> cases hs
  | lrem  =>
    exfalso
    obtain ⟨a, b9, t, -, hs⟩ := iv_sLL hs
    rcases bal hs with ⟨-, hs⟩ | ⟨-, hs⟩ <;> cases hs
  | ineg  =>
    exfalso
    obtain ⟨a, t, -, hs⟩ := iv_sI hs
    cases hs
  | lneg  =>
    exfalso
    obtain ⟨a, t, -, hs⟩ := iv_sL hs
    cases hs
  | i2l  =>
    exfalso
    obtain ⟨a, t, -, hs⟩ := iv_sI hs
    cases hs
  | l2i  =>
    exfalso
    obtain ⟨a, t, -, hs⟩ := iv_sL hs
    cases hs
  | i2b  =>
    exfalso
    obtain ⟨a, t, -, hs⟩ := iv_sI hs
    cases hs
  | i2s  =>
    exfalso
    obtain ⟨a, t, -, hs⟩ := iv_sI hs
    cases hs
  | lshl  =>
    exfalso
    obtain ⟨a, b9, t, -, hs⟩ := iv_sLI hs
    cases hs
  | dup  =>
    exfalso
    obtain ⟨v, t, -, hs⟩ := iv_sV hs
    obtain ⟨-, hs⟩ := iv_bo hs
    cases hs
  | pop  =>
    exfalso
    obtain ⟨v, t, -, hs⟩ := iv_sV hs
    obtain ⟨-, hs⟩ := iv_bo hs
    cases hs
  | dup2  =>
    exfalso
    obtain ⟨v, t, -, hs⟩ := iv_sV hs
    obtain ⟨v, t, -, hs⟩ := iv_sV hs
    obtain ⟨-, hs⟩ := iv_bo hs
    cases hs
  | ifCond cd off =>
    exfalso
    obtain ⟨a, t, -, hs⟩ := iv_sI hs
    cases cd <;> (rcases bal hs with ⟨-, hs⟩ | ⟨-, hs⟩ <;> cases hs)
  | if_icmp cd off =>
    exfalso
    obtain ⟨a, b9, t, -, hs⟩ := iv_sII hs
    cases cd <;> (rcases bal hs with ⟨-, hs⟩ | ⟨-, hs⟩ <;> cases hs)
  | tableswitch a9 b9 c9 d9 =>
    exfalso
    obtain ⟨v, t, -, hs⟩ := iv_sI hs
    dsimp only at hs
    split at hs
    · rcases bal hs with ⟨-, hs⟩ | ⟨-, hs⟩ <;> cases hs
    · cases hs
  | getfield n =>
    exfalso
    obtain ⟨a, t, -, hs⟩ := iv_sR hs
    obtain ⟨ci, fs, -, hs⟩ := iv_hO hs
    obtain ⟨-, hs⟩ := iv_bo hs
    dsimp only at hs
    split at hs <;> cases hs
  | putfield n =>
    exfalso
    obtain ⟨v, a, t, -, hs⟩ := iv_sVR hs
    obtain ⟨ci, fs, -, hs⟩ := iv_hO hs
    obtain ⟨-, hs⟩ := iv_bo hs
    cases hs
  | baload  =>
    exfalso
    obtain ⟨i, a, t, -, hs⟩ := iv_sIR hs
    obtain ⟨n, f, -, hs⟩ := iv_hI hs
    obtain ⟨-, hs⟩ := iv_in hs
    cases hs
  | laload  =>
    exfalso
    obtain ⟨i, a, t, -, hs⟩ := iv_sIR hs
    obtain ⟨n, f, -, hs⟩ := iv_hL hs
    obtain ⟨-, hs⟩ := iv_in hs
    cases hs
  | iaload  =>
    exfalso
    rcases iv_sIF hs with ⟨i, a, t, -, hs⟩ | ⟨i, y, t, -, hs⟩
    · obtain ⟨n, f, -, hs⟩ := iv_hI hs
      obtain ⟨-, hs⟩ := iv_in hs
      cases hs
    · obtain ⟨L, xs, -, hs⟩ := iv_oSc hs
      obtain ⟨-, hs⟩ := iv_in hs
      cases hs
  | arraylength  =>
    exfalso
    rcases iv_sRF hs with ⟨a, t, -, hs⟩ | ⟨y, t, -, hs⟩
    · obtain ⟨n, f, -, -, hs⟩ := iv_hN hs
      cases hs
    · obtain ⟨L, xs, -, hs⟩ := iv_oSc hs
      cases hs
  | aaload  =>
    exfalso
    obtain ⟨i, a, t, -, hs⟩ := iv_sIR hs
    obtain ⟨tg, n, f, -, -, -, hs⟩ := iv_hQ hs
    obtain ⟨-, hs⟩ := iv_in hs
    split at hs <;> cases hs
  | iastore  =>
    exfalso
    obtain ⟨y, i, a, t, -, hs⟩ := iv_sIIR hs
    obtain ⟨n, f, -, hs⟩ := iv_hI hs
    obtain ⟨-, hs⟩ := iv_in hs
    cases hs
  | bastore  =>
    exfalso
    obtain ⟨y, i, a, t, -, hs⟩ := iv_sIIR hs
    obtain ⟨n, f, -, hs⟩ := iv_hI hs
    obtain ⟨-, hs⟩ := iv_in hs
    obtain ⟨-, hs⟩ := iv_bo hs
    cases hs
  | lastore  =>
    exfalso
    obtain ⟨y, i, a, t, -, hs⟩ := iv_sLIR hs
    obtain ⟨n, f, -, hs⟩ := iv_hL hs
    obtain ⟨-, hs⟩ := iv_in hs
    cases hs
  | aastore  =>
    exfalso
    obtain ⟨v, i, a, t, -, hs⟩ := iv_sRIR hs
    obtain ⟨tg, n, f, -, -, -, hs⟩ := iv_hQ hs
    obtain ⟨cv, vs, -, hs⟩ := iv_hO hs
    obtain ⟨-, hs⟩ := iv_bo hs
    obtain ⟨-, hs⟩ := iv_in hs
    cases hs
  | new n =>
    exfalso
    obtain ⟨-, hs⟩ := iv_bo hs
    cases hs
  | newarray n =>
    exfalso
    cases n <;> first | (cases hs; done) | (obtain ⟨v, t, -, hs⟩ := iv_sI hs; rcases bal hs with ⟨-, hs⟩ | ⟨-, hs⟩ <;> cases hs)
  | anewarray n =>
    exfalso
    obtain ⟨v, t, -, hs⟩ := iv_sI hs
    rcases bal hs with ⟨-, hs⟩ | ⟨-, hs⟩ <;> cases hs
  | multianewarray n d9 =>
    exfalso
    obtain ⟨v, u, t, -, hs⟩ := iv_sII hs
    rcases bal hs with ⟨-, hs⟩ | ⟨-, hs⟩ <;> cases hs
  | invokevirtual n =>
    exfalso
    obtain ⟨a, t, -, hs⟩ := iv_sR hs
    obtain ⟨y, -, -, hs⟩ := iv_eInv hs
    cases hs
  | invokespecial n =>
    exfalso
    have hs : (bif Nat.beq ra 9999 then sR st (fun _ t => bo (Nat.ble (eSum t) 8) (some (.inl (pc + 3, ls, t, h)))) else eVirt M (pc, .invokespecial n, len, ra, rb, wi) ls st h) = some (Sum.inr x : eS ⊕ eR) := hs
    cases h99 : Nat.beq ra 9999 with
    | true =>
      rw [h99] at hs
      obtain ⟨a, t, -, hs⟩ := iv_sR hs
      obtain ⟨-, hs⟩ := iv_bo hs
      cases hs
    | false =>
      rw [h99] at hs
      obtain ⟨a, t, -, hs⟩ := iv_sR hs
      obtain ⟨y, -, -, hs⟩ := iv_eInv hs
      cases hs
  | invokestatic n =>
    exfalso
    have hs : (bif Nat.beq ra 9998 then eCpy pc ls st h else eStat M (pc, .invokestatic n, len, ra, rb, wi) ls st h) = some (Sum.inr x : eS ⊕ eR) := hs
    cases h99 : Nat.beq ra 9998 with
    | true =>
      rw [h99] at hs
      obtain ⟨a0, sp, a1, dp, n, t, -, hs⟩ := iv_sCpy hs
      obtain ⟨n0, f, -, hs⟩ := iv_hI hs
      obtain ⟨n1, g, -, hs⟩ := iv_hI hs
      obtain ⟨-, hs⟩ := iv_bo hs
      rcases bal hs with ⟨-, hs⟩ | ⟨-, hs⟩ <;> cases hs
    | false =>
      rw [h99] at hs
      obtain ⟨-, hs⟩ := iv_bo hs
      obtain ⟨y, -, -, hs⟩ := iv_eInv hs
      cases hs
  | _ => cases hs
/-- the evaluator's end is the machine's -/
theorem eexec_sound (C : eCx p s m args meth c D dA b base sc (qm k) Ts) (hM : eMOK qm l D dA b base k M) (hRf : R.frames = (qm k).2.2.2.2.2.2.2.1) (hRl : R.locals = (qm k).2.2.2.2.2.2.2.2) (hrt : meth.sig.returnType = (qm k).2.2.2.1) (hlocks : meth.locks = false) {tb : List eRow} (htb : ∀ r ∈ tb, rB qm k r = true) : ∀ (f : Nat) {pc : Nat} {ls : eL} {st : List Value} {h : eH} {x : eR}, eExec f sc M tb (pc, ls, st, h) = some x → h.2.1 ≤ x.2.2.1 ∧ h.2.2 ≤ x.2.2.2 ∧ ∀ {H : Heap} {locs : List Loc} {cells slots : Nat} {arr : Array Slot}, lv_has arr (qm k).2.2.1 (eEnt b base ls) → WH D dA b base h H → va_S (fun q => base ≤ q) s.heap H locs → cells + (x.2.2.1 - h.2.1) ≤ R.cells → slots + (x.2.2.2 - h.2.2) ≤ R.slots →
    W p l e R s m args below meth c H locs cells slots (MQ below (eQ D dA b base x) args s (cells + (x.2.2.1 - h.2.1)) (slots + (x.2.2.2 - h.2.2)) (fun q => base ≤ q)) (F0 m pc arr (st.map (lf b base))) := by
  intro f
  induction f with
  | zero => intro pc ls st h x hs; cases hs
  | succ f ih =>
    intro pc ls st h x hs
    unfold eExec at hs
    cases hf : eFind tb pc with
    | none => rw [hf] at hs; cases hs
    | some r =>
      rw [hf] at hs
      dsimp only at hs
      obtain ⟨hmem, hpc⟩ := eFind_mem hf
      subst hpc
      cases hst : estep sc M r ls st h with
      | none => rw [hst] at hs; cases hs
      | some y =>
        rw [hst] at hs
        cases y with
        | inl q' =>
          dsimp only at hs
          obtain ⟨pc', ls', st', h'⟩ := q'
          obtain ⟨g1, g2, g3, g4⟩ := estep_sound (l := l) (e := e) (R := R) (below := below) C hM hRf hRl (htb r hmem) hst
          dsimp only at g1 g2 g4
          obtain ⟨i1, i2, i3⟩ := ih hs
          refine ⟨Nat.le_trans g1 i1, Nat.le_trans g2 i2, fun {H locs cells slots arr} hl hw hS h1 h2 => ?_⟩
          refine g4 hl hw hS (by omega) (by omega) fun H' locs' arr' hl' hw' hS' => ?_
          have := i3 (cells := cells + (h'.2.1 - h.2.1)) (slots := slots + (h'.2.2 - h.2.2)) hl' hw' hS' (by omega) (by omega)
          rw [show cells + (h'.2.1 - h.2.1) + (x.2.2.1 - h'.2.1) = cells + (x.2.2.1 - h.2.1) by omega, show slots + (h'.2.2 - h.2.2) + (x.2.2.2 - h'.2.2) = slots + (x.2.2.2 - h.2.2) by omega] at this
          exact this
        | inr z =>
          cases hs
          obtain ⟨e1, e2⟩ := eret_sound (l := l) (e := e) (R := R) (below := below) C hrt hlocks (htb r hmem) hst
          rw [e1]
          refine ⟨Nat.le_refl _, Nat.le_refl _, fun {H locs cells slots arr} hl hw hS h1 h2 => ?_⟩
          rw [Nat.sub_self, Nat.sub_self, Nat.add_zero, Nat.add_zero]
          exact e2 hw hS
end MET
/-! the methods, each over those ahead of it -/
def alen (as : List Value) : Nat := (as.flatMap (fun v => if v.category = 2 then [some v, (none : Option Value)] else [some v])).length
def okA (i : eMI) (as : List Value) (h : eH) : Bool := Nat.ble (alen as) i.2.2.1 && (i.2.2.2.2.1 || (match as with
  | .ref a :: _ => (match h.1 a with
    | .inr (ci, _) => Nat.beq ci i.2.2.2.2.2.2.1
    | _ => false)
  | _ => false))
noncomputable def eTo (qm : Nat → eMI) (qt : Nat → List eRow) : Nat → eM
  | 0 => fun _ _ _ => none
  | k + 1 => fun j as h => bif Nat.beq j k then bo (okA (qm k) as h) (eRun none (eTo qm qt k) (qt k) (0, entL (qm k).2.2.1 as, [], h)) else eTo qm qt k j as h
theorem okA_recv {i : eMI} {as : List Value} {h : eH} (ho : okA i as h = true) : alen as ≤ i.2.2.1 ∧ (i.2.2.2.2.1 = false → ∀ a t, as = .ref a :: t → ∃ fs, h.1 a = .inr (i.2.2.2.2.2.2.1, fs)) := by
  unfold okA at ho
  rw [Bool.and_eq_true, Bool.or_eq_true] at ho
  refine ⟨Nat.le_of_ble_eq_true ho.1, fun hs a t e => ?_⟩
  rcases ho.2 with h2 | h2
  · rw [hs] at h2; cases h2
  · subst e
    dsimp only at h2
    split at h2
    · next ci fs he =>
      rw [nb h2] at he
      exact ⟨fs, he⟩
    · cases h2
theorem eTo_le {qm : Nat → eMI} {qt : Nat → List eRow} : ∀ {k : Nat} (j : Nat) (as : List Value) (h : eH) (x : eR), eTo qm qt k j as h = some x → h.2.1 ≤ x.2.2.1 ∧ h.2.2 ≤ x.2.2.2 := by
  intro k
  induction k with
  | zero => intro j as h x hs; cases hs
  | succ k ih =>
    intro j as h x hs
    unfold eTo at hs
    cases hb : Nat.beq j k with
    | true =>
      rw [hb] at hs
      obtain ⟨-, hs⟩ := iv_bo hs
      obtain ⟨f, hf⟩ := eRun_iff.mp hs
      exact eExec_le ih f hf
    | false =>
      rw [hb] at hs
      exact ih j as h x hs
/-- as the kit's, for every method in whose place no entry of the natives runs -/
theorem Met_ofWF {l : Launch} {y : MethodName} {ws ws' : List Cond} {rm : Room} {Pc : Array Value → State → Prop} {Qc : Array Value → State → Outcome → State → Prop} {mc ms : Nat} {free : Addr → Prop} {cc : ByteArray} {maxL : Nat} {ret : Option FieldType}
    (hy : plainFor y = true) (hw : ws = Cond.code y cc maxL ret :: ws')
    (body : ∀ p e s m args below meth c s₁, BodyLoose p l y (headSpec ws rm) cc maxL ret e s m args below meth c s₁ → c.maxLocals = maxL → Pc args s →
      W p l e (headSpec ws rm).room s m args below meth c s.heap [] 0 0 (MQ below Qc args s mc ms free) (entryFrame m args maxL)) : Met l y ws rm Pc Qc mc ms free := by
  refine MetFree.of_bodySF (code := cc) (maxLocals := maxL) (ret := ret) hy ?_ ?_
  · intro args s m h hn
    obtain ⟨meth, c, h1, h2, h3, h4, h5, h6, -, -⟩ := Cond.code_spec hn (atoms_spec (ws := ws) h _ (by rw [hw]; exact List.mem_cons_self))
    exact ⟨meth, c, h1, h2, h3, h4, h5, h6⟩
  · intro p e s m args below meth c s₁ B hml hP _
    have hh0 : s₁.heap = s.heap := by rw [B.state]; rfl
    obtain ⟨t, a1, o, b1, b2, b3⟩ := body p e s m args below meth c s₁ B hml hP s₁ hh0 (Stand.of_body B)
    exact ⟨t, o, a1, b1, b2, ⟨b3.1, b3.2⟩⟩
section TO
variable {qm : Nat → eMI} {qt : Nat → List eRow} {l : Launch} {D : va_G} {dA : Nat → ClassId} {b base : Nat}
theorem eTop_sound {k : Nat} (hm : mOK (qm k)) (htb : ∀ r ∈ qt k, rB qm k r = true) (hM : eMOK qm l D dA b base k (eTo qm qt k)) {as : List Value} {h : eH} {x : eR} (ho : okA (qm k) as h = true) (hr : eRun none (eTo qm qt k) (qt k) (0, entL (qm k).2.2.1 as, [], h) = some x) : eMet l D dA b base (qm k) as h x ∧ h.2.1 ≤ x.2.2.1 ∧ h.2.2 ≤ x.2.2.2 := by
  obtain ⟨f, hf⟩ := eRun_iff.mp hr
  refine ⟨?_, ?_⟩
  · refine Met_ofWF (cc := (qm k).2.1) (maxL := (qm k).2.2.1) (ret := (qm k).2.2.2.1) hm.1 rfl ?_
    intro p e s m args below meth c s₁ B hml hv
    obtain ⟨rfl, hw, hK⟩ := hv
    have hx := B.exec
    have hb := B.bytes
    have hrt := B.returns
    have hts := atoms_spec (ws := Cond.code (qm k).1 (qm k).2.1 (qm k).2.2.1 (qm k).2.2.2.1 :: gT) B.pre
    have hown : s.vm.findClass (qm k).1.cls = some m.cls := findClass_of_methodNamed B.named
    have hlocks := B.notSynchronized
    have hnm := (name_of_methodNamed B.named B.method).1
    have hsz := hw.1
    have C : eCx p s m (as.map (lf b base)).toArray meth c D dA b base none (qm k) (Cond.code (qm k).1 (qm k).2.1 (qm k).2.2.1 (qm k).2.2.2.1 :: gT) := ⟨hx, hb, hml, hown, hts, fun w h => List.mem_cons_of_mem _ h, hK, by omega, fun hn => hnm.trans hn, fun L xs h => by cases h⟩
    obtain ⟨m1, m2, run⟩ := eexec_sound (l := l) (e := e) (R := (headSpec (Cond.code (qm k).1 (qm k).2.1 (qm k).2.2.1 (qm k).2.2.2.1 :: gT) (eRm (qm k) h x)).room) (below := below) C hM rfl rfl hrt hlocks htb f hf
    have hal : (lg_sl (as.map (lf b base))).length ≤ (qm k).2.2.1 := by rw [entL_sl]; exact (okA_recv ho).1
    have hl := lv_entry (as.map (lf b base)) hal
    rw [lg_entry_eq]
    generalize (lg_sl (as.map (lf b base)) ++ List.replicate ((qm k).2.2.1 - (lg_sl (as.map (lf b base))).length) Slot.unset).toArray = ls at hl ⊢
    have := run (cells := 0) (slots := 0) (H := s.heap) (locs := []) (lv_incl hl entL_in) hw va_S.rf (by rw [Nat.zero_add]; exact Nat.le_refl _) (by rw [Nat.zero_add]; exact Nat.le_refl _)
    rw [Nat.zero_add, Nat.zero_add] at this
    exact this
  · obtain ⟨f, hf⟩ := eRun_iff.mp hr
    exact eExec_le eTo_le f hf
theorem eTo_sound {N : Nat} (hm : ∀ k, k < N → mOK (qm k) ∧ ∀ r ∈ qt k, rB qm k r = true) : ∀ k, k ≤ N → eMOK qm l D dA b base k (eTo qm qt k) := by
  intro k
  induction k with
  | zero => intro _ j as h x hj; exact absurd hj (Nat.not_lt_zero _)
  | succ k ih =>
    intro hk j as h x hj hs
    have ihk := ih (by omega)
    unfold eTo at hs
    cases hb : Nat.beq j k with
    | true =>
      rw [hb] at hs
      have hjk := nb hb
      subst hjk
      obtain ⟨ho, hs⟩ := iv_bo hs
      obtain ⟨hm1, hm2⟩ := hm j (by omega)
      obtain ⟨e1, e2, e3⟩ := eTop_sound hm1 hm2 ihk ho hs
      exact ⟨hm1, e1, e2, e3, (okA_recv ho).2⟩
    | false =>
      rw [hb] at hs
      have hne : j ≠ k := fun e => by subst e; rw [Nat.beq_refl] at hb; cases hb
      exact ihk j as h x (by omega) hs
end TO
