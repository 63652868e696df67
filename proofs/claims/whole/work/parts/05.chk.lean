/-! what is checked of the rows of code, and of the methods, by the kernel -/
abbrev eMI : Type := MethodName × ByteArray × Nat × Option FieldType × Bool × (Nat × Nat × Nat × Nat) × Nat × Nat × Nat
def wAt (i : Nat) (w : Cond) : Bool := lw_tbl[i]? == some w && goodWord w
theorem wAt_ok {i : Nat} {w : Cond} (h : wAt i w = true) : w ∈ gT := by
  simp only [wAt, Bool.and_eq_true, beq_iff_eq] at h
  exact gT_in i h.1 h.2
def mB (i : eMI) : Bool :=
  plainFor i.1 && (bif i.2.2.2.2.1 then wAt i.2.2.2.2.2.1.2.1 (.static i.1) else wAt i.2.2.2.2.2.1.2.1 (.instanceMethod i.1)) &&
  (i.2.2.2.2.1 || i.1.name == "<init>" || wAt i.2.2.2.2.2.1.2.2.1 (.selects i.1.cls i.1 i.1)) && wAt i.2.2.2.2.2.1.2.2.2 (.initialized i.1.cls) && (i.1.cls != "java/lang/invoke/MethodHandle" && i.1.cls != "java/lang/invoke/VarHandle") &&
  (i.2.2.2.2.1 || (match qcls[i.2.2.2.2.2.2.1]? with | some q => q.1 == i.1.cls | none => false))
def mOK (i : eMI) : Prop := plainFor i.1 = true ∧ Cond.code i.1 i.2.1 i.2.2.1 i.2.2.2.1 ∈ gT ∧ (i.2.2.2.2.1 = true → Cond.static i.1 ∈ gT) ∧ (i.2.2.2.2.1 = false → Cond.instanceMethod i.1 ∈ gT) ∧ (i.2.2.2.2.1 = false → i.1.name ≠ "<init>" → Cond.selects i.1.cls i.1 i.1 ∈ gT) ∧ Cond.initialized i.1.cls ∈ gT ∧ (i.1.cls ≠ "java/lang/invoke/MethodHandle" ∧ i.1.cls ≠ "java/lang/invoke/VarHandle") ∧ (i.2.2.2.2.1 = false → ∃ q, qcls[i.2.2.2.2.2.2.1]? = some q ∧ q.1 = i.1.cls)
theorem mB_ok {i : eMI} (hc : lw_tbl[i.2.2.2.2.2.1.1]? = some (.code i.1 i.2.1 i.2.2.1 i.2.2.2.1)) (h : mB i = true) : mOK i := by
  simp only [mB, Bool.and_eq_true, Bool.or_eq_true, beq_iff_eq, bne_iff_ne, ne_eq] at h
  obtain ⟨⟨⟨⟨⟨h1, h3⟩, h4⟩, h5⟩, h6⟩, h7⟩ := h
  refine ⟨h1, gT_in _ hc rfl, fun hs => ?_, fun hs => ?_, fun hs hn => ?_, wAt_ok h5, h6, fun hs => ?_⟩
  · rw [hs] at h3; exact wAt_ok h3
  · rw [hs] at h3; exact wAt_ok h3
  · rcases h4 with (h4 | h4) | h4
    · rw [hs] at h4; cases h4
    · exact absurd h4 hn
    · exact wAt_ok h4
  · rcases h7 with h7 | h7
    · rw [hs] at h7; cases h7
    · split at h7
      · next q hq => exact ⟨q, hq, by simpa using h7⟩
      · cases h7
section CHK
variable (qm : Nat → eMI) (k : Nat)
/-- a call's own: the callee is an earlier method, its room fits, so many arguments -/
def cB (r : eRow) : Bool :=
  Nat.blt r.2.2.2.1 k && Nat.ble ((qm r.2.2.2.1).2.2.2.2.2.2.2.1 + 1) (qm k).2.2.2.2.2.2.2.1 && Nat.ble (8 + ((qm r.2.2.2.1).2.2.1 + 11) + (qm r.2.2.2.1).2.2.2.2.2.2.2.2) (qm k).2.2.2.2.2.2.2.2 && ((parseMethodDescriptor (qm r.2.2.2.1).1.desc).map (fun d => d.parameters.length) == some r.2.2.2.2.1)
def fB (r : eRow) (idx : Nat) : Bool := match qcls[r.2.2.2.1]? with
  | some q => Nat.blt r.2.2.2.2.1 q.2.2 && wAt r.2.2.2.2.2 (.fieldLink (qm k).1.cls idx q.1 (q.2.1 r.2.2.2.2.1).2.1 (q.2.1 r.2.2.2.2.1).2.2.1)
  | none => false
def pB (r : eRow) : Bool := match qcls[r.2.2.2.1]? with
  | some q => (q.2.1 r.2.2.2.2.1).2.2.2 == false || ((qm k).1.name == "<init>" && (qm k).1.cls == q.1)
  | none => false
def jB (r : eRow) (off : Int) : Bool := decide ((r.1 : Int) + off = (r.2.2.2.1 : Int)) && Nat.beq r.2.2.1 3
def iB (r : eRow) : Bool := match r.2.1 with
  | .aload_n _ => Nat.beq r.2.2.1 1
  | .aload _ => Nat.beq r.2.2.1 2
  | .iload_n _ => Nat.beq r.2.2.1 1
  | .iload _ => Nat.beq r.2.2.1 2
  | .lload_n _ => Nat.beq r.2.2.1 1
  | .lload _ => Nat.beq r.2.2.1 2
  | .istore_n n => Nat.beq r.2.2.1 1 && Nat.blt n.val (qm k).2.2.1
  | .istore n => Nat.beq r.2.2.1 2 && Nat.blt n (qm k).2.2.1
  | .astore_n n => Nat.beq r.2.2.1 1 && Nat.blt n.val (qm k).2.2.1
  | .astore n => Nat.beq r.2.2.1 2 && Nat.blt n (qm k).2.2.1
  | .lstore_n n => Nat.beq r.2.2.1 1 && Nat.blt (n.val + 1) (qm k).2.2.1
  | .lstore n => Nat.beq r.2.2.1 2 && Nat.blt (n + 1) (qm k).2.2.1
  | .iinc i _ => Nat.beq r.2.2.1 3 && Nat.blt i (qm k).2.2.1
  | .iconst _ => Nat.beq r.2.2.1 1
  | .bipush _ => Nat.beq r.2.2.1 2
  | .sipush _ => Nat.beq r.2.2.1 3
  | .lconst _ => Nat.beq r.2.2.1 1
  | .ldc i => Nat.beq r.2.2.1 2 && wAt r.2.2.2.2.2 (.constant (qm k).1.cls i (Int32.ofNat r.2.2.2.1))
  | .ldc2_w i => Nat.beq r.2.2.1 3 && wAt r.2.2.2.2.2 (.constantLong (qm k).1.cls i (bif Nat.beq r.2.2.2.2.1 0 then Int64.ofNat r.2.2.2.1 else -Int64.ofNat r.2.2.2.1))
  | .iadd => Nat.beq r.2.2.1 1
  | .isub => Nat.beq r.2.2.1 1
  | .imul => Nat.beq r.2.2.1 1
  | .iand => Nat.beq r.2.2.1 1
  | .ior => Nat.beq r.2.2.1 1
  | .ishr => Nat.beq r.2.2.1 1
  | .iushr => Nat.beq r.2.2.1 1
  | .idiv => Nat.beq r.2.2.1 1
  | .irem => Nat.beq r.2.2.1 1
  | .ineg => Nat.beq r.2.2.1 1
  | .ladd => Nat.beq r.2.2.1 1
  | .lsub => Nat.beq r.2.2.1 1
  | .lmul => Nat.beq r.2.2.1 1
  | .land => Nat.beq r.2.2.1 1
  | .lor => Nat.beq r.2.2.1 1
  | .lxor => Nat.beq r.2.2.1 1
  | .ldiv => Nat.beq r.2.2.1 1
  | .lrem => Nat.beq r.2.2.1 1
  | .lneg => Nat.beq r.2.2.1 1
  | .lshl => Nat.beq r.2.2.1 1
  | .lcmp => Nat.beq r.2.2.1 1
  | .i2l => Nat.beq r.2.2.1 1
  | .l2i => Nat.beq r.2.2.1 1
  | .i2b => Nat.beq r.2.2.1 1
  | .i2s => Nat.beq r.2.2.1 1
  | .dup => Nat.beq r.2.2.1 1
  | .pop => Nat.beq r.2.2.1 1
  | .dup2 => Nat.beq r.2.2.1 1
  | .goto off => jB r off
  | .ifCond _ off => jB r off
  | .if_icmp _ off => jB r off
  | .tableswitch _ _ _ _ => true
  | .getfield i => Nat.beq r.2.2.1 3 && fB qm k r i
  | .putfield i => Nat.beq r.2.2.1 3 && fB qm k r i && pB qm k r
  | .iaload => Nat.beq r.2.2.1 1
  | .baload => Nat.beq r.2.2.1 1
  | .laload => Nat.beq r.2.2.1 1
  | .aaload => Nat.beq r.2.2.1 1
  | .iastore => Nat.beq r.2.2.1 1
  | .bastore => Nat.beq r.2.2.1 1
  | .lastore => Nat.beq r.2.2.1 1
  | .aastore => Nat.beq r.2.2.1 1
  | .arraylength => Nat.beq r.2.2.1 1
  | .new i => Nat.beq r.2.2.1 3 && (match qcls[r.2.2.2.1]? with | some q => wAt r.2.2.2.2.2 (.classLink (qm k).1.cls i q.1) | none => false)
  | .newarray a => Nat.beq r.2.2.1 2 && wAt r.2.2.2.2.2 (.arrayClass (newarray.typeOf a))
  | .anewarray i => Nat.beq r.2.2.1 3 && ((Nat.beq r.2.2.2.1 3 && wAt r.2.2.2.2.2 (.classLink (qm k).1.cls i "TensionNet$Whole")) || (Nat.beq r.2.2.2.1 4 && wAt r.2.2.2.2.2 (.classLink (qm k).1.cls i "TensionNet$Triple")))
  | .multianewarray i d => Nat.beq r.2.2.1 4 && Nat.beq d 2 && ((Nat.beq r.2.2.2.1 5 && Nat.beq r.2.2.2.2.1 0 && wAt r.2.2.2.2.2 (.classLink (qm k).1.cls i ("[" ++ (FieldType.array .int).toString))) || (Nat.beq r.2.2.2.1 6 && Nat.beq r.2.2.2.2.1 1 && wAt r.2.2.2.2.2 (.classLink (qm k).1.cls i ("[" ++ (FieldType.array .long).toString))))
  | .invokevirtual i => Nat.beq r.2.2.1 3 && cB qm k r && !(qm r.2.2.2.1).2.2.2.2.1 && (qm r.2.2.2.1).1.name != "<init>" && wAt r.2.2.2.2.2 (.methodLink (qm k).1.cls i (qm r.2.2.2.1).1)
  | .invokespecial i => Nat.beq r.2.2.1 3 && (bif Nat.beq r.2.2.2.1 9999 then wAt r.2.2.2.2.2 (.methodLink (qm k).1.cls i objectInit) && Nat.ble 1 (qm k).2.2.2.2.2.2.2.1 && Nat.ble 20 (qm k).2.2.2.2.2.2.2.2 else
      (cB qm k r && !(qm r.2.2.2.1).2.2.2.2.1 && (qm r.2.2.2.1).1.name == "<init>" && (qm r.2.2.2.1).2.2.2.1 == none && (wAt r.2.2.2.2.2 (.methodLink (qm k).1.cls i (qm r.2.2.2.1).1) || decide (((qm k).1.cls, i, (qm r.2.2.2.1).1) ∈ qNe))))
  | .invokestatic i => Nat.beq r.2.2.1 3 && (bif Nat.beq r.2.2.2.1 9998 then wAt r.2.2.2.2.2 (.methodLink (qm k).1.cls i arraycopyName) && Nat.ble 1 (qm k).2.2.2.2.2.2.2.1 && Nat.ble 40 (qm k).2.2.2.2.2.2.2.2 else
      (cB qm k r && (qm r.2.2.2.1).2.2.2.2.1 && wAt r.2.2.2.2.2 (.methodLink (qm k).1.cls i (qm r.2.2.2.1).1)))
  | .ireturn => Nat.beq r.2.2.1 1 && ((Nat.beq r.2.2.2.1 0 && (qm k).2.2.2.1 == some .int) || (Nat.beq r.2.2.2.1 1 && (qm k).2.2.2.1 == some .boolean))
  | .lreturn => Nat.beq r.2.2.1 1 && (qm k).2.2.2.1 == some .long
  | .areturn => Nat.beq r.2.2.1 1 && (qm k).2.2.2.1 == some (.object "TensionNet$Whole")
  | .return_ => Nat.beq r.2.2.1 1 && (qm k).2.2.2.1 == none
  | _ => false
def rB (r : eRow) : Bool := decide (decode (qm k).2.1 r.1 = .ok (r.2.1, r.2.2.1)) && iB qm k r
end CHK
theorem qObjI : Cond.instanceMethod objectInit ∈ gT ∧ Cond.code objectInit ⟨#[0xb1]⟩ 1 none ∈ gT := ⟨wAt_ok (i := 91) (by decide +kernel), wAt_ok (i := 92) (by decide +kernel)⟩
theorem qCpyW : Cond.native arraycopyName ∈ gT ∧ Cond.static arraycopyName ∈ gT ∧ Cond.initialized "java/lang/System" ∈ gT := ⟨wAt_ok (i := 628) (by decide +kernel), wAt_ok (i := 627) (by decide +kernel), wAt_ok (i := 84) (by decide +kernel)⟩
theorem qArrW : Cond.arrayClass .int ∈ gT ∧ Cond.arrayClass .long ∈ gT ∧ Cond.arrayClass .boolean ∈ gT := ⟨wAt_ok (i := 125) (by decide +kernel), wAt_ok (i := 124) (by decide +kernel), wAt_ok (i := 340) (by decide +kernel)⟩
