/-! THE PURE EVALUATOR of the program's bytecode. A heap is (cells by number, how many, how many slots); an array's first number is its tag: 0 int, 1 long, 2 boolean, 3 Whole, 4 Triple, 5 rows of int, 6 rows of long. A row of code: (pc, instruction, length, a, b, place of its word). -/
abbrev eH : Type := (Nat → va_E) × Nat × Nat
abbrev eL : Type := List (Option Value)
abbrev eR : Type := Option Value × eH
abbrev eM : Type := Nat → List Value → eH → Option eR
abbrev eRow : Type := Nat × Instr × Nat × Nat × Nat × Nat
abbrev eS : Type := Nat × eL × List Value × eH
abbrev eO : Type := Option (eS ⊕ eR)
abbrev eSc : Type := Option (Nat × (Nat → Int32))
def eFind : List eRow → Nat → Option eRow
  | [], _ => none
  | r :: t, pc => bif Nat.beq r.1 pc then some r else eFind t pc
def eKl (o : Option Value) : Option Value := match o with
  | some (.long _) => none
  | some (.double _) => none
  | o => o
def eKill : eL → Nat → eL
  | ls, 0 => ls
  | ls, i + 1 => ls.set i (eKl (ls.getD i none))
def eSet1 (ls : eL) (i : Nat) (v : Value) : eL := (eKill ls i).set i (some v)
def eSet2 (ls : eL) (i : Nat) (v : Value) : eL := ((eKill ls i).set i (some v)).set (i + 1) none
def eSum : List Value → Nat
  | [] => 0
  | v :: t => v.category + eSum t
section EVO
variable {α : Type}
def oA (o : Option Value) (f : Value → Option α) : Option α := match o with
  | some (.ref a) => f (.ref a)
  | some (.float a) => f (.float a)
  | _ => none
def oI (o : Option Value) (f : Int32 → Option α) : Option α := match o with
  | some (.int x) => f x
  | _ => none
def oL (o : Option Value) (f : Int64 → Option α) : Option α := match o with
  | some (.long x) => f x
  | _ => none
def sI (st : List Value) (f : Int32 → List Value → Option α) : Option α := match st with
  | .int x :: t => f x t
  | _ => none
def sL (st : List Value) (f : Int64 → List Value → Option α) : Option α := match st with
  | .long x :: t => f x t
  | _ => none
def sR (st : List Value) (f : Nat → List Value → Option α) : Option α := match st with
  | .ref x :: t => f x t
  | _ => none
def sII (st : List Value) (f : Int32 → Int32 → List Value → Option α) : Option α := match st with
  | .int y :: .int x :: t => f x y t
  | _ => none
def sLL (st : List Value) (f : Int64 → Int64 → List Value → Option α) : Option α := match st with
  | .long y :: .long x :: t => f x y t
  | _ => none
def sLI (st : List Value) (f : Int64 → Int32 → List Value → Option α) : Option α := match st with
  | .int y :: .long x :: t => f x y t
  | _ => none
def sIR (st : List Value) (f : Int32 → Nat → List Value → Option α) : Option α := match st with
  | .int i :: .ref a :: t => f i a t
  | _ => none
def sIIR (st : List Value) (f : Int32 → Int32 → Nat → List Value → Option α) : Option α := match st with
  | .int x :: .int i :: .ref a :: t => f x i a t
  | _ => none
def sLIR (st : List Value) (f : Int64 → Int32 → Nat → List Value → Option α) : Option α := match st with
  | .long x :: .int i :: .ref a :: t => f x i a t
  | _ => none
def sRIR (st : List Value) (f : Nat → Int32 → Nat → List Value → Option α) : Option α := match st with
  | .ref x :: .int i :: .ref a :: t => f x i a t
  | _ => none
def sVR (st : List Value) (f : Value → Nat → List Value → Option α) : Option α := match st with
  | v :: .ref a :: t => f v a t
  | _ => none
def sV (st : List Value) (f : Value → List Value → Option α) : Option α := match st with
  | v :: t => f v t
  | _ => none
def sCpy (st : List Value) (f : Nat → Int32 → Nat → Int32 → Int32 → List Value → Option α) : Option α := match st with
  | .int n :: .int dp :: .ref a1 :: .int sp :: .ref a0 :: t => f a0 sp a1 dp n t
  | _ => none
def sIF (st : List Value) (f : Int32 → Nat → List Value → Option α) (g : Int32 → List Value → Option α) : Option α := match st with
  | .int i :: .ref a :: t => f i a t
  | .int i :: .float _ :: t => g i t
  | _ => none
def sRF (st : List Value) (f : Nat → List Value → Option α) (g : List Value → Option α) : Option α := match st with
  | .ref a :: t => f a t
  | .float _ :: t => g t
  | _ => none
def oSc (sc : Option (Nat × (Nat → Int32))) (f : Nat → (Nat → Int32) → Option α) : Option α := match sc with
  | some (n, g) => f n g
  | none => none
def hO (h : eH) (a : Nat) (f : Nat → List Value → Option α) : Option α := match h.1 a with
  | .inr (ci, fs) => f ci fs
  | _ => none
def hI (h : eH) (a : Nat) (tg : Nat) (f : Nat → (Nat → Int32) → Option α) : Option α := match h.1 a with
  | .inl (t, n, .inl g) => bif Nat.beq t tg then f n g else none
  | _ => none
def hL (h : eH) (a : Nat) (f : Nat → (Nat → Int64) → Option α) : Option α := match h.1 a with
  | .inl (t, n, .inr (.inl g)) => bif Nat.beq t 1 then f n g else none
  | _ => none
def hQ (h : eH) (a : Nat) (f : Nat → Nat → (Nat → Option Nat) → Option α) : Option α := match h.1 a with
  | .inl (t, n, .inr (.inr (.inr (.inr g)))) => bif Nat.ble 3 t && Nat.ble t 6 then f t n g else none
  | _ => none
def hN (h : eH) (a : Nat) (f : Nat → Option α) : Option α := match h.1 a with
  | .inl (t, n, _) => bif Nat.ble t 6 then f n else none
  | _ => none
def inR (i : Int32) (n : Nat) (o : Option α) : Option α := if i < 0 ∨ n ≤ i.toNatClampNeg then none else o
def bo (b : Bool) (o : Option α) : Option α := bif b then o else none
end EVO
def okv (ty : FieldType) (v : Value) : Bool := match ty, v with
  | .int, .int _ => true
  | .long, .long _ => true
  | .boolean, .int x => x == 0 || x == 1
  | .object _, .ref _ => true
  | .array _, .ref _ => true
  | _, _ => false
def eUp (h : eH) (a : Nat) (e : va_E) : eH := (va_up h.1 a e, h.2.1, h.2.2)
def eDf (ci : Nat) : List Value := (qYs.getD ci []).map defaultValue
def eInv (M : eM) (j : Nat) (as t : List Value) (h : eH) (k : List Value → eH → eO) : eO := bo (Nat.ble (eSum t) 8) (match M j as h with
  | some (v, h') => k (v.toList ++ t) h'
  | none => none)
def eVirt (M : eM) (r : eRow) (ls : eL) (st : List Value) (h : eH) : eO := sR (st.drop r.2.2.2.2.1) (fun a t => eInv M r.2.2.2.1 (.ref a :: (st.take r.2.2.2.2.1).reverse) t h (fun s h' => some (.inl (r.1 + 3, ls, s, h'))))
def eStat (M : eM) (r : eRow) (ls : eL) (st : List Value) (h : eH) : eO := bo (Nat.ble r.2.2.2.2.1 st.length) (eInv M r.2.2.2.1 (st.take r.2.2.2.2.1).reverse (st.drop r.2.2.2.2.1) h (fun s h' => some (.inl (r.1 + 3, ls, s, h'))))
def eCpy (pc : Nat) (ls : eL) (st : List Value) (h : eH) : eO := sCpy st (fun a0 sp a1 dp n t => hI h a0 0 (fun n0 f => hI h a1 0 (fun n1 g => bo (Nat.ble (eSum t) 8) (if sp < 0 ∨ dp < 0 ∨ n < 0 ∨ n0 < sp.toNatClampNeg + n.toNatClampNeg ∨ n1 < dp.toNatClampNeg + n.toNatClampNeg then none else some (.inl (pc + 3, ls, t, eUp h a1 (.inl (0, n1, .inl (va_cpy f g sp.toNatClampNeg dp.toNatClampNeg n.toNatClampNeg)))))))))
def eNewA (pc : Nat) (ls : eL) (st : List Value) (h : eH) (z : vp_A → (Nat × vp_A)) (q : Nat → vp_A) (len : Nat) : eO := sI st (fun c t => if c < 0 ∨ 1000000 < c.toNatClampNeg then none else some (.inl (pc + len, ls, .ref h.2.1 :: t, (va_up h.1 h.2.1 (.inl (z (q c.toNatClampNeg))), h.2.1 + 1, h.2.2 + c.toNatClampNeg))))
def eNewAt (a : ArrayType) (pc : Nat) (ls : eL) (st : List Value) (h : eH) : eO := match a with
  | .int => eNewA pc ls st h (fun x => (0, x)) (fun n => (n, .inl (fun _ => 0))) 2
  | .long => eNewA pc ls st h (fun x => (1, x)) (fun n => (n, .inr (.inl (fun _ => 0)))) 2
  | .boolean => eNewA pc ls st h (fun x => (2, x)) (fun n => (n, .inl (fun _ => 0))) 2
  | _ => none
def eMul (r : eRow) (ls : eL) (st : List Value) (h : eH) : eO := sII st (fun n k t => if n < 0 ∨ k < 0 ∨ 1000 < n.toNatClampNeg ∨ 1000 < k.toNatClampNeg then none else some (.inl (r.1 + 4, ls, .ref h.2.1 :: t,
  ((fun i => if i = h.2.1 then .inl (r.2.2.2.1, n.toNatClampNeg, .inr (.inr (.inr (.inr (fun j => if j < n.toNatClampNeg then some (h.2.1 + 1 + j) else none))))) else if h.2.1 < i ∧ i < h.2.1 + 1 + n.toNatClampNeg then .inl (r.2.2.2.2.1, k.toNatClampNeg, (bif Nat.beq r.2.2.2.2.1 0 then .inl (fun _ => 0) else .inr (.inl (fun _ => 0)))) else h.1 i), h.2.1 + 1 + n.toNatClampNeg, h.2.2 + n.toNatClampNeg + n.toNatClampNeg * k.toNatClampNeg))))
def eSw (pc : Nat) (x : Int32) (dflt lo hi : Int) (offs : Array Int) : Option Int := if x.toInt < lo ∨ hi < x.toInt then some ((pc : Int) + dflt) else (offs[(x.toInt - lo).toNat]?).map (fun o => (pc : Int) + o)
/-- one instruction -/
def estep (sc : eSc) (M : eM) (r : eRow) (ls : eL) (st : List Value) (h : eH) : eO :=
  match r.2.1 with
  | .aload_n n => oA (ls.getD n.val none) (fun v => some (.inl (r.1 + 1, ls, v :: st, h)))
  | .aload n => oA (ls.getD n none) (fun v => some (.inl (r.1 + 2, ls, v :: st, h)))
  | .iload_n n => oI (ls.getD n.val none) (fun v => some (.inl (r.1 + 1, ls, .int v :: st, h)))
  | .iload n => oI (ls.getD n none) (fun v => some (.inl (r.1 + 2, ls, .int v :: st, h)))
  | .lload_n n => oL (ls.getD n.val none) (fun v => some (.inl (r.1 + 1, ls, .long v :: st, h)))
  | .lload n => oL (ls.getD n none) (fun v => some (.inl (r.1 + 2, ls, .long v :: st, h)))
  | .istore_n n => sI st (fun x t => some (.inl (r.1 + 1, eSet1 ls n.val (.int x), t, h)))
  | .istore n => sI st (fun x t => some (.inl (r.1 + 2, eSet1 ls n (.int x), t, h)))
  | .astore_n n => sR st (fun x t => some (.inl (r.1 + 1, eSet1 ls n.val (.ref x), t, h)))
  | .astore n => sR st (fun x t => some (.inl (r.1 + 2, eSet1 ls n (.ref x), t, h)))
  | .lstore_n n => sL st (fun x t => some (.inl (r.1 + 1, eSet2 ls n.val (.long x), t, h)))
  | .lstore n => sL st (fun x t => some (.inl (r.1 + 2, eSet2 ls n (.long x), t, h)))
  | .iinc i n => oI (ls.getD i none) (fun x => some (.inl (r.1 + 3, eSet1 ls i (.int (x + Int32.ofInt n)), st, h)))
  | .iconst n => some (.inl (r.1 + 1, ls, .int (Int32.ofInt n) :: st, h))
  | .bipush n => some (.inl (r.1 + 2, ls, .int (Int8.ofInt n).toInt32 :: st, h))
  | .sipush n => some (.inl (r.1 + 3, ls, .int (Int16.ofInt n).toInt32 :: st, h))
  | .lconst n => some (.inl (r.1 + 1, ls, .long (Int64.ofNat n.val) :: st, h))
  | .ldc _ => some (.inl (r.1 + 2, ls, .int (Int32.ofNat r.2.2.2.1) :: st, h))
  | .ldc2_w _ => some (.inl (r.1 + 3, ls, .long (bif Nat.beq r.2.2.2.2.1 0 then Int64.ofNat r.2.2.2.1 else -Int64.ofNat r.2.2.2.1) :: st, h))
  | .iadd => sII st (fun x y t => some (.inl (r.1 + 1, ls, .int (x + y) :: t, h)))
  | .isub => sII st (fun x y t => some (.inl (r.1 + 1, ls, .int (x - y) :: t, h)))
  | .imul => sII st (fun x y t => some (.inl (r.1 + 1, ls, .int (x * y) :: t, h)))
  | .iand => sII st (fun x y t => some (.inl (r.1 + 1, ls, .int (x &&& y) :: t, h)))
  | .ior => sII st (fun x y t => some (.inl (r.1 + 1, ls, .int (x ||| y) :: t, h)))
  | .ishr => sII st (fun x y t => some (.inl (r.1 + 1, ls, .int (x >>> (y &&& 31)) :: t, h)))
  | .iushr => sII st (fun x y t => some (.inl (r.1 + 1, ls, .int (x.toUInt32 >>> (y.toUInt32 &&& Int32.toUInt32 31)).toInt32 :: t, h)))
  | .idiv => sII st (fun x y t => if y = 0 then none else some (.inl (r.1 + 1, ls, .int (x / y) :: t, h)))
  | .irem => sII st (fun x y t => if y = 0 then none else some (.inl (r.1 + 1, ls, .int (x - x / y * y) :: t, h)))
  | .ineg => sI st (fun x t => some (.inl (r.1 + 1, ls, .int (-x) :: t, h)))
  | .ladd => sLL st (fun x y t => some (.inl (r.1 + 1, ls, .long (x + y) :: t, h)))
  | .lsub => sLL st (fun x y t => some (.inl (r.1 + 1, ls, .long (x - y) :: t, h)))
  | .lmul => sLL st (fun x y t => some (.inl (r.1 + 1, ls, .long (x * y) :: t, h)))
  | .land => sLL st (fun x y t => some (.inl (r.1 + 1, ls, .long (x &&& y) :: t, h)))
  | .lor => sLL st (fun x y t => some (.inl (r.1 + 1, ls, .long (x ||| y) :: t, h)))
  | .lxor => sLL st (fun x y t => some (.inl (r.1 + 1, ls, .long (x ^^^ y) :: t, h)))
  | .ldiv => sLL st (fun x y t => if y = 0 then none else some (.inl (r.1 + 1, ls, .long (x / y) :: t, h)))
  | .lrem => sLL st (fun x y t => if y = 0 then none else some (.inl (r.1 + 1, ls, .long (x - x / y * y) :: t, h)))
  | .lneg => sL st (fun x t => some (.inl (r.1 + 1, ls, .long (-x) :: t, h)))
  | .lshl => sLI st (fun x y t => some (.inl (r.1 + 1, ls, .long (x <<< (y.toInt64 &&& 63)) :: t, h)))
  | .lcmp => sLL st (fun x y t => some (.inl (r.1 + 1, ls, .int (lg_cmp x y) :: t, h)))
  | .i2l => sI st (fun x t => some (.inl (r.1 + 1, ls, .long x.toInt64 :: t, h)))
  | .l2i => sL st (fun x t => some (.inl (r.1 + 1, ls, .int x.toInt32 :: t, h)))
  | .i2b => sI st (fun x t => some (.inl (r.1 + 1, ls, .int x.toInt8.toInt32 :: t, h)))
  | .i2s => sI st (fun x t => some (.inl (r.1 + 1, ls, .int x.toInt16.toInt32 :: t, h)))
  | .dup => sV st (fun v t => bo (Nat.beq v.category 1) (some (.inl (r.1 + 1, ls, v :: v :: t, h))))
  | .pop => sV st (fun v t => bo (Nat.beq v.category 1) (some (.inl (r.1 + 1, ls, t, h))))
  | .dup2 => sV st (fun v t => sV t (fun u t => bo (Nat.beq v.category 1 && Nat.beq u.category 1) (some (.inl (r.1 + 1, ls, v :: u :: v :: u :: t, h)))))
  | .goto _ => some (.inl (r.2.2.2.1, ls, st, h))
  | .ifCond c _ => sI st (fun x t => match c with
    | .eq => if x = 0 then some (.inl (r.2.2.2.1, ls, t, h)) else some (.inl (r.1 + 3, ls, t, h))
    | .ne => if x = 0 then some (.inl (r.1 + 3, ls, t, h)) else some (.inl (r.2.2.2.1, ls, t, h))
    | .lt => if x < 0 then some (.inl (r.2.2.2.1, ls, t, h)) else some (.inl (r.1 + 3, ls, t, h))
    | .ge => if 0 ≤ x then some (.inl (r.2.2.2.1, ls, t, h)) else some (.inl (r.1 + 3, ls, t, h))
    | .gt => if 0 < x then some (.inl (r.2.2.2.1, ls, t, h)) else some (.inl (r.1 + 3, ls, t, h))
    | .le => if x ≤ 0 then some (.inl (r.2.2.2.1, ls, t, h)) else some (.inl (r.1 + 3, ls, t, h)))
  | .if_icmp c _ => sII st (fun x y t => match c with
    | .eq => if x = y then some (.inl (r.2.2.2.1, ls, t, h)) else some (.inl (r.1 + 3, ls, t, h))
    | .ne => if x = y then some (.inl (r.1 + 3, ls, t, h)) else some (.inl (r.2.2.2.1, ls, t, h))
    | .lt => if x < y then some (.inl (r.2.2.2.1, ls, t, h)) else some (.inl (r.1 + 3, ls, t, h))
    | .ge => if y ≤ x then some (.inl (r.2.2.2.1, ls, t, h)) else some (.inl (r.1 + 3, ls, t, h))
    | .gt => if y < x then some (.inl (r.2.2.2.1, ls, t, h)) else some (.inl (r.1 + 3, ls, t, h))
    | .le => if x ≤ y then some (.inl (r.2.2.2.1, ls, t, h)) else some (.inl (r.1 + 3, ls, t, h)))
  | .tableswitch d lo hi offs => sI st (fun x t => match eSw r.1 x d lo hi offs with
    | some z => if 0 ≤ z then some (.inl (z.toNat, ls, t, h)) else none
    | none => none)
  | .getfield _ => sR st (fun a t => hO h a (fun ci fs => bo (Nat.beq ci r.2.2.2.1) (match fs[r.2.2.2.2.1]? with
    | some v => some (.inl (r.1 + 3, ls, v :: t, h))
    | none => none)))
  | .putfield _ => sVR st (fun v a t => hO h a (fun ci fs => bo (Nat.beq ci r.2.2.2.1 && okv (qty ci r.2.2.2.2.1) v && Nat.blt r.2.2.2.2.1 fs.length) (some (.inl (r.1 + 3, ls, t, eUp h a (.inr (ci, fs.set r.2.2.2.2.1 v)))))))
  | .iaload => sIF st (fun i a t => hI h a 0 (fun n f => inR i n (some (.inl (r.1 + 1, ls, .int (f i.toNatClampNeg) :: t, h))))) (fun i t => oSc sc (fun n f => inR i n (some (.inl (r.1 + 1, ls, .int (f i.toNatClampNeg) :: t, h)))))
  | .baload => sIR st (fun i a t => hI h a 2 (fun n f => inR i n (some (.inl (r.1 + 1, ls, .int (f i.toNatClampNeg) :: t, h)))))
  | .laload => sIR st (fun i a t => hL h a (fun n f => inR i n (some (.inl (r.1 + 1, ls, .long (f i.toNatClampNeg) :: t, h)))))
  | .aaload => sIR st (fun i a t => hQ h a (fun _ n f => inR i n (match f i.toNatClampNeg with
    | some q => some (.inl (r.1 + 1, ls, .ref q :: t, h))
    | none => none)))
  | .iastore => sIIR st (fun x i a t => hI h a 0 (fun n f => inR i n (some (.inl (r.1 + 1, ls, t, eUp h a (.inl (0, n, .inl (upd f i.toNatClampNeg x))))))))
  | .bastore => sIIR st (fun x i a t => hI h a 2 (fun n f => inR i n (bo (x == 0 || x == 1) (some (.inl (r.1 + 1, ls, t, eUp h a (.inl (2, n, .inl (upd f i.toNatClampNeg x)))))))))
  | .lastore => sLIR st (fun x i a t => hL h a (fun n f => inR i n (some (.inl (r.1 + 1, ls, t, eUp h a (.inl (1, n, .inr (.inl (vp_updL f i.toNatClampNeg x)))))))))
  | .aastore => sRIR st (fun v i a t => hQ h a (fun tg n f => hO h v (fun cv _ => bo ((Nat.beq tg 3 && Nat.beq cv 9) || (Nat.beq tg 4 && Nat.beq cv 8)) (inR i n (some (.inl (r.1 + 1, ls, t, eUp h a (.inl (tg, n, .inr (.inr (.inr (.inr (va_up f i.toNatClampNeg (some v))))))))))))))
  | .arraylength => sRF st (fun a t => hN h a (fun n => some (.inl (r.1 + 1, ls, .int (Int32.ofNat n) :: t, h)))) (fun t => oSc sc (fun n _ => some (.inl (r.1 + 1, ls, .int (Int32.ofNat n) :: t, h))))
  | .new _ => bo (Nat.blt r.2.2.2.1 12) (some (.inl (r.1 + 3, ls, .ref h.2.1 :: st, (va_up h.1 h.2.1 (.inr (r.2.2.2.1, eDf r.2.2.2.1)), h.2.1 + 1, h.2.2 + (eDf r.2.2.2.1).length))))
  | .newarray a => eNewAt a r.1 ls st h
  | .anewarray _ => eNewA r.1 ls st h (fun x => (r.2.2.2.1, x)) (fun n => (n, .inr (.inr (.inr (.inr (fun _ => none)))))) 3
  | .multianewarray _ _ => eMul r ls st h
  | .invokevirtual _ => eVirt M r ls st h
  | .invokespecial _ => bif Nat.beq r.2.2.2.1 9999 then sR st (fun _ t => bo (Nat.ble (eSum t) 8) (some (.inl (r.1 + 3, ls, t, h)))) else eVirt M r ls st h
  | .invokestatic _ => bif Nat.beq r.2.2.2.1 9998 then eCpy r.1 ls st h else eStat M r ls st h
  | .ireturn => (match st with
    | [.int x] => bo (Nat.beq r.2.2.2.1 0 || (x == 0 || x == 1)) (some (.inr (some (.int x), h)))
    | _ => none)
  | .lreturn => (match st with
    | [.long x] => some (.inr (some (.long x), h))
    | _ => none)
  | .areturn => (match st with
    | [.ref x] => some (.inr (some (.ref x), h))
    | _ => none)
  | .return_ => (match st with
    | [] => some (.inr (none, h))
    | _ => none)
  | _ => none
def eExec : Nat → eSc → eM → List eRow → eS → Option eR
  | 0, _, _, _, _ => none
  | f + 1, sc, M, tb, q => match eFind tb q.1 with
    | none => none
    | some r => match estep sc M r q.2.1 q.2.2.1 q.2.2.2 with
      | none => none
      | some (.inl q') => eExec f sc M tb q'
      | some (.inr x) => some x
theorem eExec_mono {sc : eSc} {M : eM} {tb : List eRow} : ∀ {f : Nat} {q : eS} {x : eR}, eExec f sc M tb q = some x → ∀ d, eExec (f + d) sc M tb q = some x := by
  intro f
  induction f with
  | zero => intro q x h; cases h
  | succ f ih =>
    intro q x h d
    rw [show f + 1 + d = (f + d) + 1 by omega]
    unfold eExec at h ⊢
    cases hf : eFind tb q.1 with
    | none => rw [hf] at h; cases h
    | some r =>
      rw [hf] at h
      dsimp only at h ⊢
      cases hs : estep sc M r q.2.1 q.2.2.1 q.2.2.2 with
      | none => rw [hs] at h; cases h
      | some y =>
        rw [hs] at h
        cases y with
        | inl q' => exact ih h d
        | inr z => exact h
def eRuns (sc : eSc) (M : eM) (tb : List eRow) (q : eS) (x : eR) : Prop := ∃ f, eExec f sc M tb q = some x
theorem eRuns_det {sc : eSc} {M : eM} {tb : List eRow} {q : eS} {x y : eR} (h1 : eRuns sc M tb q x) (h2 : eRuns sc M tb q y) : x = y := by
  obtain ⟨f, h1⟩ := h1
  obtain ⟨g, h2⟩ := h2
  have a := eExec_mono h1 g
  have b := eExec_mono h2 f
  rw [show g + f = f + g by omega] at b
  exact Option.some.inj (a.symm.trans b)
noncomputable def eRun (sc : eSc) (M : eM) (tb : List eRow) (q : eS) : Option eR := @dite _ (∃ x, eRuns sc M tb q x) (Classical.propDecidable _) (fun h => some h.choose) (fun _ => none)
theorem eRun_iff {sc : eSc} {M : eM} {tb : List eRow} {q : eS} {x : eR} : eRun sc M tb q = some x ↔ eRuns sc M tb q x := by
  unfold eRun
  by_cases h : ∃ x, eRuns sc M tb q x
  · rw [dif_pos h]
    constructor
    · intro e
      rw [← Option.some.inj e]
      exact h.choose_spec
    · intro e
      rw [eRuns_det h.choose_spec e]
  · rw [dif_neg h]
    constructor
    · intro e; cases e
    · intro e; exact absurd ⟨x, e⟩ h
theorem eRun_ext {sc : eSc} {M : eM} {tb : List eRow} {q q' : eS} (h : ∀ x, eRuns sc M tb q x ↔ eRuns sc M tb q' x) : eRun sc M tb q = eRun sc M tb q' := by
  cases h1 : eRun sc M tb q with
  | some x => exact (eRun_iff.mpr ((h x).mp (eRun_iff.mp h1))).symm
  | none =>
    cases h2 : eRun sc M tb q' with
    | none => rfl
    | some y =>
      have := eRun_iff.mpr ((h y).mpr (eRun_iff.mp h2))
      rw [h1] at this
      cases this
theorem eRun_go {sc : eSc} {M : eM} {tb : List eRow} {q q' : eS} {r : eRow} (hf : eFind tb q.1 = some r) (hs : estep sc M r q.2.1 q.2.2.1 q.2.2.2 = some (.inl q')) : eRun sc M tb q = eRun sc M tb q' := by
  refine eRun_ext fun x => ⟨?_, ?_⟩
  · rintro ⟨f, h⟩
    cases f with
    | zero => cases h
    | succ f =>
      unfold eExec at h
      rw [hf] at h
      dsimp only at h
      rw [hs] at h
      exact ⟨f, h⟩
  · rintro ⟨f, h⟩
    refine ⟨f + 1, ?_⟩
    unfold eExec
    rw [hf]
    dsimp only
    rw [hs]
    exact h
theorem eRun_end {sc : eSc} {M : eM} {tb : List eRow} {q : eS} {r : eRow} {x : eR} (hf : eFind tb q.1 = some r) (hs : estep sc M r q.2.1 q.2.2.1 q.2.2.2 = some (.inr x)) : eRun sc M tb q = some x := by
  refine eRun_iff.mpr ⟨1, ?_⟩
  unfold eExec
  rw [hf]
  dsimp only
  rw [hs]
theorem eRun_no {sc : eSc} {M : eM} {tb : List eRow} {q : eS} {r : eRow} (hf : eFind tb q.1 = some r) (hs : estep sc M r q.2.1 q.2.2.1 q.2.2.2 = none) : eRun sc M tb q = none := by
  cases h : eRun sc M tb q with
  | none => rfl
  | some x =>
    obtain ⟨f, h⟩ := eRun_iff.mp h
    cases f with
    | zero => cases h
    | succ f =>
      unfold eExec at h
      rw [hf] at h
      dsimp only at h
      rw [hs] at h
      cases h
