/-! THE SMALL MACHINE: a big-step reading of the bytecode over a heap of my own; 'ref 0' is null, cells are numbered from 1 on -/
/-- ((next cell, slots used), kinds and lengths), ints, longs, references -/
abbrev MH : Type := ((Nat × Nat) × (Nat → Nat × Nat)) × (Nat → Nat → Int32) × (Nat → Nat → Int64) × (Nat → Nat → Nat)
def mN (h : MH) : Nat := h.1.1.1
def mS (h : MH) : Nat := h.1.1.2
/-- kind: 1 + class, 20 int[], 21 long[], 22 boolean[], 23 Text[], 24 a given int[], 25 a given String, 26 a given byte[] -/
def kd (h : MH) (a : Nat) : Nat := (h.1.2 a).1
def ln (h : MH) (a : Nat) : Nat := (h.1.2 a).2
def gI (h : MH) (a k : Nat) : Int32 := h.2.1 a k
def gL (h : MH) (a k : Nat) : Int64 := h.2.2.1 a k
def gR (h : MH) (a k : Nat) : Nat := h.2.2.2 a k
def rI (h : MH) (a : Nat) (f : Nat → Int32) : MH := (h.1, (fun b => if b = a then f else h.2.1 b), h.2.2)
def rL (h : MH) (a : Nat) (f : Nat → Int64) : MH := (h.1, h.2.1, (fun b => if b = a then f else h.2.2.1 b), h.2.2.2)
def rR (h : MH) (a : Nat) (f : Nat → Nat) : MH := (h.1, h.2.1, h.2.2.1, (fun b => if b = a then f else h.2.2.2 b))
def sI (h : MH) (a k : Nat) (v : Int32) : MH := rI h a (va_up (gI h a) k v)
def sL (h : MH) (a k : Nat) (v : Int64) : MH := rL h a (va_up (gL h a) k v)
def sR (h : MH) (a k : Nat) (v : Nat) : MH := rR h a (va_up (gR h a) k v)
def mA (h : MH) (kn n : Nat) : MH := (((h.1.1.1 + 1, h.1.1.2 + n), fun a => if a = h.1.1.1 then (kn, n) else h.1.2 a), (fun a => if a = h.1.1.1 then (fun _ => 0) else h.2.1 a), (fun a => if a = h.1.1.1 then (fun _ => 0) else h.2.2.1 a), (fun a => if a = h.1.1.1 then (fun _ => 0) else h.2.2.2 a))
/-- an index into n places -/
def ib (i : Int32) (n : Nat) : Prop := vp_in i n
abbrev ix (i : Int32) : Nat := i.toNatClampNeg
/-- an instruction: its byte, itself, its int, its long, its ways, five numbers -/
abbrev MI : Type := Nat × Instr × Int32 × Int64 × List (Int32 × Nat) × Nat × Nat × Nat × Nat × Nat
abbrev ML : Type := List (Option Value)
/-- what an instruction leads to: the next place, or an answer -/
abbrev MO : Type := Option ((Nat × ML × List Value × MH) ⊕ (Value × MH))
abbrev ME : Type := Nat → List Value → MH → Option (Value × MH)
def nx (k : Nat) (ls : ML) (st : List Value) (h : MH) : MO := some (.inl (k, ls, st, h))
def msw (x : Int32) (d : Nat) : List (Int32 × Nat) → Nat
  | [] => d
  | q :: l => if x = q.1 then q.2 else msw x d l
/-- a store may not come behind the first half of a long -/
def mok (ls : ML) : Nat → Bool
  | 0 => true
  | j + 1 => match ls[j]? with
    | some (some (.long _)) => false
    | some (some (.double _)) => false
    | _ => true
/-- a check -/
noncomputable def mck (c : Prop) (o : MO) : MO := @ite _ c (Classical.propDecidable c) o none
noncomputable def mst1 (ls : ML) (i : Nat) (v : Value) (k : Nat) (st : List Value) (h : MH) : MO := match mok ls i && Nat.ble (i + 1) ls.length with
  | true => nx k (ls.set i (some v)) st h
  | false => none
noncomputable def mst2 (ls : ML) (i : Nat) (v : Value) (k : Nat) (st : List Value) (h : MH) : MO := match mok ls i && Nat.ble (i + 2) ls.length with
  | true => nx k ((ls.set i (some v)).set (i + 1) none) st h
  | false => none
def mbr (c : Prop) (d : Decidable c) (t k : Nat) (ls : ML) (st : List Value) (h : MH) : MO := if c then nx t ls st h else nx k ls st h
/-- a field's value -/
def fv (h : MH) (a t k : Nat) : Value := match t with
  | 0 => .int (gI h a k)
  | 1 => .long (gL h a k)
  | 2 => .ref (gR h a k)
  | _ => .int (gI h a k)
def words : List Value → Nat
  | [] => 0
  | v :: l => v.category + words l
/-- behind a call -/
def mcl (o : Option (Value × MH)) (rk : Nat) (k : Nat) (ls : ML) (st : List Value) : MO := match rk with
  | 0 => match o with
    | some (_, h) => nx k ls st h
    | none => none
  | 1 => match o with
    | some (.int x, h) => nx k ls (.int x :: st) h
    | _ => none
  | 2 => match o with
    | some (.long x, h) => nx k ls (.long x :: st) h
    | _ => none
  | _ => match o with
    | some (.ref x, h) => nx k ls (.ref x :: st) h
    | _ => none
def mrt (c : Nat) (v : Int32) : Prop := match c with
  | 0 => True
  | 1 => v = 0 ∨ v = 1
  | 2 => (v.toUInt32 % 65536).toInt32 = v
  | _ => v.toInt8.toInt32 = v
noncomputable def mcD (c : Prop) : Decidable c := Classical.propDecidable _
/-- the arguments of a call, the last on top: taken off -/
def mtk (st : List Value) (n : Nat) : List Value := (st.take n).reverse
noncomputable def mcall (i : MI) (k : Nat) (ls : ML) (st : List Value) (h : MH) (ev : ME) : MO :=
  match i with
  | (_, _, _, _, _, a, b, c, _, _) => match Nat.ble b st.length && Nat.ble (words (st.drop b)) 8 with
    | true => mcl (ev a (mtk st b) h) c (k + 1) ls (st.drop b)
    | false => none
noncomputable def mcallv (i : MI) (k : Nat) (ls : ML) (st : List Value) (h : MH) (ev : ME) : MO :=
  match i with
  | (_, _, _, _, _, _, b, _, _, e) => match (mtk st b).head? with
    | some (.ref r) => mck (kd h r = e + 1) (mcall i k ls st h ev)
    | _ => none
noncomputable def mcopy (k : Nat) (ls : ML) (st : List Value) (h : MH) : MO := match st with
  | .int n :: .int dp :: .ref d :: .int sp :: .ref s :: st => match Nat.ble (words st) 8 with
    | true => mck (kd h s = 20 ∧ kd h d = 20 ∧ ¬ sp < 0 ∧ ¬ dp < 0 ∧ ¬ n < 0 ∧ ix sp + ix n ≤ ln h s ∧ ix dp + ix n ≤ ln h d) (nx (k + 1) ls st (rI h d (va_cpy (gI h s) (gI h d) (ix sp) (ix dp) (ix n))))
    | false => none
  | _ => none
def jabs (x : Int32) : Int32 := if x < 0 then -x else x
def jmax (x y : Int32) : Int32 := if x < y then y else x
def jmin (x y : Int32) : Int32 := if y < x then y else x
def mmath (d k : Nat) (ls : ML) (st : List Value) (h : MH) : MO := match d with
  | 4 => match st with
    | .int x :: st => match Nat.ble (words st) 8 with
      | true => nx (k + 1) ls (.int (jabs x) :: st) h
      | false => none
    | _ => none
  | 5 => match st with
    | .int y :: .int x :: st => match Nat.ble (words st) 8 with
      | true => nx (k + 1) ls (.int (jmax x y) :: st) h
      | false => none
    | _ => none
  | _ => match st with
    | .int y :: .int x :: st => match Nat.ble (words st) 8 with
      | true => nx (k + 1) ls (.int (jmin x y) :: st) h
      | false => none
    | _ => none
noncomputable def mclone (k : Nat) (ls : ML) (st : List Value) (h : MH) : MO := match st with
  | .ref r :: st => match Nat.ble (words st) 8 with
    | true => mck (kd h r = 20) (nx (k + 1) ls (.ref (mN h) :: st) (rI (mA h 20 (ln h r)) (mN h) (gI h r)))
    | false => none
  | _ => none
noncomputable def mst (i : MI) (k : Nat) (ls : ML) (st : List Value) (h : MH) (ev : ME) : MO :=
  match i with
  | (_, ins, x, y, sw, a, b, c, d, _) =>
  match ins with
  | .iconst _ => nx (k + 1) ls (.int x :: st) h
  | .bipush _ => nx (k + 1) ls (.int x :: st) h
  | .sipush _ => nx (k + 1) ls (.int x :: st) h
  | .ldc _ => match b with
    | 0 => nx (k + 1) ls (.int x :: st) h
    | _ => nx (k + 1) ls (.ref a :: st) h
  | .ldc_w _ => nx (k + 1) ls (.int x :: st) h
  | .lconst _ => nx (k + 1) ls (.long y :: st) h
  | .ldc2_w _ => nx (k + 1) ls (.long y :: st) h
  | .aconst_null => nx (k + 1) ls (.ref 0 :: st) h
  | .iload_n _ => match ls[a]? with
    | some (some (.int v)) => nx (k + 1) ls (.int v :: st) h
    | _ => none
  | .iload _ => match ls[a]? with
    | some (some (.int v)) => nx (k + 1) ls (.int v :: st) h
    | _ => none
  | .lload_n _ => match ls[a]? with
    | some (some (.long v)) => nx (k + 1) ls (.long v :: st) h
    | _ => none
  | .lload _ => match ls[a]? with
    | some (some (.long v)) => nx (k + 1) ls (.long v :: st) h
    | _ => none
  | .aload_n _ => match ls[a]? with
    | some (some (.ref v)) => nx (k + 1) ls (.ref v :: st) h
    | _ => none
  | .aload _ => match ls[a]? with
    | some (some (.ref v)) => nx (k + 1) ls (.ref v :: st) h
    | _ => none
  | .istore_n _ => match st with
    | .int v :: st => mst1 ls a (.int v) (k + 1) st h
    | _ => none
  | .istore _ => match st with
    | .int v :: st => mst1 ls a (.int v) (k + 1) st h
    | _ => none
  | .lstore_n _ => match st with
    | .long v :: st => mst2 ls a (.long v) (k + 1) st h
    | _ => none
  | .lstore _ => match st with
    | .long v :: st => mst2 ls a (.long v) (k + 1) st h
    | _ => none
  | .astore_n _ => match st with
    | .ref v :: st => mst1 ls a (.ref v) (k + 1) st h
    | _ => none
  | .astore _ => match st with
    | .ref v :: st => mst1 ls a (.ref v) (k + 1) st h
    | _ => none
  | .iinc _ _ => match ls[a]? with
    | some (some (.int v)) => mst1 ls a (.int (v + x)) (k + 1) st h
    | _ => none
  | .iadd => match st with
    | .int y :: .int x :: st => nx (k + 1) ls (.int (x + y) :: st) h
    | _ => none
  | .isub => match st with
    | .int y :: .int x :: st => nx (k + 1) ls (.int (x - y) :: st) h
    | _ => none
  | .imul => match st with
    | .int y :: .int x :: st => nx (k + 1) ls (.int (x * y) :: st) h
    | _ => none
  | .iand => match st with
    | .int y :: .int x :: st => nx (k + 1) ls (.int (x &&& y) :: st) h
    | _ => none
  | .ior => match st with
    | .int y :: .int x :: st => nx (k + 1) ls (.int (x ||| y) :: st) h
    | _ => none
  | .ixor => match st with
    | .int y :: .int x :: st => nx (k + 1) ls (.int (x ^^^ y) :: st) h
    | _ => none
  | .ishl => match st with
    | .int y :: .int x :: st => nx (k + 1) ls (.int (x <<< (y &&& 31)) :: st) h
    | _ => none
  | .ishr => match st with
    | .int y :: .int x :: st => nx (k + 1) ls (.int (x >>> (y &&& 31)) :: st) h
    | _ => none
  | .iushr => match st with
    | .int y :: .int x :: st => nx (k + 1) ls (.int (x.toUInt32 >>> (y.toUInt32 &&& Int32.toUInt32 31)).toInt32 :: st) h
    | _ => none
  | .ineg => match st with
    | .int x :: st => nx (k + 1) ls (.int (-x) :: st) h
    | _ => none
  | .idiv => match st with
    | .int y :: .int x :: st => mck (¬ y = 0) (nx (k + 1) ls (.int (x / y) :: st) h)
    | _ => none
  | .irem => match st with
    | .int y :: .int x :: st => mck (¬ y = 0) (nx (k + 1) ls (.int (x - x / y * y) :: st) h)
    | _ => none
  | .ladd => match st with
    | .long y :: .long x :: st => nx (k + 1) ls (.long (x + y) :: st) h
    | _ => none
  | .lsub => match st with
    | .long y :: .long x :: st => nx (k + 1) ls (.long (x - y) :: st) h
    | _ => none
  | .lmul => match st with
    | .long y :: .long x :: st => nx (k + 1) ls (.long (x * y) :: st) h
    | _ => none
  | .lor => match st with
    | .long y :: .long x :: st => nx (k + 1) ls (.long (x ||| y) :: st) h
    | _ => none
  | .ldiv => match st with
    | .long y :: .long x :: st => mck (¬ y = 0) (nx (k + 1) ls (.long (x / y) :: st) h)
    | _ => none
  | .lrem => match st with
    | .long y :: .long x :: st => mck (¬ y = 0) (nx (k + 1) ls (.long (x - x / y * y) :: st) h)
    | _ => none
  | .lneg => match st with
    | .long x :: st => nx (k + 1) ls (.long (-x) :: st) h
    | _ => none
  | .lshl => match st with
    | .int y :: .long x :: st => nx (k + 1) ls (.long (x <<< (y.toInt64 &&& 63)) :: st) h
    | _ => none
  | .lshr => match st with
    | .int y :: .long x :: st => nx (k + 1) ls (.long (x >>> (y.toInt64 &&& 63)) :: st) h
    | _ => none
  | .lcmp => match st with
    | .long y :: .long x :: st => nx (k + 1) ls (.int (lg_cmp x y) :: st) h
    | _ => none
  | .i2l => match st with
    | .int x :: st => nx (k + 1) ls (.long x.toInt64 :: st) h
    | _ => none
  | .l2i => match st with
    | .long x :: st => nx (k + 1) ls (.int x.toInt32 :: st) h
    | _ => none
  | .i2b => match st with
    | .int x :: st => nx (k + 1) ls (.int x.toInt8.toInt32 :: st) h
    | _ => none
  | .i2c => match st with
    | .int x :: st => nx (k + 1) ls (.int (x.toUInt32 % 65536).toInt32 :: st) h
    | _ => none
  | .dup => match st with
    | .int x :: st => nx (k + 1) ls (.int x :: .int x :: st) h
    | .ref x :: st => nx (k + 1) ls (.ref x :: .ref x :: st) h
    | _ => none
  | .dup2 => match st with
    | .int x :: .ref y :: st => nx (k + 1) ls (.int x :: .ref y :: .int x :: .ref y :: st) h
    | .int x :: .int y :: st => nx (k + 1) ls (.int x :: .int y :: .int x :: .int y :: st) h
    | _ => none
  | .dup_x1 => match st with
    | .int x :: .ref y :: st => nx (k + 1) ls (.int x :: .ref y :: .int x :: st) h
    | _ => none
  | .dup_x2 => match st with
    | .int x :: .int y :: .ref z :: st => nx (k + 1) ls (.int x :: .int y :: .ref z :: .int x :: st) h
    | _ => none
  | .pop => match st with
    | .int _ :: st => nx (k + 1) ls st h
    | .ref _ :: st => nx (k + 1) ls st h
    | _ => none
  | .goto _ => nx a ls st h
  | .ifCond cn _ => match st with
    | .int x :: st => match cn with
      | .eq => mbr (x = 0) inferInstance a (k + 1) ls st h
      | .ne => mbr (x = 0) inferInstance (k + 1) a ls st h
      | .lt => mbr (x < 0) inferInstance a (k + 1) ls st h
      | .ge => mbr (x < 0) inferInstance (k + 1) a ls st h
      | .le => mbr (x ≤ 0) inferInstance a (k + 1) ls st h
      | .gt => mbr (x ≤ 0) inferInstance (k + 1) a ls st h
    | _ => none
  | .if_icmp cn _ => match st with
    | .int y :: .int x :: st => match cn with
      | .eq => mbr (x = y) inferInstance a (k + 1) ls st h
      | .ne => mbr (x = y) inferInstance (k + 1) a ls st h
      | .lt => mbr (x < y) inferInstance a (k + 1) ls st h
      | .ge => mbr (x < y) inferInstance (k + 1) a ls st h
      | .le => mbr (x ≤ y) inferInstance a (k + 1) ls st h
      | .gt => mbr (x ≤ y) inferInstance (k + 1) a ls st h
    | _ => none
  | .ifnull _ => match st with
    | .ref x :: st => mbr (x = 0) inferInstance a (k + 1) ls st h
    | _ => none
  | .ifnonnull _ => match st with
    | .ref x :: st => mbr (x = 0) inferInstance (k + 1) a ls st h
    | _ => none
  | .tableswitch _ _ _ _ => match st with
    | .int x :: st => nx (msw x a sw) ls st h
    | _ => none
  | .lookupswitch _ _ => match st with
    | .int x :: st => nx (msw x a sw) ls st h
    | _ => none
  | .getfield _ => match st with
    | .ref r :: st => mck (kd h r = a + 1) (nx (k + 1) ls (fv h r c b :: st) h)
    | _ => none
  | .putfield _ => match c with
    | 0 => match st with
      | .int v :: .ref r :: st => mck (kd h r = a + 1) (nx (k + 1) ls st (sI h r b v))
      | _ => none
    | 1 => match st with
      | .long v :: .ref r :: st => mck (kd h r = a + 1) (nx (k + 1) ls st (sL h r b v))
      | _ => none
    | 2 => match st with
      | .ref v :: .ref r :: st => mck (kd h r = a + 1) (nx (k + 1) ls st (sR h r b v))
      | _ => none
    | _ => match st with
      | .int v :: .ref r :: st => mck (kd h r = a + 1 ∧ (v = 0 ∨ v = 1)) (nx (k + 1) ls st (sI h r b v))
      | _ => none
  | .getstatic _ => match b with
    | 0 => nx (k + 1) ls (.ref a :: st) h
    | 1 => nx (k + 1) ls (.int x :: st) h
    | _ => nx (k + 1) ls (.retAddr 0 :: st) h
  | .new _ => nx (k + 1) ls (.ref (mN h) :: st) (mA h (a + 1) b)
  | .newarray _ => match st with
    | .int n :: st => mck (¬ n < 0 ∧ ix n ≤ 1000000) (nx (k + 1) ls (.ref (mN h) :: st) (mA h a (ix n)))
    | _ => none
  | .anewarray _ => match st with
    | .int n :: st => mck (¬ n < 0 ∧ ix n ≤ 1000000) (nx (k + 1) ls (.ref (mN h) :: st) (mA h 23 (ix n)))
    | _ => none
  | .arraylength => match st with
    | .ref r :: st => mck (20 ≤ kd h r ∧ ¬ kd h r = 25 ∧ kd h r ≤ 26) (nx (k + 1) ls (.int (nI (ln h r)) :: st) h)
    | _ => none
  | .iaload => match st with
    | .int i :: .ref r :: st => mck ((kd h r = 20 ∨ kd h r = 24) ∧ ib i (ln h r)) (nx (k + 1) ls (.int (gI h r (ix i)) :: st) h)
    | _ => none
  | .iastore => match st with
    | .int v :: .int i :: .ref r :: st => mck (kd h r = 20 ∧ ib i (ln h r)) (nx (k + 1) ls st (sI h r (ix i) v))
    | _ => none
  | .laload => match st with
    | .int i :: .ref r :: st => mck (kd h r = 21 ∧ ib i (ln h r)) (nx (k + 1) ls (.long (gL h r (ix i)) :: st) h)
    | _ => none
  | .lastore => match st with
    | .long v :: .int i :: .ref r :: st => mck (kd h r = 21 ∧ ib i (ln h r)) (nx (k + 1) ls st (sL h r (ix i) v))
    | _ => none
  | .baload => match st with
    | .int i :: .ref r :: st => mck ((kd h r = 22 ∨ kd h r = 26) ∧ ib i (ln h r)) (nx (k + 1) ls (.int (gI h r (ix i)) :: st) h)
    | _ => none
  | .bastore => match st with
    | .int v :: .int i :: .ref r :: st => mck (kd h r = 22 ∧ ib i (ln h r) ∧ (v = 0 ∨ v = 1)) (nx (k + 1) ls st (sI h r (ix i) v))
    | _ => none
  | .aaload => match st with
    | .int i :: .ref r :: st => mck (kd h r = 23 ∧ ib i (ln h r)) (nx (k + 1) ls (.ref (gR h r (ix i)) :: st) h)
    | _ => none
  | .aastore => match st with
    | .ref v :: .int i :: .ref r :: st => mck (kd h r = 23 ∧ ib i (ln h r) ∧ (v = 0 ∨ kd h v = a + 1)) (nx (k + 1) ls st (sR h r (ix i) v))
    | _ => none
  | .invokestatic _ => match d with
    | 2 => mcopy k ls st h
    | 0 => mcall i k ls st h ev
    | _ => mmath d k ls st h
  | .invokevirtual _ => match d with
    | 3 => mclone k ls st h
    | _ => mcallv i k ls st h ev
  | .checkcast _ => match st with
    | .ref r :: st => mck (kd h r = 20) (nx (k + 1) ls (.ref r :: st) h)
    | _ => none
  | .invokespecial _ => match d with
    | 2 => match st with
      | .ref r :: st => match Nat.ble (words st) 8 with
        | true => mck (¬ r = 0) (nx (k + 1) ls st h)
        | false => none
      | _ => none
    | _ => mcallv i k ls st h ev
  | .ireturn => match st with
    | [.int v] => mck (mrt c v) (some (.inr (.int v, h)))
    | _ => none
  | .lreturn => match st with
    | [.long v] => some (.inr (.long v, h))
    | _ => none
  | .areturn => match st with
    | [.ref v] => some (.inr (.ref v, h))
    | _ => none
  | .return_ => match st with
    | [] => some (.inr (.int 0, h))
    | _ => none
  | _ => none
noncomputable def mrun (ev : ME) (C : List MI) : Nat → Nat → ML → List Value → MH → Option (Value × MH)
  | 0, _, _, _, _ => none
  | f + 1, k, ls, st, h => match (C[k]?).bind (fun i => mst i k ls st h ev) with
    | none => none
    | some (.inr r) => some r
    | some (.inl (k, ls, st, h)) => mrun ev C f k ls st h
theorem mrun_up (ev : ME) (C : List MI) : ∀ (f : Nat) (k : Nat) (ls : ML) (st : List Value) (h : MH) (r : Value × MH), mrun ev C f k ls st h = some r → mrun ev C (f + 1) k ls st h = some r := by
  intro f
  induction f with
  | zero => intro k ls st h r e; cases e
  | succ f ih =>
    intro k ls st h r e
    rw [mrun] at e ⊢
    revert e
    generalize (C[k]?).bind (fun i => mst i k ls st h ev) = o
    match o with
    | none => intro e; exact e
    | some (.inr r') => intro e; exact e
    | some (.inl (k, ls, st, h)) => intro e; exact ih k ls st h r e
theorem mrun_le (ev : ME) (C : List MI) {f g : Nat} (hfg : f ≤ g) (k : Nat) (ls : ML) (st : List Value) (h : MH) (r : Value × MH) (e : mrun ev C f k ls st h = some r) : mrun ev C g k ls st h = some r := by
  induction hfg with
  | refl => exact e
  | step _ ih => exact mrun_up ev C _ k ls st h r ih
noncomputable def mX (ev : ME) (C : List MI) (k : Nat) (ls : ML) (st : List Value) (h : MH) : Option (Value × MH) :=
  @dite _ (∃ (f : Nat) (r : Value × MH), mrun ev C f k ls st h = some r) (mcD _) (fun hx => some hx.choose_spec.choose) (fun _ => none)
theorem mX_iff {ev : ME} {C : List MI} {k : Nat} {ls : ML} {st : List Value} {h : MH} {r : Value × MH} : mX ev C k ls st h = some r ↔ ∃ f, mrun ev C f k ls st h = some r := by
  unfold mX
  by_cases hx : ∃ (f : Nat) (r : Value × MH), mrun ev C f k ls st h = some r
  · rw [dif_pos hx]
    have e1 := hx.choose_spec.choose_spec
    constructor
    · intro e
      rw [Option.some.inj e] at e1
      exact ⟨_, e1⟩
    · rintro ⟨f, e⟩
      have a1 := mrun_le ev C (Nat.le_add_right f hx.choose) k ls st h r e
      have a2 := mrun_le ev C (Nat.le_add_left hx.choose f) k ls st h _ e1
      rw [a1] at a2
      exact a2.symm
  · rw [dif_neg hx]
    constructor
    · intro e; cases e
    · rintro ⟨f, e⟩
      exact absurd ⟨f, r, e⟩ hx
theorem mX_none {ev : ME} {C : List MI} {k : Nat} {ls : ML} {st : List Value} {h : MH} : mX ev C k ls st h = none ↔ ∀ f, mrun ev C f k ls st h = none := by
  constructor
  · intro e f
    cases hf : mrun ev C f k ls st h with
    | none => rfl
    | some r =>
      have := mX_iff.mpr ⟨f, hf⟩
      rw [e] at this
      cases this
  · intro e
    cases hx : mX ev C k ls st h with
    | none => rfl
    | some r =>
      obtain ⟨f, hf⟩ := mX_iff.mp hx
      rw [e f] at hf
      cases hf
/-- one instruction -/
theorem mX_eq (ev : ME) (C : List MI) (k : Nat) (ls : ML) (st : List Value) (h : MH) : mX ev C k ls st h = match (C[k]?).bind (fun i => mst i k ls st h ev) with
    | none => none
    | some (.inr r) => some r
    | some (.inl (k, ls, st, h)) => mX ev C k ls st h := by
  have key : ∀ f, mrun ev C (f + 1) k ls st h = match (C[k]?).bind (fun i => mst i k ls st h ev) with
    | none => none
    | some (.inr r) => some r
    | some (.inl (k, ls, st, h)) => mrun ev C f k ls st h := fun f => by rw [mrun]
  revert key
  generalize (C[k]?).bind (fun i => mst i k ls st h ev) = o
  match o with
  | none =>
    intro key
    refine mX_none.mpr fun f => ?_
    cases f with
    | zero => rfl
    | succ f => exact key f
  | some (.inr r) =>
    intro key
    exact mX_iff.mpr ⟨1, key 0⟩
  | some (.inl (k', ls', st', h')) =>
    intro key
    show mX ev C k ls st h = mX ev C k' ls' st' h'
    cases hx : mX ev C k' ls' st' h' with
    | none =>
      refine mX_none.mpr fun f => ?_
      cases f with
      | zero => rfl
      | succ f => rw [key f]; exact mX_none.mp hx f
    | some r =>
      obtain ⟨f, hf⟩ := mX_iff.mp hx
      exact mX_iff.mpr ⟨f + 1, by rw [key f]; exact hf⟩
/-- the locals of a method that begins -/
def mL0 : List Value → ML
  | [] => []
  | .long x :: l => some (.long x) :: none :: mL0 l
  | .double x :: l => some (.double x) :: none :: mL0 l
  | v :: l => some v :: mL0 l
def mL (args : List Value) (n : Nat) : ML := mL0 args ++ List.replicate (n - (mL0 args).length) none
