/-! ONE STEP: an instruction of the small machine, if its row is a good one, is a step of the big machine (written by wip/gen/step10.py) -/
def mtW (p : Nat) (w : Cond) : Bool := decide (lw_tbl[p]? = some w)
theorem mtW_in {p : Nat} {w : Cond} (h : mtW p w = true) : w ∈ lw_tbl := List.mem_of_getElem? (of_decide_eq_true h)
def mdec (cc : ByteArray) (pc : Nat) (ins : Instr) (n : Nat) : Bool := decide (decode cc pc = .ok (ins, n))
def mnx (C : List MI) (k pc n : Nat) : Bool := Nat.beq (mbp C (k + 1)) (pc + n)
def mto (C : List MI) (pc : Nat) (o : Int) (t : Nat) : Bool := decide ((pc : Int) + o = (mbp C t : Int))
def mfi (ini : Bool) (own : String) (t : String × String × String × Bool) : Bool := match t.2.2.2 with
  | false => true
  | true => ini && decide (t.1 = own)
/-- the type of a field that is written, by its kind -/
def mtyo (c : Nat) (t : Option FieldType) : Bool := match t with
  | some .int => Nat.beq c 0
  | some .long => Nat.beq c 1
  | some (.object _) => Nat.beq c 2
  | some (.array _) => Nat.beq c 2
  | some .boolean => Nat.beq c 3
  | _ => false
/-- a call's target -/
def mcb (own : String) (idx : Nat) (q : MT) (n c : Nat) (ps : List Nat) : Bool := mtW (ps.getD 0 0) (.initialized q.1.cls) && (mtW (ps.getD 1 0) (.methodLink own idx q.1) || mtW (ps.getD 1 0) (.methodLinkNest own idx q.1 "BoroughBeam")) && decide (q.1.cls ≠ "java/lang/invoke/MethodHandle" ∧ q.1.cls ≠ "java/lang/invoke/VarHandle" ∧ (parseMethodDescriptor q.1.desc).map (fun d => d.parameters.length) = some n) && (Nat.beq c 0 == q.2.2.2.1.isNone)
def mcn (e : Nat) : String := match vwCl[e]? with
  | some C => C.1
  | none => "java/lang/String"
def mok2 (e : Nat) : Bool := match vwCl[e]? with
  | some _ => true
  | none => Nat.beq e 24
def mreq (c : Nat) (ret : Option FieldType) : Bool := match ret with
  | some .int => Nat.beq c 0
  | some .boolean => Nat.beq c 1
  | some .char => Nat.beq c 2
  | some .byte => Nat.beq c 3
  | _ => false
def mrref (ret : Option FieldType) : Bool := match ret with
  | some (.object _) => true
  | some (.array _) => true
  | _ => false
def mat (t : ArrayType) (a : Nat) : Bool := match t with
  | .int => Nat.beq a 20
  | .long => Nat.beq a 21
  | .boolean => Nat.beq a 22
  | _ => false
def mmB (d : Nat) (own : String) (n : Nat) (ps : List Nat) : Bool := match d with
      | 4 => mtW (ps.getD 1 0) (.methodLink own n Lib.Math.abs.name) && mtW (ps.getD 2 0) (.static Lib.Math.abs.name) && mtW (ps.getD 3 0) (.code Lib.Math.abs.name Lib.Math.abs.code 1 (some .int))
      | 5 => mtW (ps.getD 1 0) (.methodLink own n Lib.Math.max.name) && mtW (ps.getD 2 0) (.static Lib.Math.max.name) && mtW (ps.getD 3 0) (.code Lib.Math.max.name Lib.Math.max.code 2 (some .int))
      | _ => mtW (ps.getD 1 0) (.methodLink own n Lib.Math.min.name) && mtW (ps.getD 2 0) (.static Lib.Math.min.name) && mtW (ps.getD 3 0) (.code Lib.Math.min.name Lib.Math.min.code 2 (some .int))
def mokB (tb : List MT) (own : String) (ini : Bool) (cc : ByteArray) (C : List MI) (ret : Option FieldType) (k : Nat) (i : MI) (ps : List Nat) : Bool :=
  match i with
  | (pc, ins, x, y, sw, a, b, c, d, e) =>
  match ins with
  | .iconst n => mdec cc pc (.iconst n) 1 && mnx C k pc 1 && decide (Int32.ofInt n = x)
  | .bipush n => mdec cc pc (.bipush n) 2 && mnx C k pc 2 && decide ((Int8.ofInt n).toInt32 = x)
  | .sipush n => mdec cc pc (.sipush n) 3 && mnx C k pc 3 && decide ((Int16.ofInt n).toInt32 = x)
  | .ldc n => mdec cc pc (.ldc n) 2 && mnx C k pc 2 && (match b with
    | 0 => mtW (ps.getD 0 0) (.constant own n x)
    | _ => mzt.any fun z => decide (z.1 = own) && Nat.beq z.2.1 n && Nat.beq z.2.2.2 a && Nat.blt 0 a && Nat.blt a 8)
  | .ldc_w n => mdec cc pc (.ldc_w n) 3 && mnx C k pc 3 && mtW (ps.getD 0 0) (.constant own n x)
  | .lconst n => mdec cc pc (.lconst n) 1 && mnx C k pc 1 && decide (Int64.ofNat (n : Nat) = y)
  | .ldc2_w n => mdec cc pc (.ldc2_w n) 3 && mnx C k pc 3 && mtW (ps.getD 0 0) (.constantLong own n y)
  | .aconst_null => mdec cc pc .aconst_null 1 && mnx C k pc 1
  | .iload_n n => mdec cc pc (.iload_n n) 1 && mnx C k pc 1 && Nat.beq n.val a
  | .iload n => mdec cc pc (.iload n) 2 && mnx C k pc 2 && Nat.beq n a
  | .istore_n n => mdec cc pc (.istore_n n) 1 && mnx C k pc 1 && Nat.beq n.val a
  | .istore n => mdec cc pc (.istore n) 2 && mnx C k pc 2 && Nat.beq n a
  | .lload_n n => mdec cc pc (.lload_n n) 1 && mnx C k pc 1 && Nat.beq n.val a
  | .lload n => mdec cc pc (.lload n) 2 && mnx C k pc 2 && Nat.beq n a
  | .lstore_n n => mdec cc pc (.lstore_n n) 1 && mnx C k pc 1 && Nat.beq n.val a
  | .lstore n => mdec cc pc (.lstore n) 2 && mnx C k pc 2 && Nat.beq n a
  | .aload_n n => mdec cc pc (.aload_n n) 1 && mnx C k pc 1 && Nat.beq n.val a
  | .aload n => mdec cc pc (.aload n) 2 && mnx C k pc 2 && Nat.beq n a
  | .astore_n n => mdec cc pc (.astore_n n) 1 && mnx C k pc 1 && Nat.beq n.val a
  | .astore n => mdec cc pc (.astore n) 2 && mnx C k pc 2 && Nat.beq n a
  | .iinc n z => mdec cc pc (.iinc n z) 3 && mnx C k pc 3 && Nat.beq n a && decide (Int32.ofInt z = x)
  | .iadd => mdec cc pc .iadd 1 && mnx C k pc 1
  | .isub => mdec cc pc .isub 1 && mnx C k pc 1
  | .imul => mdec cc pc .imul 1 && mnx C k pc 1
  | .iand => mdec cc pc .iand 1 && mnx C k pc 1
  | .ior => mdec cc pc .ior 1 && mnx C k pc 1
  | .ixor => mdec cc pc .ixor 1 && mnx C k pc 1
  | .ishl => mdec cc pc .ishl 1 && mnx C k pc 1
  | .ishr => mdec cc pc .ishr 1 && mnx C k pc 1
  | .iushr => mdec cc pc .iushr 1 && mnx C k pc 1
  | .ineg => mdec cc pc .ineg 1 && mnx C k pc 1
  | .idiv => mdec cc pc .idiv 1 && mnx C k pc 1
  | .irem => mdec cc pc .irem 1 && mnx C k pc 1
  | .ladd => mdec cc pc .ladd 1 && mnx C k pc 1
  | .lsub => mdec cc pc .lsub 1 && mnx C k pc 1
  | .lmul => mdec cc pc .lmul 1 && mnx C k pc 1
  | .lor => mdec cc pc .lor 1 && mnx C k pc 1
  | .ldiv => mdec cc pc .ldiv 1 && mnx C k pc 1
  | .lrem => mdec cc pc .lrem 1 && mnx C k pc 1
  | .lneg => mdec cc pc .lneg 1 && mnx C k pc 1
  | .lshl => mdec cc pc .lshl 1 && mnx C k pc 1
  | .lshr => mdec cc pc .lshr 1 && mnx C k pc 1
  | .lcmp => mdec cc pc .lcmp 1 && mnx C k pc 1
  | .i2l => mdec cc pc .i2l 1 && mnx C k pc 1
  | .l2i => mdec cc pc .l2i 1 && mnx C k pc 1
  | .i2b => mdec cc pc .i2b 1 && mnx C k pc 1
  | .i2c => mdec cc pc .i2c 1 && mnx C k pc 1
  | .dup => mdec cc pc .dup 1 && mnx C k pc 1
  | .dup2 => mdec cc pc .dup2 1 && mnx C k pc 1
  | .dup_x1 => mdec cc pc .dup_x1 1 && mnx C k pc 1
  | .dup_x2 => mdec cc pc .dup_x2 1 && mnx C k pc 1
  | .pop => mdec cc pc .pop 1 && mnx C k pc 1
  | .arraylength => mdec cc pc .arraylength 1 && mnx C k pc 1
  | .iaload => mdec cc pc .iaload 1 && mnx C k pc 1
  | .iastore => mdec cc pc .iastore 1 && mnx C k pc 1
  | .laload => mdec cc pc .laload 1 && mnx C k pc 1
  | .lastore => mdec cc pc .lastore 1 && mnx C k pc 1
  | .baload => mdec cc pc .baload 1 && mnx C k pc 1
  | .bastore => mdec cc pc .bastore 1 && mnx C k pc 1
  | .aaload => mdec cc pc .aaload 1 && mnx C k pc 1
  | .aastore => mdec cc pc .aastore 1 && mnx C k pc 1 && Nat.beq a 8
  | .goto o => mdec cc pc (.goto o) 3 && mto C pc o a
  | .ifCond cn o => mdec cc pc (.ifCond cn o) 3 && mnx C k pc 3 && mto C pc o a
  | .if_icmp cn o => mdec cc pc (.if_icmp cn o) 3 && mnx C k pc 3 && mto C pc o a
  | .ifnull o => mdec cc pc (.ifnull o) 3 && mnx C k pc 3 && mto C pc o a
  | .ifnonnull o => mdec cc pc (.ifnonnull o) 3 && mnx C k pc 3 && mto C pc o a
  | .tableswitch df lo hi os => mdec cc pc (.tableswitch df lo hi os) b && mtabOK (mbp C) pc sw lo os.toList && decide (hi = lo + os.size - 1) && mto C pc df a
  | .lookupswitch df os => mdec cc pc (.lookupswitch df os) b && mlupOK (mbp C) pc sw os.toList && (os.toList.zip (os.toList.drop 1)).all (fun (a, next) => a.1 < next.1) && mto C pc df a
  | .getfield n => mdec cc pc (.getfield n) 3 && mnx C k pc 3 && (match vwCl[a]? with
    | some q => Nat.blt b q.2.2 && decide ((mfk a)[b]? = some c) && mtW (ps.getD 0 0) (.fieldLink own n (q.2.1 b).1 (q.2.1 b).2.1 (q.2.1 b).2.2.1)
    | none => Nat.beq a 24 && ((Nat.beq b 0 && Nat.beq c 2 && mtW (ps.getD 0 0) (.fieldLink own n "java/lang/String" "value" "[B")) || (Nat.beq b 1 && Nat.beq c 0 && mtW (ps.getD 0 0) (.fieldLink own n "java/lang/String" "coder" "B"))))
  | .putfield n => mdec cc pc (.putfield n) 3 && mnx C k pc 3 && (match vwCl[a]? with
    | some q => Nat.blt b q.2.2 && decide ((mfk a)[b]? = some c) && mtW (ps.getD 0 0) (.fieldLink own n (q.2.1 b).1 (q.2.1 b).2.1 (q.2.1 b).2.2.1) && mfi ini own (q.2.1 b) && mtyo c (parseFieldDescriptor (q.2.1 b).2.2.1)
    | none => false)
  | .getstatic n => mdec cc pc (.getstatic n) 3 && mnx C k pc 3 && (match b with
    | 0 => mzs.any fun z => Nat.beq z.2.2.2 a && Nat.blt 0 a && Nat.blt a 8 && (mtW (ps.getD 0 0) (.fieldLink own n z.1 z.2.1 z.2.2.1) || mtW (ps.getD 0 0) (.fieldLinkNest own n z.1 z.2.1 z.2.2.1 "BoroughBeam"))
    | 1 => mzi.any fun z => decide (z.2.2.2 = x) && mtW (ps.getD 0 0) (.fieldLink own n z.1 z.2.1 z.2.2.1)
    | _ => mtW (ps.getD 0 0) (.fieldLink own n "jdk/internal/util/Preconditions" "SIOOBE_FORMATTER" "Ljava/util/function/BiFunction;"))
  | .new n => mdec cc pc (.new n) 3 && mnx C k pc 3 && (match vwCl[a]? with
    | some q => Nat.beq q.2.2 b && mtW (ps.getD 0 0) (.classLink own n q.1) && mtW (ps.getD 1 0) (.instantiable q.1 b) && mtW (ps.getD 2 0) (.initialized q.1)
    | none => false)
  | .newarray t => mdec cc pc (.newarray t) 2 && mnx C k pc 2 && mat t a && mtW (ps.getD 0 0) (.arrayClass (newarray.typeOf t))
  | .anewarray n => mdec cc pc (.anewarray n) 3 && mnx C k pc 3 && mtW (ps.getD 0 0) (.classLink own n RX8)
  | .invokestatic n => mdec cc pc (.invokestatic n) 3 && mnx C k pc 3 && (match d with
    | 2 => mtW (ps.getD 0 0) (.methodLink own n arraycopyName) && mtW (ps.getD 1 0) (.native arraycopyName) && mtW (ps.getD 2 0) (.static arraycopyName) && mtW (ps.getD 3 0) (.initialized "java/lang/System")
    | 0 => (match tb[a]? with
      | some q => mcb own n q b c ps && mtW (ps.getD 2 0) (.static q.1)
      | none => false)
    | _ => mtW (ps.getD 0 0) (.initialized "java/lang/Math") && mmB d own n ps)
  | .checkcast n => mdec cc pc (.checkcast n) 3 && mnx C k pc 3 && mtW (ps.getD 0 0) (.classLink own n "[I")
  | .invokevirtual n => mdec cc pc (.invokevirtual n) 3 && mnx C k pc 3 && (match d with
    | 3 => mtW (ps.getD 0 0) (.methodLink own n ⟨"[I", "clone", "()Ljava/lang/Object;"⟩) && mtW (ps.getD 1 0) (.sameMethod "[I" "java/lang/Object" "clone" "()Ljava/lang/Object;") && mtW (ps.getD 2 0) (.native ⟨"java/lang/Object", "clone", "()Ljava/lang/Object;"⟩) && mtW (ps.getD 3 0) (.instanceMethod ⟨"java/lang/Object", "clone", "()Ljava/lang/Object;"⟩) && mtW (ps.getD 4 0) (.selects "[I" ⟨"[I", "clone", "()Ljava/lang/Object;"⟩ ⟨"java/lang/Object", "clone", "()Ljava/lang/Object;"⟩) && mtW (ps.getD 5 0) (.castable "[I" "java/lang/Cloneable")
    | _ => (match tb[a]? with
      | some q => Nat.blt 0 b && mcb own n q (b - 1) c ps && mok2 e && mtW (ps.getD 2 0) (.instanceMethod q.1) && mtW (ps.getD 3 0) (.selects (mcn e) q.1 q.1)
      | none => false))
  | .invokespecial n => mdec cc pc (.invokespecial n) 3 && mnx C k pc 3 && (match d with
    | 2 => mtW (ps.getD 0 0) (.methodLink own n objectInit) && mtW (ps.getD 1 0) (.instanceMethod objectInit) && mtW (ps.getD 2 0) (.code objectInit ⟨#[0xb1]⟩ 1 none)
    | _ => (match tb[a]? with
      | some q => Nat.blt 0 b && mcb own n q (b - 1) c ps && mtW (ps.getD 2 0) (.instanceMethod q.1) && decide (q.1.name = "<init>" ∧ q.2.2.2.1 = none)
      | none => false))
  | .ireturn => mdec cc pc .ireturn 1 && mreq c ret
  | .lreturn => mdec cc pc .lreturn 1 && decide (ret = some .long)
  | .areturn => mdec cc pc .areturn 1 && mrref ret
  | .return_ => mdec cc pc .return_ 1 && decide (ret = none)
  | _ => true
theorem nx_inj {k k' : Nat} {ls ls' : ML} {st st' : List Value} {h h' : MH} (e : nx k ls st h = some (.inl (k', ls', st', h'))) : k = k' ∧ ls = ls' ∧ st = st' ∧ h = h' := by
  unfold nx at e
  cases e
  exact ⟨rfl, rfl, rfl, rfl⟩
theorem mck_some {c : Prop} {o : MO} {z : (Nat × ML × List Value × MH) ⊕ (Value × MH)} (e : mck c o = some z) : c ∧ o = some z := by
  unfold mck at e
  split at e
  · rename_i hc; exact ⟨hc, e⟩
  · cases e
theorem mdec_of {cc : ByteArray} {pc : Nat} {ins : Instr} {n : Nat} (h : mdec cc pc ins n = true) : decode cc pc = .ok (ins, n) := of_decide_eq_true h
theorem mnx_of {C : List MI} {k pc n : Nat} (h : mnx C k pc n = true) : pc + n = mbp C (k + 1) := (Nat.eq_of_beq_eq_true h).symm
theorem mto_of {C : List MI} {pc t : Nat} {o : Int} (h : mto C pc o t = true) : (pc : Int) + o = (mbp C t : Int) := of_decide_eq_true h
theorem mst1_some {ls : ML} {i : Nat} {v : Value} {k : Nat} {st : List Value} {h : MH} {z : (Nat × ML × List Value × MH) ⊕ (Value × MH)} (e : mst1 ls i v k st h = some z) : (mok ls i && Nat.ble (i + 1) ls.length) = true ∧ nx k (ls.set i (some v)) st h = some z := by
  unfold mst1 at e
  split at e
  · rename_i hc; exact ⟨hc, e⟩
  · cases e
theorem mst2_some {ls : ML} {i : Nat} {v : Value} {k : Nat} {st : List Value} {h : MH} {z : (Nat × ML × List Value × MH) ⊕ (Value × MH)} (e : mst2 ls i v k st h = some z) : (mok ls i && Nat.ble (i + 2) ls.length) = true ∧ nx k ((ls.set i (some v)).set (i + 1) none) st h = some z := by
  unfold mst2 at e
  split at e
  · rename_i hc; exact ⟨hc, e⟩
  · cases e
theorem mbr_some {c : Prop} {d : Decidable c} {t k k' : Nat} {ls ls' : ML} {st st' : List Value} {h h' : MH} (e : mbr c d t k ls st h = some (.inl (k', ls', st', h'))) : ((c ∧ k' = t) ∨ (¬ c ∧ k' = k)) ∧ ls = ls' ∧ st = st' ∧ h = h' := by
  unfold mbr at e
  split at e
  · rename_i hc
    obtain ⟨rfl, h1⟩ := nx_inj e
    exact ⟨Or.inl ⟨hc, rfl⟩, h1⟩
  · rename_i hc
    obtain ⟨rfl, h1⟩ := nx_inj e
    exact ⟨Or.inr ⟨hc, rfl⟩, h1⟩
theorem mbr_go {c : Prop} {k' t k : Nat} {P : Nat → Prop} (hc : (c ∧ k' = t) ∨ (¬ c ∧ k' = k)) (kk : P k') : (c → P t) ∧ (¬ c → P k) := by
  rcases hc with ⟨h1, rfl⟩ | ⟨h1, rfl⟩
  · exact ⟨fun _ => kk, fun z => absurd h1 z⟩
  · exact ⟨fun z => absurd z h1, fun _ => kk⟩
section MST
variable {p : Program} {l : Launch} {e0 : Env} {R : Room} {s : State} {m : MethodId} {args : Array Value} {below : List Frame} {meth : Method} {c0 : Code} {Q : Nat → Nat → State → Prop}
variable {cc : ByteArray} {G : MG} {own : String} {nL : Nat} {h0 h hF : MH} {ls : ML} {st : List Value} {tb : List MT} {ini : Bool} {C : List MI} {ret : Option FieldType} {k : Nat} {ps : List Nat} {ev : ME} {dd : Nat}
/-- what the evaluator's answers mean in the big machine -/
def mEv (tb : List MT) (ev : ME) (l : Launch) (G : MG) (dd : Nat) : Prop := ∀ (y : Nat) (as : List Value) (h : MH) (v : Value) (h' : MH), ev y as h = some (v, h') → ∃ q, tb[y]? = some q ∧ mN h ≤ mN h' ∧ mS h ≤ mS h' ∧ Met l q.1 (mwd q) (mrm dd h h') (va_Pc (as.map (mtr G)) (mPre G h)) (mPost G q.2.2.2.1 v h') (mN h' - mN h) (mS h' - mS h) G.A
/-- what is known of the methods' words -/
def mQs (tb : List MT) : Prop := ∀ (y : Nat) (q : MT), tb[y]? = some q → Cond.code q.1 q.2.1 q.2.2.1 q.2.2.2.1 ∈ lw_tbl ∧ q.2.2.1 ≤ 40
theorem ms_iconst {pc : Nat} {x : Int32} {y : Int64} {sw : List (Int32 × Nat)} {a b c d e k' : Nat} {ls' : ML} {st' : List Value} {h' : MH} {n : Int} (X : mCx G p R s m args c0 own cc nL h0) (hok : mokB tb own ini cc C ret k (pc, .iconst n, x, y, sw, a, b, c, d, e) ps = true) (hs : mst (pc, .iconst n, x, y, sw, a, b, c, d, e) k ls st h ev = some (.inl (k', ls', st', h')))  (kk : mV p l e0 R s m args below meth c0 Q G nL h0 hF (mbp C k') ls' st' h') : mV p l e0 R s m args below meth c0 Q G nL h0 hF pc ls st h := by
  simp only [mokB, Bool.and_eq_true] at hok
  simp only [mst] at hs
  obtain ⟨rfl, rfl, rfl, rfl⟩ := nx_inj hs
  rw [← mnx_of hok.1.2] at kk
  exact mv_iconst X (mdec_of hok.1.1) (of_decide_eq_true hok.2) kk
theorem ms_bipush {pc : Nat} {x : Int32} {y : Int64} {sw : List (Int32 × Nat)} {a b c d e k' : Nat} {ls' : ML} {st' : List Value} {h' : MH} {n : Int} (X : mCx G p R s m args c0 own cc nL h0) (hok : mokB tb own ini cc C ret k (pc, .bipush n, x, y, sw, a, b, c, d, e) ps = true) (hs : mst (pc, .bipush n, x, y, sw, a, b, c, d, e) k ls st h ev = some (.inl (k', ls', st', h')))  (kk : mV p l e0 R s m args below meth c0 Q G nL h0 hF (mbp C k') ls' st' h') : mV p l e0 R s m args below meth c0 Q G nL h0 hF pc ls st h := by
  simp only [mokB, Bool.and_eq_true] at hok
  simp only [mst] at hs
  obtain ⟨rfl, rfl, rfl, rfl⟩ := nx_inj hs
  rw [← mnx_of hok.1.2] at kk
  exact mv_bipush X (mdec_of hok.1.1) (of_decide_eq_true hok.2) kk
theorem ms_sipush {pc : Nat} {x : Int32} {y : Int64} {sw : List (Int32 × Nat)} {a b c d e k' : Nat} {ls' : ML} {st' : List Value} {h' : MH} {n : Int} (X : mCx G p R s m args c0 own cc nL h0) (hok : mokB tb own ini cc C ret k (pc, .sipush n, x, y, sw, a, b, c, d, e) ps = true) (hs : mst (pc, .sipush n, x, y, sw, a, b, c, d, e) k ls st h ev = some (.inl (k', ls', st', h')))  (kk : mV p l e0 R s m args below meth c0 Q G nL h0 hF (mbp C k') ls' st' h') : mV p l e0 R s m args below meth c0 Q G nL h0 hF pc ls st h := by
  simp only [mokB, Bool.and_eq_true] at hok
  simp only [mst] at hs
  obtain ⟨rfl, rfl, rfl, rfl⟩ := nx_inj hs
  rw [← mnx_of hok.1.2] at kk
  exact mv_sipush X (mdec_of hok.1.1) (of_decide_eq_true hok.2) kk
theorem ms_ldc_w {pc : Nat} {x : Int32} {y : Int64} {sw : List (Int32 × Nat)} {a b c d e k' : Nat} {ls' : ML} {st' : List Value} {h' : MH} {n : Nat} (X : mCx G p R s m args c0 own cc nL h0) (hok : mokB tb own ini cc C ret k (pc, .ldc_w n, x, y, sw, a, b, c, d, e) ps = true) (hs : mst (pc, .ldc_w n, x, y, sw, a, b, c, d, e) k ls st h ev = some (.inl (k', ls', st', h')))  (kk : mV p l e0 R s m args below meth c0 Q G nL h0 hF (mbp C k') ls' st' h') : mV p l e0 R s m args below meth c0 Q G nL h0 hF pc ls st h := by
  simp only [mokB, Bool.and_eq_true] at hok
  simp only [mst] at hs
  obtain ⟨rfl, rfl, rfl, rfl⟩ := nx_inj hs
  rw [← mnx_of hok.1.2] at kk
  exact mv_ldcw X (mdec_of hok.1.1) (mtW_in hok.2) kk
theorem ms_lconst {pc : Nat} {x : Int32} {y : Int64} {sw : List (Int32 × Nat)} {a b c d e k' : Nat} {ls' : ML} {st' : List Value} {h' : MH} {n : Fin 2} (X : mCx G p R s m args c0 own cc nL h0) (hok : mokB tb own ini cc C ret k (pc, .lconst n, x, y, sw, a, b, c, d, e) ps = true) (hs : mst (pc, .lconst n, x, y, sw, a, b, c, d, e) k ls st h ev = some (.inl (k', ls', st', h')))  (kk : mV p l e0 R s m args below meth c0 Q G nL h0 hF (mbp C k') ls' st' h') : mV p l e0 R s m args below meth c0 Q G nL h0 hF pc ls st h := by
  simp only [mokB, Bool.and_eq_true] at hok
  simp only [mst] at hs
  obtain ⟨rfl, rfl, rfl, rfl⟩ := nx_inj hs
  rw [← mnx_of hok.1.2] at kk
  exact mv_lconst X (mdec_of hok.1.1) (of_decide_eq_true hok.2) kk
theorem ms_ldc2_w {pc : Nat} {x : Int32} {y : Int64} {sw : List (Int32 × Nat)} {a b c d e k' : Nat} {ls' : ML} {st' : List Value} {h' : MH} {n : Nat} (X : mCx G p R s m args c0 own cc nL h0) (hok : mokB tb own ini cc C ret k (pc, .ldc2_w n, x, y, sw, a, b, c, d, e) ps = true) (hs : mst (pc, .ldc2_w n, x, y, sw, a, b, c, d, e) k ls st h ev = some (.inl (k', ls', st', h')))  (kk : mV p l e0 R s m args below meth c0 Q G nL h0 hF (mbp C k') ls' st' h') : mV p l e0 R s m args below meth c0 Q G nL h0 hF pc ls st h := by
  simp only [mokB, Bool.and_eq_true] at hok
  simp only [mst] at hs
  obtain ⟨rfl, rfl, rfl, rfl⟩ := nx_inj hs
  rw [← mnx_of hok.1.2] at kk
  exact mv_ldc2 X (mdec_of hok.1.1) (mtW_in hok.2) kk
theorem ms_ldc {pc : Nat} {x : Int32} {y : Int64} {sw : List (Int32 × Nat)} {a b c d e k' : Nat} {ls' : ML} {st' : List Value} {h' : MH} {n : Nat} (X : mCx G p R s m args c0 own cc nL h0) (hok : mokB tb own ini cc C ret k (pc, .ldc n, x, y, sw, a, b, c, d, e) ps = true) (hs : mst (pc, .ldc n, x, y, sw, a, b, c, d, e) k ls st h ev = some (.inl (k', ls', st', h')))  (kk : mV p l e0 R s m args below meth c0 Q G nL h0 hF (mbp C k') ls' st' h') : mV p l e0 R s m args below meth c0 Q G nL h0 hF pc ls st h := by
  simp only [mokB, Bool.and_eq_true] at hok
  simp only [mst] at hs
  split at hs
  · obtain ⟨rfl, rfl, rfl, rfl⟩ := nx_inj hs
    rw [← mnx_of hok.1.2] at kk
    exact mv_ldc X (mdec_of hok.1.1) (mtW_in hok.2) kk
  · rename_i hb
    obtain ⟨rfl, rfl, rfl, rfl⟩ := nx_inj hs
    rw [← mnx_of hok.1.2] at kk
    have h2 := hok.2
    split at h2
    · exact absurd rfl hb
    · obtain ⟨z, hz, h3⟩ := List.any_eq_true.mp h2
      simp only [Bool.and_eq_true, decide_eq_true_eq, Nat.blt_eq] at h3
      exact mv_ldcS X (mdec_of hok.1.1) hz h3.1.1.1.1 (Nat.eq_of_beq_eq_true h3.1.1.1.2) (Nat.eq_of_beq_eq_true h3.1.1.2) ⟨h3.1.2, h3.2⟩ kk
theorem ms_aconst_null {pc : Nat} {x : Int32} {y : Int64} {sw : List (Int32 × Nat)} {a b c d e k' : Nat} {ls' : ML} {st' : List Value} {h' : MH}  (X : mCx G p R s m args c0 own cc nL h0) (hok : mokB tb own ini cc C ret k (pc, .aconst_null, x, y, sw, a, b, c, d, e) ps = true) (hs : mst (pc, .aconst_null, x, y, sw, a, b, c, d, e) k ls st h ev = some (.inl (k', ls', st', h')))  (kk : mV p l e0 R s m args below meth c0 Q G nL h0 hF (mbp C k') ls' st' h') : mV p l e0 R s m args below meth c0 Q G nL h0 hF pc ls st h := by
  simp only [mokB, Bool.and_eq_true] at hok
  simp only [mst] at hs
  obtain ⟨rfl, rfl, rfl, rfl⟩ := nx_inj hs
  rw [← mnx_of hok.2] at kk
  exact mv_null X (mdec_of hok.1) kk
theorem ms_iload_n {pc : Nat} {x : Int32} {y : Int64} {sw : List (Int32 × Nat)} {a b c d e k' : Nat} {ls' : ML} {st' : List Value} {h' : MH} {n : Fin 4} (X : mCx G p R s m args c0 own cc nL h0) (hok : mokB tb own ini cc C ret k (pc, .iload_n n, x, y, sw, a, b, c, d, e) ps = true) (hs : mst (pc, .iload_n n, x, y, sw, a, b, c, d, e) k ls st h ev = some (.inl (k', ls', st', h')))  (kk : mV p l e0 R s m args below meth c0 Q G nL h0 hF (mbp C k') ls' st' h') : mV p l e0 R s m args below meth c0 Q G nL h0 hF pc ls st h := by
  simp only [mokB, Bool.and_eq_true] at hok
  simp only [mst] at hs
  split at hs
  · rename_i v hv
    obtain ⟨rfl, rfl, rfl, rfl⟩ := nx_inj hs
    rw [← mnx_of hok.1.2] at kk
    exact mv_iload_n X (mdec_of hok.1.1) (Nat.eq_of_beq_eq_true hok.2) hv kk
  · cases hs
theorem ms_iload {pc : Nat} {x : Int32} {y : Int64} {sw : List (Int32 × Nat)} {a b c d e k' : Nat} {ls' : ML} {st' : List Value} {h' : MH} {n : Nat} (X : mCx G p R s m args c0 own cc nL h0) (hok : mokB tb own ini cc C ret k (pc, .iload n, x, y, sw, a, b, c, d, e) ps = true) (hs : mst (pc, .iload n, x, y, sw, a, b, c, d, e) k ls st h ev = some (.inl (k', ls', st', h')))  (kk : mV p l e0 R s m args below meth c0 Q G nL h0 hF (mbp C k') ls' st' h') : mV p l e0 R s m args below meth c0 Q G nL h0 hF pc ls st h := by
  simp only [mokB, Bool.and_eq_true] at hok
  simp only [mst] at hs
  have hn := Nat.eq_of_beq_eq_true hok.2
  subst hn
  split at hs
  · rename_i v hv
    obtain ⟨rfl, rfl, rfl, rfl⟩ := nx_inj hs
    rw [← mnx_of hok.1.2] at kk
    exact mv_iload X (mdec_of hok.1.1) hv kk
  · cases hs
theorem ms_istore_n {pc : Nat} {x : Int32} {y : Int64} {sw : List (Int32 × Nat)} {a b c d e k' : Nat} {ls' : ML} {st' : List Value} {h' : MH} {n : Fin 4} (X : mCx G p R s m args c0 own cc nL h0) (hok : mokB tb own ini cc C ret k (pc, .istore_n n, x, y, sw, a, b, c, d, e) ps = true) (hs : mst (pc, .istore_n n, x, y, sw, a, b, c, d, e) k ls st h ev = some (.inl (k', ls', st', h')))  (kk : mV p l e0 R s m args below meth c0 Q G nL h0 hF (mbp C k') ls' st' h') : mV p l e0 R s m args below meth c0 Q G nL h0 hF pc ls st h := by
  simp only [mokB, Bool.and_eq_true] at hok
  simp only [mst] at hs
  split at hs
  · obtain ⟨hk, hs⟩ := mst1_some hs
    obtain ⟨rfl, rfl, rfl, rfl⟩ := nx_inj hs
    rw [← mnx_of hok.1.2] at kk
    exact mv_istore_n X (mdec_of hok.1.1) (Nat.eq_of_beq_eq_true hok.2) hk kk
  · cases hs
theorem ms_istore {pc : Nat} {x : Int32} {y : Int64} {sw : List (Int32 × Nat)} {a b c d e k' : Nat} {ls' : ML} {st' : List Value} {h' : MH} {n : Nat} (X : mCx G p R s m args c0 own cc nL h0) (hok : mokB tb own ini cc C ret k (pc, .istore n, x, y, sw, a, b, c, d, e) ps = true) (hs : mst (pc, .istore n, x, y, sw, a, b, c, d, e) k ls st h ev = some (.inl (k', ls', st', h')))  (kk : mV p l e0 R s m args below meth c0 Q G nL h0 hF (mbp C k') ls' st' h') : mV p l e0 R s m args below meth c0 Q G nL h0 hF pc ls st h := by
  simp only [mokB, Bool.and_eq_true] at hok
  simp only [mst] at hs
  have hn := Nat.eq_of_beq_eq_true hok.2
  subst hn
  split at hs
  · obtain ⟨hk, hs⟩ := mst1_some hs
    obtain ⟨rfl, rfl, rfl, rfl⟩ := nx_inj hs
    rw [← mnx_of hok.1.2] at kk
    exact mv_istore X (mdec_of hok.1.1) hk kk
  · cases hs
theorem ms_lload_n {pc : Nat} {x : Int32} {y : Int64} {sw : List (Int32 × Nat)} {a b c d e k' : Nat} {ls' : ML} {st' : List Value} {h' : MH} {n : Fin 4} (X : mCx G p R s m args c0 own cc nL h0) (hok : mokB tb own ini cc C ret k (pc, .lload_n n, x, y, sw, a, b, c, d, e) ps = true) (hs : mst (pc, .lload_n n, x, y, sw, a, b, c, d, e) k ls st h ev = some (.inl (k', ls', st', h')))  (kk : mV p l e0 R s m args below meth c0 Q G nL h0 hF (mbp C k') ls' st' h') : mV p l e0 R s m args below meth c0 Q G nL h0 hF pc ls st h := by
  simp only [mokB, Bool.and_eq_true] at hok
  simp only [mst] at hs
  split at hs
  · rename_i v hv
    obtain ⟨rfl, rfl, rfl, rfl⟩ := nx_inj hs
    rw [← mnx_of hok.1.2] at kk
    exact mv_lload_n X (mdec_of hok.1.1) (Nat.eq_of_beq_eq_true hok.2) hv kk
  · cases hs
theorem ms_lload {pc : Nat} {x : Int32} {y : Int64} {sw : List (Int32 × Nat)} {a b c d e k' : Nat} {ls' : ML} {st' : List Value} {h' : MH} {n : Nat} (X : mCx G p R s m args c0 own cc nL h0) (hok : mokB tb own ini cc C ret k (pc, .lload n, x, y, sw, a, b, c, d, e) ps = true) (hs : mst (pc, .lload n, x, y, sw, a, b, c, d, e) k ls st h ev = some (.inl (k', ls', st', h')))  (kk : mV p l e0 R s m args below meth c0 Q G nL h0 hF (mbp C k') ls' st' h') : mV p l e0 R s m args below meth c0 Q G nL h0 hF pc ls st h := by
  simp only [mokB, Bool.and_eq_true] at hok
  simp only [mst] at hs
  have hn := Nat.eq_of_beq_eq_true hok.2
  subst hn
  split at hs
  · rename_i v hv
    obtain ⟨rfl, rfl, rfl, rfl⟩ := nx_inj hs
    rw [← mnx_of hok.1.2] at kk
    exact mv_lload X (mdec_of hok.1.1) hv kk
  · cases hs
theorem ms_lstore_n {pc : Nat} {x : Int32} {y : Int64} {sw : List (Int32 × Nat)} {a b c d e k' : Nat} {ls' : ML} {st' : List Value} {h' : MH} {n : Fin 4} (X : mCx G p R s m args c0 own cc nL h0) (hok : mokB tb own ini cc C ret k (pc, .lstore_n n, x, y, sw, a, b, c, d, e) ps = true) (hs : mst (pc, .lstore_n n, x, y, sw, a, b, c, d, e) k ls st h ev = some (.inl (k', ls', st', h')))  (kk : mV p l e0 R s m args below meth c0 Q G nL h0 hF (mbp C k') ls' st' h') : mV p l e0 R s m args below meth c0 Q G nL h0 hF pc ls st h := by
  simp only [mokB, Bool.and_eq_true] at hok
  simp only [mst] at hs
  split at hs
  · obtain ⟨hk, hs⟩ := mst2_some hs
    obtain ⟨rfl, rfl, rfl, rfl⟩ := nx_inj hs
    rw [← mnx_of hok.1.2] at kk
    exact mv_lstore_n X (mdec_of hok.1.1) (Nat.eq_of_beq_eq_true hok.2) hk kk
  · cases hs
theorem ms_lstore {pc : Nat} {x : Int32} {y : Int64} {sw : List (Int32 × Nat)} {a b c d e k' : Nat} {ls' : ML} {st' : List Value} {h' : MH} {n : Nat} (X : mCx G p R s m args c0 own cc nL h0) (hok : mokB tb own ini cc C ret k (pc, .lstore n, x, y, sw, a, b, c, d, e) ps = true) (hs : mst (pc, .lstore n, x, y, sw, a, b, c, d, e) k ls st h ev = some (.inl (k', ls', st', h')))  (kk : mV p l e0 R s m args below meth c0 Q G nL h0 hF (mbp C k') ls' st' h') : mV p l e0 R s m args below meth c0 Q G nL h0 hF pc ls st h := by
  simp only [mokB, Bool.and_eq_true] at hok
  simp only [mst] at hs
  have hn := Nat.eq_of_beq_eq_true hok.2
  subst hn
  split at hs
  · obtain ⟨hk, hs⟩ := mst2_some hs
    obtain ⟨rfl, rfl, rfl, rfl⟩ := nx_inj hs
    rw [← mnx_of hok.1.2] at kk
    exact mv_lstore X (mdec_of hok.1.1) hk kk
  · cases hs
theorem ms_aload_n {pc : Nat} {x : Int32} {y : Int64} {sw : List (Int32 × Nat)} {a b c d e k' : Nat} {ls' : ML} {st' : List Value} {h' : MH} {n : Fin 4} (X : mCx G p R s m args c0 own cc nL h0) (hok : mokB tb own ini cc C ret k (pc, .aload_n n, x, y, sw, a, b, c, d, e) ps = true) (hs : mst (pc, .aload_n n, x, y, sw, a, b, c, d, e) k ls st h ev = some (.inl (k', ls', st', h')))  (kk : mV p l e0 R s m args below meth c0 Q G nL h0 hF (mbp C k') ls' st' h') : mV p l e0 R s m args below meth c0 Q G nL h0 hF pc ls st h := by
  simp only [mokB, Bool.and_eq_true] at hok
  simp only [mst] at hs
  split at hs
  · rename_i v hv
    obtain ⟨rfl, rfl, rfl, rfl⟩ := nx_inj hs
    rw [← mnx_of hok.1.2] at kk
    exact mv_aload_n X (mdec_of hok.1.1) (Nat.eq_of_beq_eq_true hok.2) hv kk
  · cases hs
theorem ms_aload {pc : Nat} {x : Int32} {y : Int64} {sw : List (Int32 × Nat)} {a b c d e k' : Nat} {ls' : ML} {st' : List Value} {h' : MH} {n : Nat} (X : mCx G p R s m args c0 own cc nL h0) (hok : mokB tb own ini cc C ret k (pc, .aload n, x, y, sw, a, b, c, d, e) ps = true) (hs : mst (pc, .aload n, x, y, sw, a, b, c, d, e) k ls st h ev = some (.inl (k', ls', st', h')))  (kk : mV p l e0 R s m args below meth c0 Q G nL h0 hF (mbp C k') ls' st' h') : mV p l e0 R s m args below meth c0 Q G nL h0 hF pc ls st h := by
  simp only [mokB, Bool.and_eq_true] at hok
  simp only [mst] at hs
  have hn := Nat.eq_of_beq_eq_true hok.2
  subst hn
  split at hs
  · rename_i v hv
    obtain ⟨rfl, rfl, rfl, rfl⟩ := nx_inj hs
    rw [← mnx_of hok.1.2] at kk
    exact mv_aload X (mdec_of hok.1.1) hv kk
  · cases hs
theorem ms_astore_n {pc : Nat} {x : Int32} {y : Int64} {sw : List (Int32 × Nat)} {a b c d e k' : Nat} {ls' : ML} {st' : List Value} {h' : MH} {n : Fin 4} (X : mCx G p R s m args c0 own cc nL h0) (hok : mokB tb own ini cc C ret k (pc, .astore_n n, x, y, sw, a, b, c, d, e) ps = true) (hs : mst (pc, .astore_n n, x, y, sw, a, b, c, d, e) k ls st h ev = some (.inl (k', ls', st', h')))  (kk : mV p l e0 R s m args below meth c0 Q G nL h0 hF (mbp C k') ls' st' h') : mV p l e0 R s m args below meth c0 Q G nL h0 hF pc ls st h := by
  simp only [mokB, Bool.and_eq_true] at hok
  simp only [mst] at hs
  split at hs
  · obtain ⟨hk, hs⟩ := mst1_some hs
    obtain ⟨rfl, rfl, rfl, rfl⟩ := nx_inj hs
    rw [← mnx_of hok.1.2] at kk
    exact mv_astore_n X (mdec_of hok.1.1) (Nat.eq_of_beq_eq_true hok.2) hk kk
  · cases hs
theorem ms_astore {pc : Nat} {x : Int32} {y : Int64} {sw : List (Int32 × Nat)} {a b c d e k' : Nat} {ls' : ML} {st' : List Value} {h' : MH} {n : Nat} (X : mCx G p R s m args c0 own cc nL h0) (hok : mokB tb own ini cc C ret k (pc, .astore n, x, y, sw, a, b, c, d, e) ps = true) (hs : mst (pc, .astore n, x, y, sw, a, b, c, d, e) k ls st h ev = some (.inl (k', ls', st', h')))  (kk : mV p l e0 R s m args below meth c0 Q G nL h0 hF (mbp C k') ls' st' h') : mV p l e0 R s m args below meth c0 Q G nL h0 hF pc ls st h := by
  simp only [mokB, Bool.and_eq_true] at hok
  simp only [mst] at hs
  have hn := Nat.eq_of_beq_eq_true hok.2
  subst hn
  split at hs
  · obtain ⟨hk, hs⟩ := mst1_some hs
    obtain ⟨rfl, rfl, rfl, rfl⟩ := nx_inj hs
    rw [← mnx_of hok.1.2] at kk
    exact mv_astore X (mdec_of hok.1.1) hk kk
  · cases hs
theorem ms_iinc {pc : Nat} {x : Int32} {y : Int64} {sw : List (Int32 × Nat)} {a b c d e k' : Nat} {ls' : ML} {st' : List Value} {h' : MH} {n : Nat} {z : Int} (X : mCx G p R s m args c0 own cc nL h0) (hok : mokB tb own ini cc C ret k (pc, .iinc n z, x, y, sw, a, b, c, d, e) ps = true) (hs : mst (pc, .iinc n z, x, y, sw, a, b, c, d, e) k ls st h ev = some (.inl (k', ls', st', h')))  (kk : mV p l e0 R s m args below meth c0 Q G nL h0 hF (mbp C k') ls' st' h') : mV p l e0 R s m args below meth c0 Q G nL h0 hF pc ls st h := by
  simp only [mokB, Bool.and_eq_true] at hok
  simp only [mst] at hs
  have hn := Nat.eq_of_beq_eq_true hok.1.2
  subst hn
  split at hs
  · rename_i v hv
    obtain ⟨hk, hs⟩ := mst1_some hs
    obtain ⟨rfl, rfl, rfl, rfl⟩ := nx_inj hs
    rw [← mnx_of hok.1.1.2] at kk
    exact mv_iinc X (mdec_of hok.1.1.1) (of_decide_eq_true hok.2) hv hk kk
  · cases hs
theorem ms_iadd {pc : Nat} {x : Int32} {y : Int64} {sw : List (Int32 × Nat)} {a b c d e k' : Nat} {ls' : ML} {st' : List Value} {h' : MH}  (X : mCx G p R s m args c0 own cc nL h0) (hok : mokB tb own ini cc C ret k (pc, .iadd, x, y, sw, a, b, c, d, e) ps = true) (hs : mst (pc, .iadd, x, y, sw, a, b, c, d, e) k ls st h ev = some (.inl (k', ls', st', h')))  (kk : mV p l e0 R s m args below meth c0 Q G nL h0 hF (mbp C k') ls' st' h') : mV p l e0 R s m args below meth c0 Q G nL h0 hF pc ls st h := by
  simp only [mokB, Bool.and_eq_true] at hok
  simp only [mst] at hs
  split at hs
  · obtain ⟨rfl, rfl, rfl, rfl⟩ := nx_inj hs
    rw [← mnx_of hok.2] at kk
    exact mv_iadd X (mdec_of hok.1) kk
  · cases hs
theorem ms_isub {pc : Nat} {x : Int32} {y : Int64} {sw : List (Int32 × Nat)} {a b c d e k' : Nat} {ls' : ML} {st' : List Value} {h' : MH}  (X : mCx G p R s m args c0 own cc nL h0) (hok : mokB tb own ini cc C ret k (pc, .isub, x, y, sw, a, b, c, d, e) ps = true) (hs : mst (pc, .isub, x, y, sw, a, b, c, d, e) k ls st h ev = some (.inl (k', ls', st', h')))  (kk : mV p l e0 R s m args below meth c0 Q G nL h0 hF (mbp C k') ls' st' h') : mV p l e0 R s m args below meth c0 Q G nL h0 hF pc ls st h := by
  simp only [mokB, Bool.and_eq_true] at hok
  simp only [mst] at hs
  split at hs
  · obtain ⟨rfl, rfl, rfl, rfl⟩ := nx_inj hs
    rw [← mnx_of hok.2] at kk
    exact mv_isub X (mdec_of hok.1) kk
  · cases hs
theorem ms_imul {pc : Nat} {x : Int32} {y : Int64} {sw : List (Int32 × Nat)} {a b c d e k' : Nat} {ls' : ML} {st' : List Value} {h' : MH}  (X : mCx G p R s m args c0 own cc nL h0) (hok : mokB tb own ini cc C ret k (pc, .imul, x, y, sw, a, b, c, d, e) ps = true) (hs : mst (pc, .imul, x, y, sw, a, b, c, d, e) k ls st h ev = some (.inl (k', ls', st', h')))  (kk : mV p l e0 R s m args below meth c0 Q G nL h0 hF (mbp C k') ls' st' h') : mV p l e0 R s m args below meth c0 Q G nL h0 hF pc ls st h := by
  simp only [mokB, Bool.and_eq_true] at hok
  simp only [mst] at hs
  split at hs
  · obtain ⟨rfl, rfl, rfl, rfl⟩ := nx_inj hs
    rw [← mnx_of hok.2] at kk
    exact mv_imul X (mdec_of hok.1) kk
  · cases hs
theorem ms_iand {pc : Nat} {x : Int32} {y : Int64} {sw : List (Int32 × Nat)} {a b c d e k' : Nat} {ls' : ML} {st' : List Value} {h' : MH}  (X : mCx G p R s m args c0 own cc nL h0) (hok : mokB tb own ini cc C ret k (pc, .iand, x, y, sw, a, b, c, d, e) ps = true) (hs : mst (pc, .iand, x, y, sw, a, b, c, d, e) k ls st h ev = some (.inl (k', ls', st', h')))  (kk : mV p l e0 R s m args below meth c0 Q G nL h0 hF (mbp C k') ls' st' h') : mV p l e0 R s m args below meth c0 Q G nL h0 hF pc ls st h := by
  simp only [mokB, Bool.and_eq_true] at hok
  simp only [mst] at hs
  split at hs
  · obtain ⟨rfl, rfl, rfl, rfl⟩ := nx_inj hs
    rw [← mnx_of hok.2] at kk
    exact mv_iand X (mdec_of hok.1) kk
  · cases hs
theorem ms_ior {pc : Nat} {x : Int32} {y : Int64} {sw : List (Int32 × Nat)} {a b c d e k' : Nat} {ls' : ML} {st' : List Value} {h' : MH}  (X : mCx G p R s m args c0 own cc nL h0) (hok : mokB tb own ini cc C ret k (pc, .ior, x, y, sw, a, b, c, d, e) ps = true) (hs : mst (pc, .ior, x, y, sw, a, b, c, d, e) k ls st h ev = some (.inl (k', ls', st', h')))  (kk : mV p l e0 R s m args below meth c0 Q G nL h0 hF (mbp C k') ls' st' h') : mV p l e0 R s m args below meth c0 Q G nL h0 hF pc ls st h := by
  simp only [mokB, Bool.and_eq_true] at hok
  simp only [mst] at hs
  split at hs
  · obtain ⟨rfl, rfl, rfl, rfl⟩ := nx_inj hs
    rw [← mnx_of hok.2] at kk
    exact mv_ior X (mdec_of hok.1) kk
  · cases hs
theorem ms_ixor {pc : Nat} {x : Int32} {y : Int64} {sw : List (Int32 × Nat)} {a b c d e k' : Nat} {ls' : ML} {st' : List Value} {h' : MH}  (X : mCx G p R s m args c0 own cc nL h0) (hok : mokB tb own ini cc C ret k (pc, .ixor, x, y, sw, a, b, c, d, e) ps = true) (hs : mst (pc, .ixor, x, y, sw, a, b, c, d, e) k ls st h ev = some (.inl (k', ls', st', h')))  (kk : mV p l e0 R s m args below meth c0 Q G nL h0 hF (mbp C k') ls' st' h') : mV p l e0 R s m args below meth c0 Q G nL h0 hF pc ls st h := by
  simp only [mokB, Bool.and_eq_true] at hok
  simp only [mst] at hs
  split at hs
  · obtain ⟨rfl, rfl, rfl, rfl⟩ := nx_inj hs
    rw [← mnx_of hok.2] at kk
    exact mv_ixor X (mdec_of hok.1) kk
  · cases hs
theorem ms_ishl {pc : Nat} {x : Int32} {y : Int64} {sw : List (Int32 × Nat)} {a b c d e k' : Nat} {ls' : ML} {st' : List Value} {h' : MH}  (X : mCx G p R s m args c0 own cc nL h0) (hok : mokB tb own ini cc C ret k (pc, .ishl, x, y, sw, a, b, c, d, e) ps = true) (hs : mst (pc, .ishl, x, y, sw, a, b, c, d, e) k ls st h ev = some (.inl (k', ls', st', h')))  (kk : mV p l e0 R s m args below meth c0 Q G nL h0 hF (mbp C k') ls' st' h') : mV p l e0 R s m args below meth c0 Q G nL h0 hF pc ls st h := by
  simp only [mokB, Bool.and_eq_true] at hok
  simp only [mst] at hs
  split at hs
  · obtain ⟨rfl, rfl, rfl, rfl⟩ := nx_inj hs
    rw [← mnx_of hok.2] at kk
    exact mv_ishl X (mdec_of hok.1) kk
  · cases hs
theorem ms_ishr {pc : Nat} {x : Int32} {y : Int64} {sw : List (Int32 × Nat)} {a b c d e k' : Nat} {ls' : ML} {st' : List Value} {h' : MH}  (X : mCx G p R s m args c0 own cc nL h0) (hok : mokB tb own ini cc C ret k (pc, .ishr, x, y, sw, a, b, c, d, e) ps = true) (hs : mst (pc, .ishr, x, y, sw, a, b, c, d, e) k ls st h ev = some (.inl (k', ls', st', h')))  (kk : mV p l e0 R s m args below meth c0 Q G nL h0 hF (mbp C k') ls' st' h') : mV p l e0 R s m args below meth c0 Q G nL h0 hF pc ls st h := by
  simp only [mokB, Bool.and_eq_true] at hok
  simp only [mst] at hs
  split at hs
  · obtain ⟨rfl, rfl, rfl, rfl⟩ := nx_inj hs
    rw [← mnx_of hok.2] at kk
    exact mv_ishr X (mdec_of hok.1) kk
  · cases hs
theorem ms_iushr {pc : Nat} {x : Int32} {y : Int64} {sw : List (Int32 × Nat)} {a b c d e k' : Nat} {ls' : ML} {st' : List Value} {h' : MH}  (X : mCx G p R s m args c0 own cc nL h0) (hok : mokB tb own ini cc C ret k (pc, .iushr, x, y, sw, a, b, c, d, e) ps = true) (hs : mst (pc, .iushr, x, y, sw, a, b, c, d, e) k ls st h ev = some (.inl (k', ls', st', h')))  (kk : mV p l e0 R s m args below meth c0 Q G nL h0 hF (mbp C k') ls' st' h') : mV p l e0 R s m args below meth c0 Q G nL h0 hF pc ls st h := by
  simp only [mokB, Bool.and_eq_true] at hok
  simp only [mst] at hs
  split at hs
  · obtain ⟨rfl, rfl, rfl, rfl⟩ := nx_inj hs
    rw [← mnx_of hok.2] at kk
    exact mv_iushr X (mdec_of hok.1) kk
  · cases hs
theorem ms_ineg {pc : Nat} {x : Int32} {y : Int64} {sw : List (Int32 × Nat)} {a b c d e k' : Nat} {ls' : ML} {st' : List Value} {h' : MH}  (X : mCx G p R s m args c0 own cc nL h0) (hok : mokB tb own ini cc C ret k (pc, .ineg, x, y, sw, a, b, c, d, e) ps = true) (hs : mst (pc, .ineg, x, y, sw, a, b, c, d, e) k ls st h ev = some (.inl (k', ls', st', h')))  (kk : mV p l e0 R s m args below meth c0 Q G nL h0 hF (mbp C k') ls' st' h') : mV p l e0 R s m args below meth c0 Q G nL h0 hF pc ls st h := by
  simp only [mokB, Bool.and_eq_true] at hok
  simp only [mst] at hs
  split at hs
  · obtain ⟨rfl, rfl, rfl, rfl⟩ := nx_inj hs
    rw [← mnx_of hok.2] at kk
    exact mv_ineg X (mdec_of hok.1) kk
  · cases hs
theorem ms_ladd {pc : Nat} {x : Int32} {y : Int64} {sw : List (Int32 × Nat)} {a b c d e k' : Nat} {ls' : ML} {st' : List Value} {h' : MH}  (X : mCx G p R s m args c0 own cc nL h0) (hok : mokB tb own ini cc C ret k (pc, .ladd, x, y, sw, a, b, c, d, e) ps = true) (hs : mst (pc, .ladd, x, y, sw, a, b, c, d, e) k ls st h ev = some (.inl (k', ls', st', h')))  (kk : mV p l e0 R s m args below meth c0 Q G nL h0 hF (mbp C k') ls' st' h') : mV p l e0 R s m args below meth c0 Q G nL h0 hF pc ls st h := by
  simp only [mokB, Bool.and_eq_true] at hok
  simp only [mst] at hs
  split at hs
  · obtain ⟨rfl, rfl, rfl, rfl⟩ := nx_inj hs
    rw [← mnx_of hok.2] at kk
    exact mv_ladd X (mdec_of hok.1) kk
  · cases hs
theorem ms_lsub {pc : Nat} {x : Int32} {y : Int64} {sw : List (Int32 × Nat)} {a b c d e k' : Nat} {ls' : ML} {st' : List Value} {h' : MH}  (X : mCx G p R s m args c0 own cc nL h0) (hok : mokB tb own ini cc C ret k (pc, .lsub, x, y, sw, a, b, c, d, e) ps = true) (hs : mst (pc, .lsub, x, y, sw, a, b, c, d, e) k ls st h ev = some (.inl (k', ls', st', h')))  (kk : mV p l e0 R s m args below meth c0 Q G nL h0 hF (mbp C k') ls' st' h') : mV p l e0 R s m args below meth c0 Q G nL h0 hF pc ls st h := by
  simp only [mokB, Bool.and_eq_true] at hok
  simp only [mst] at hs
  split at hs
  · obtain ⟨rfl, rfl, rfl, rfl⟩ := nx_inj hs
    rw [← mnx_of hok.2] at kk
    exact mv_lsub X (mdec_of hok.1) kk
  · cases hs
theorem ms_lmul {pc : Nat} {x : Int32} {y : Int64} {sw : List (Int32 × Nat)} {a b c d e k' : Nat} {ls' : ML} {st' : List Value} {h' : MH}  (X : mCx G p R s m args c0 own cc nL h0) (hok : mokB tb own ini cc C ret k (pc, .lmul, x, y, sw, a, b, c, d, e) ps = true) (hs : mst (pc, .lmul, x, y, sw, a, b, c, d, e) k ls st h ev = some (.inl (k', ls', st', h')))  (kk : mV p l e0 R s m args below meth c0 Q G nL h0 hF (mbp C k') ls' st' h') : mV p l e0 R s m args below meth c0 Q G nL h0 hF pc ls st h := by
  simp only [mokB, Bool.and_eq_true] at hok
  simp only [mst] at hs
  split at hs
  · obtain ⟨rfl, rfl, rfl, rfl⟩ := nx_inj hs
    rw [← mnx_of hok.2] at kk
    exact mv_lmul X (mdec_of hok.1) kk
  · cases hs
theorem ms_lor {pc : Nat} {x : Int32} {y : Int64} {sw : List (Int32 × Nat)} {a b c d e k' : Nat} {ls' : ML} {st' : List Value} {h' : MH}  (X : mCx G p R s m args c0 own cc nL h0) (hok : mokB tb own ini cc C ret k (pc, .lor, x, y, sw, a, b, c, d, e) ps = true) (hs : mst (pc, .lor, x, y, sw, a, b, c, d, e) k ls st h ev = some (.inl (k', ls', st', h')))  (kk : mV p l e0 R s m args below meth c0 Q G nL h0 hF (mbp C k') ls' st' h') : mV p l e0 R s m args below meth c0 Q G nL h0 hF pc ls st h := by
  simp only [mokB, Bool.and_eq_true] at hok
  simp only [mst] at hs
  split at hs
  · obtain ⟨rfl, rfl, rfl, rfl⟩ := nx_inj hs
    rw [← mnx_of hok.2] at kk
    exact mv_lor X (mdec_of hok.1) kk
  · cases hs
theorem ms_lneg {pc : Nat} {x : Int32} {y : Int64} {sw : List (Int32 × Nat)} {a b c d e k' : Nat} {ls' : ML} {st' : List Value} {h' : MH}  (X : mCx G p R s m args c0 own cc nL h0) (hok : mokB tb own ini cc C ret k (pc, .lneg, x, y, sw, a, b, c, d, e) ps = true) (hs : mst (pc, .lneg, x, y, sw, a, b, c, d, e) k ls st h ev = some (.inl (k', ls', st', h')))  (kk : mV p l e0 R s m args below meth c0 Q G nL h0 hF (mbp C k') ls' st' h') : mV p l e0 R s m args below meth c0 Q G nL h0 hF pc ls st h := by
  simp only [mokB, Bool.and_eq_true] at hok
  simp only [mst] at hs
  split at hs
  · obtain ⟨rfl, rfl, rfl, rfl⟩ := nx_inj hs
    rw [← mnx_of hok.2] at kk
    exact mv_lneg X (mdec_of hok.1) kk
  · cases hs
theorem ms_lshl {pc : Nat} {x : Int32} {y : Int64} {sw : List (Int32 × Nat)} {a b c d e k' : Nat} {ls' : ML} {st' : List Value} {h' : MH}  (X : mCx G p R s m args c0 own cc nL h0) (hok : mokB tb own ini cc C ret k (pc, .lshl, x, y, sw, a, b, c, d, e) ps = true) (hs : mst (pc, .lshl, x, y, sw, a, b, c, d, e) k ls st h ev = some (.inl (k', ls', st', h')))  (kk : mV p l e0 R s m args below meth c0 Q G nL h0 hF (mbp C k') ls' st' h') : mV p l e0 R s m args below meth c0 Q G nL h0 hF pc ls st h := by
  simp only [mokB, Bool.and_eq_true] at hok
  simp only [mst] at hs
  split at hs
  · obtain ⟨rfl, rfl, rfl, rfl⟩ := nx_inj hs
    rw [← mnx_of hok.2] at kk
    exact mv_lshl X (mdec_of hok.1) kk
  · cases hs
theorem ms_lshr {pc : Nat} {x : Int32} {y : Int64} {sw : List (Int32 × Nat)} {a b c d e k' : Nat} {ls' : ML} {st' : List Value} {h' : MH}  (X : mCx G p R s m args c0 own cc nL h0) (hok : mokB tb own ini cc C ret k (pc, .lshr, x, y, sw, a, b, c, d, e) ps = true) (hs : mst (pc, .lshr, x, y, sw, a, b, c, d, e) k ls st h ev = some (.inl (k', ls', st', h')))  (kk : mV p l e0 R s m args below meth c0 Q G nL h0 hF (mbp C k') ls' st' h') : mV p l e0 R s m args below meth c0 Q G nL h0 hF pc ls st h := by
  simp only [mokB, Bool.and_eq_true] at hok
  simp only [mst] at hs
  split at hs
  · obtain ⟨rfl, rfl, rfl, rfl⟩ := nx_inj hs
    rw [← mnx_of hok.2] at kk
    exact mv_lshr X (mdec_of hok.1) kk
  · cases hs
theorem ms_lcmp {pc : Nat} {x : Int32} {y : Int64} {sw : List (Int32 × Nat)} {a b c d e k' : Nat} {ls' : ML} {st' : List Value} {h' : MH}  (X : mCx G p R s m args c0 own cc nL h0) (hok : mokB tb own ini cc C ret k (pc, .lcmp, x, y, sw, a, b, c, d, e) ps = true) (hs : mst (pc, .lcmp, x, y, sw, a, b, c, d, e) k ls st h ev = some (.inl (k', ls', st', h')))  (kk : mV p l e0 R s m args below meth c0 Q G nL h0 hF (mbp C k') ls' st' h') : mV p l e0 R s m args below meth c0 Q G nL h0 hF pc ls st h := by
  simp only [mokB, Bool.and_eq_true] at hok
  simp only [mst] at hs
  split at hs
  · obtain ⟨rfl, rfl, rfl, rfl⟩ := nx_inj hs
    rw [← mnx_of hok.2] at kk
    exact mv_lcmp X (mdec_of hok.1) kk
  · cases hs
theorem ms_i2l {pc : Nat} {x : Int32} {y : Int64} {sw : List (Int32 × Nat)} {a b c d e k' : Nat} {ls' : ML} {st' : List Value} {h' : MH}  (X : mCx G p R s m args c0 own cc nL h0) (hok : mokB tb own ini cc C ret k (pc, .i2l, x, y, sw, a, b, c, d, e) ps = true) (hs : mst (pc, .i2l, x, y, sw, a, b, c, d, e) k ls st h ev = some (.inl (k', ls', st', h')))  (kk : mV p l e0 R s m args below meth c0 Q G nL h0 hF (mbp C k') ls' st' h') : mV p l e0 R s m args below meth c0 Q G nL h0 hF pc ls st h := by
  simp only [mokB, Bool.and_eq_true] at hok
  simp only [mst] at hs
  split at hs
  · obtain ⟨rfl, rfl, rfl, rfl⟩ := nx_inj hs
    rw [← mnx_of hok.2] at kk
    exact mv_i2l X (mdec_of hok.1) kk
  · cases hs
theorem ms_l2i {pc : Nat} {x : Int32} {y : Int64} {sw : List (Int32 × Nat)} {a b c d e k' : Nat} {ls' : ML} {st' : List Value} {h' : MH}  (X : mCx G p R s m args c0 own cc nL h0) (hok : mokB tb own ini cc C ret k (pc, .l2i, x, y, sw, a, b, c, d, e) ps = true) (hs : mst (pc, .l2i, x, y, sw, a, b, c, d, e) k ls st h ev = some (.inl (k', ls', st', h')))  (kk : mV p l e0 R s m args below meth c0 Q G nL h0 hF (mbp C k') ls' st' h') : mV p l e0 R s m args below meth c0 Q G nL h0 hF pc ls st h := by
  simp only [mokB, Bool.and_eq_true] at hok
  simp only [mst] at hs
  split at hs
  · obtain ⟨rfl, rfl, rfl, rfl⟩ := nx_inj hs
    rw [← mnx_of hok.2] at kk
    exact mv_l2i X (mdec_of hok.1) kk
  · cases hs
theorem ms_i2b {pc : Nat} {x : Int32} {y : Int64} {sw : List (Int32 × Nat)} {a b c d e k' : Nat} {ls' : ML} {st' : List Value} {h' : MH}  (X : mCx G p R s m args c0 own cc nL h0) (hok : mokB tb own ini cc C ret k (pc, .i2b, x, y, sw, a, b, c, d, e) ps = true) (hs : mst (pc, .i2b, x, y, sw, a, b, c, d, e) k ls st h ev = some (.inl (k', ls', st', h')))  (kk : mV p l e0 R s m args below meth c0 Q G nL h0 hF (mbp C k') ls' st' h') : mV p l e0 R s m args below meth c0 Q G nL h0 hF pc ls st h := by
  simp only [mokB, Bool.and_eq_true] at hok
  simp only [mst] at hs
  split at hs
  · obtain ⟨rfl, rfl, rfl, rfl⟩ := nx_inj hs
    rw [← mnx_of hok.2] at kk
    exact mv_i2b X (mdec_of hok.1) kk
  · cases hs
theorem ms_i2c {pc : Nat} {x : Int32} {y : Int64} {sw : List (Int32 × Nat)} {a b c d e k' : Nat} {ls' : ML} {st' : List Value} {h' : MH}  (X : mCx G p R s m args c0 own cc nL h0) (hok : mokB tb own ini cc C ret k (pc, .i2c, x, y, sw, a, b, c, d, e) ps = true) (hs : mst (pc, .i2c, x, y, sw, a, b, c, d, e) k ls st h ev = some (.inl (k', ls', st', h')))  (kk : mV p l e0 R s m args below meth c0 Q G nL h0 hF (mbp C k') ls' st' h') : mV p l e0 R s m args below meth c0 Q G nL h0 hF pc ls st h := by
  simp only [mokB, Bool.and_eq_true] at hok
  simp only [mst] at hs
  split at hs
  · obtain ⟨rfl, rfl, rfl, rfl⟩ := nx_inj hs
    rw [← mnx_of hok.2] at kk
    exact mv_i2c X (mdec_of hok.1) kk
  · cases hs
theorem ms_idiv {pc : Nat} {x : Int32} {y : Int64} {sw : List (Int32 × Nat)} {a b c d e k' : Nat} {ls' : ML} {st' : List Value} {h' : MH}  (X : mCx G p R s m args c0 own cc nL h0) (hok : mokB tb own ini cc C ret k (pc, .idiv, x, y, sw, a, b, c, d, e) ps = true) (hs : mst (pc, .idiv, x, y, sw, a, b, c, d, e) k ls st h ev = some (.inl (k', ls', st', h')))  (kk : mV p l e0 R s m args below meth c0 Q G nL h0 hF (mbp C k') ls' st' h') : mV p l e0 R s m args below meth c0 Q G nL h0 hF pc ls st h := by
  simp only [mokB, Bool.and_eq_true] at hok
  simp only [mst] at hs
  split at hs
  · obtain ⟨hc, hs⟩ := mck_some hs
    obtain ⟨rfl, rfl, rfl, rfl⟩ := nx_inj hs
    rw [← mnx_of hok.2] at kk
    exact mv_idiv X (mdec_of hok.1) hc kk
  · cases hs
theorem ms_irem {pc : Nat} {x : Int32} {y : Int64} {sw : List (Int32 × Nat)} {a b c d e k' : Nat} {ls' : ML} {st' : List Value} {h' : MH}  (X : mCx G p R s m args c0 own cc nL h0) (hok : mokB tb own ini cc C ret k (pc, .irem, x, y, sw, a, b, c, d, e) ps = true) (hs : mst (pc, .irem, x, y, sw, a, b, c, d, e) k ls st h ev = some (.inl (k', ls', st', h')))  (kk : mV p l e0 R s m args below meth c0 Q G nL h0 hF (mbp C k') ls' st' h') : mV p l e0 R s m args below meth c0 Q G nL h0 hF pc ls st h := by
  simp only [mokB, Bool.and_eq_true] at hok
  simp only [mst] at hs
  split at hs
  · obtain ⟨hc, hs⟩ := mck_some hs
    obtain ⟨rfl, rfl, rfl, rfl⟩ := nx_inj hs
    rw [← mnx_of hok.2] at kk
    exact mv_irem X (mdec_of hok.1) hc kk
  · cases hs
theorem ms_ldiv {pc : Nat} {x : Int32} {y : Int64} {sw : List (Int32 × Nat)} {a b c d e k' : Nat} {ls' : ML} {st' : List Value} {h' : MH}  (X : mCx G p R s m args c0 own cc nL h0) (hok : mokB tb own ini cc C ret k (pc, .ldiv, x, y, sw, a, b, c, d, e) ps = true) (hs : mst (pc, .ldiv, x, y, sw, a, b, c, d, e) k ls st h ev = some (.inl (k', ls', st', h')))  (kk : mV p l e0 R s m args below meth c0 Q G nL h0 hF (mbp C k') ls' st' h') : mV p l e0 R s m args below meth c0 Q G nL h0 hF pc ls st h := by
  simp only [mokB, Bool.and_eq_true] at hok
  simp only [mst] at hs
  split at hs
  · obtain ⟨hc, hs⟩ := mck_some hs
    obtain ⟨rfl, rfl, rfl, rfl⟩ := nx_inj hs
    rw [← mnx_of hok.2] at kk
    exact mv_ldiv X (mdec_of hok.1) hc kk
  · cases hs
theorem ms_lrem {pc : Nat} {x : Int32} {y : Int64} {sw : List (Int32 × Nat)} {a b c d e k' : Nat} {ls' : ML} {st' : List Value} {h' : MH}  (X : mCx G p R s m args c0 own cc nL h0) (hok : mokB tb own ini cc C ret k (pc, .lrem, x, y, sw, a, b, c, d, e) ps = true) (hs : mst (pc, .lrem, x, y, sw, a, b, c, d, e) k ls st h ev = some (.inl (k', ls', st', h')))  (kk : mV p l e0 R s m args below meth c0 Q G nL h0 hF (mbp C k') ls' st' h') : mV p l e0 R s m args below meth c0 Q G nL h0 hF pc ls st h := by
  simp only [mokB, Bool.and_eq_true] at hok
  simp only [mst] at hs
  split at hs
  · obtain ⟨hc, hs⟩ := mck_some hs
    obtain ⟨rfl, rfl, rfl, rfl⟩ := nx_inj hs
    rw [← mnx_of hok.2] at kk
    exact mv_lrem X (mdec_of hok.1) hc kk
  · cases hs
theorem ms_dup {pc : Nat} {x : Int32} {y : Int64} {sw : List (Int32 × Nat)} {a b c d e k' : Nat} {ls' : ML} {st' : List Value} {h' : MH}  (X : mCx G p R s m args c0 own cc nL h0) (hok : mokB tb own ini cc C ret k (pc, .dup, x, y, sw, a, b, c, d, e) ps = true) (hs : mst (pc, .dup, x, y, sw, a, b, c, d, e) k ls st h ev = some (.inl (k', ls', st', h')))  (kk : mV p l e0 R s m args below meth c0 Q G nL h0 hF (mbp C k') ls' st' h') : mV p l e0 R s m args below meth c0 Q G nL h0 hF pc ls st h := by
  simp only [mokB, Bool.and_eq_true] at hok
  simp only [mst] at hs
  split at hs
  · obtain ⟨rfl, rfl, rfl, rfl⟩ := nx_inj hs
    rw [← mnx_of hok.2] at kk
    exact mv_dup X (mdec_of hok.1) rfl kk
  · obtain ⟨rfl, rfl, rfl, rfl⟩ := nx_inj hs
    rw [← mnx_of hok.2] at kk
    exact mv_dup X (mdec_of hok.1) rfl kk
  · cases hs
theorem ms_dup2 {pc : Nat} {x : Int32} {y : Int64} {sw : List (Int32 × Nat)} {a b c d e k' : Nat} {ls' : ML} {st' : List Value} {h' : MH}  (X : mCx G p R s m args c0 own cc nL h0) (hok : mokB tb own ini cc C ret k (pc, .dup2, x, y, sw, a, b, c, d, e) ps = true) (hs : mst (pc, .dup2, x, y, sw, a, b, c, d, e) k ls st h ev = some (.inl (k', ls', st', h')))  (kk : mV p l e0 R s m args below meth c0 Q G nL h0 hF (mbp C k') ls' st' h') : mV p l e0 R s m args below meth c0 Q G nL h0 hF pc ls st h := by
  simp only [mokB, Bool.and_eq_true] at hok
  simp only [mst] at hs
  split at hs
  · obtain ⟨rfl, rfl, rfl, rfl⟩ := nx_inj hs
    rw [← mnx_of hok.2] at kk
    exact mv_dup2 X (mdec_of hok.1) rfl rfl kk
  · obtain ⟨rfl, rfl, rfl, rfl⟩ := nx_inj hs
    rw [← mnx_of hok.2] at kk
    exact mv_dup2 X (mdec_of hok.1) rfl rfl kk
  · cases hs
theorem ms_dup_x1 {pc : Nat} {x : Int32} {y : Int64} {sw : List (Int32 × Nat)} {a b c d e k' : Nat} {ls' : ML} {st' : List Value} {h' : MH}  (X : mCx G p R s m args c0 own cc nL h0) (hok : mokB tb own ini cc C ret k (pc, .dup_x1, x, y, sw, a, b, c, d, e) ps = true) (hs : mst (pc, .dup_x1, x, y, sw, a, b, c, d, e) k ls st h ev = some (.inl (k', ls', st', h')))  (kk : mV p l e0 R s m args below meth c0 Q G nL h0 hF (mbp C k') ls' st' h') : mV p l e0 R s m args below meth c0 Q G nL h0 hF pc ls st h := by
  simp only [mokB, Bool.and_eq_true] at hok
  simp only [mst] at hs
  split at hs
  · obtain ⟨rfl, rfl, rfl, rfl⟩ := nx_inj hs
    rw [← mnx_of hok.2] at kk
    exact mv_dup_x1 X (mdec_of hok.1) rfl rfl kk
  · cases hs
theorem ms_dup_x2 {pc : Nat} {x : Int32} {y : Int64} {sw : List (Int32 × Nat)} {a b c d e k' : Nat} {ls' : ML} {st' : List Value} {h' : MH}  (X : mCx G p R s m args c0 own cc nL h0) (hok : mokB tb own ini cc C ret k (pc, .dup_x2, x, y, sw, a, b, c, d, e) ps = true) (hs : mst (pc, .dup_x2, x, y, sw, a, b, c, d, e) k ls st h ev = some (.inl (k', ls', st', h')))  (kk : mV p l e0 R s m args below meth c0 Q G nL h0 hF (mbp C k') ls' st' h') : mV p l e0 R s m args below meth c0 Q G nL h0 hF pc ls st h := by
  simp only [mokB, Bool.and_eq_true] at hok
  simp only [mst] at hs
  split at hs
  · obtain ⟨rfl, rfl, rfl, rfl⟩ := nx_inj hs
    rw [← mnx_of hok.2] at kk
    exact mv_dup_x2 X (mdec_of hok.1) rfl rfl rfl kk
  · cases hs
theorem ms_pop {pc : Nat} {x : Int32} {y : Int64} {sw : List (Int32 × Nat)} {a b c d e k' : Nat} {ls' : ML} {st' : List Value} {h' : MH}  (X : mCx G p R s m args c0 own cc nL h0) (hok : mokB tb own ini cc C ret k (pc, .pop, x, y, sw, a, b, c, d, e) ps = true) (hs : mst (pc, .pop, x, y, sw, a, b, c, d, e) k ls st h ev = some (.inl (k', ls', st', h')))  (kk : mV p l e0 R s m args below meth c0 Q G nL h0 hF (mbp C k') ls' st' h') : mV p l e0 R s m args below meth c0 Q G nL h0 hF pc ls st h := by
  simp only [mokB, Bool.and_eq_true] at hok
  simp only [mst] at hs
  split at hs
  · obtain ⟨rfl, rfl, rfl, rfl⟩ := nx_inj hs
    rw [← mnx_of hok.2] at kk
    exact mv_pop X (mdec_of hok.1) rfl kk
  · obtain ⟨rfl, rfl, rfl, rfl⟩ := nx_inj hs
    rw [← mnx_of hok.2] at kk
    exact mv_pop X (mdec_of hok.1) rfl kk
  · cases hs
theorem ms_goto {pc : Nat} {x : Int32} {y : Int64} {sw : List (Int32 × Nat)} {a b c d e k' : Nat} {ls' : ML} {st' : List Value} {h' : MH} {o : Int} (X : mCx G p R s m args c0 own cc nL h0) (hok : mokB tb own ini cc C ret k (pc, .goto o, x, y, sw, a, b, c, d, e) ps = true) (hs : mst (pc, .goto o, x, y, sw, a, b, c, d, e) k ls st h ev = some (.inl (k', ls', st', h')))  (kk : mV p l e0 R s m args below meth c0 Q G nL h0 hF (mbp C k') ls' st' h') : mV p l e0 R s m args below meth c0 Q G nL h0 hF pc ls st h := by
  simp only [mokB, Bool.and_eq_true] at hok
  simp only [mst] at hs
  obtain ⟨rfl, rfl, rfl, rfl⟩ := nx_inj hs
  exact mv_goto X (mdec_of hok.1) (mto_of hok.2) kk
theorem ms_ifCond {pc : Nat} {x : Int32} {y : Int64} {sw : List (Int32 × Nat)} {a b c d e k' : Nat} {ls' : ML} {st' : List Value} {h' : MH} {cn : ClassFile.Cond} {o : Int} (X : mCx G p R s m args c0 own cc nL h0) (hok : mokB tb own ini cc C ret k (pc, .ifCond cn o, x, y, sw, a, b, c, d, e) ps = true) (hs : mst (pc, .ifCond cn o, x, y, sw, a, b, c, d, e) k ls st h ev = some (.inl (k', ls', st', h')))  (kk : mV p l e0 R s m args below meth c0 Q G nL h0 hF (mbp C k') ls' st' h') : mV p l e0 R s m args below meth c0 Q G nL h0 hF pc ls st h := by
  simp only [mokB, Bool.and_eq_true] at hok
  have hd := mdec_of hok.1.1
  have ht := mto_of hok.2
  have hn := mnx_of hok.1.2
  simp only [mst] at hs
  split at hs
  · split at hs
    · obtain ⟨hc, rfl, rfl, rfl⟩ := mbr_some hs
      have g := mbr_go (P := fun j => mV p l e0 R s m args below meth c0 Q G nL h0 hF (mbp C j) ls _ h) hc kk
      exact mv_if_eq X hd ht g.1 (fun q => by rw [hn]; exact g.2 q)
    · obtain ⟨hc, rfl, rfl, rfl⟩ := mbr_some hs
      have g := mbr_go (P := fun j => mV p l e0 R s m args below meth c0 Q G nL h0 hF (mbp C j) ls _ h) hc kk
      exact mv_if_ne X hd ht (fun q => g.2 q) (fun q => by rw [hn]; exact g.1 q)
    · obtain ⟨hc, rfl, rfl, rfl⟩ := mbr_some hs
      have g := mbr_go (P := fun j => mV p l e0 R s m args below meth c0 Q G nL h0 hF (mbp C j) ls _ h) hc kk
      exact mv_if_lt X hd ht g.1 (fun q => by rw [hn]; exact g.2 q)
    · obtain ⟨hc, rfl, rfl, rfl⟩ := mbr_some hs
      have g := mbr_go (P := fun j => mV p l e0 R s m args below meth c0 Q G nL h0 hF (mbp C j) ls _ h) hc kk
      exact mv_if_ge X hd ht (fun q => g.2 (Int32.not_lt.mpr q)) (fun q => by rw [hn]; exact g.1 (Int32.not_le.mp q))
    · obtain ⟨hc, rfl, rfl, rfl⟩ := mbr_some hs
      have g := mbr_go (P := fun j => mV p l e0 R s m args below meth c0 Q G nL h0 hF (mbp C j) ls _ h) hc kk
      exact mv_if_le X hd ht g.1 (fun q => by rw [hn]; exact g.2 q)
    · obtain ⟨hc, rfl, rfl, rfl⟩ := mbr_some hs
      have g := mbr_go (P := fun j => mV p l e0 R s m args below meth c0 Q G nL h0 hF (mbp C j) ls _ h) hc kk
      exact mv_if_gt X hd ht (fun q => g.2 (Int32.not_le.mpr q)) (fun q => by rw [hn]; exact g.1 (Int32.not_lt.mp q))
  · cases hs
theorem ms_if_icmp {pc : Nat} {x : Int32} {y : Int64} {sw : List (Int32 × Nat)} {a b c d e k' : Nat} {ls' : ML} {st' : List Value} {h' : MH} {cn : ClassFile.Cond} {o : Int} (X : mCx G p R s m args c0 own cc nL h0) (hok : mokB tb own ini cc C ret k (pc, .if_icmp cn o, x, y, sw, a, b, c, d, e) ps = true) (hs : mst (pc, .if_icmp cn o, x, y, sw, a, b, c, d, e) k ls st h ev = some (.inl (k', ls', st', h')))  (kk : mV p l e0 R s m args below meth c0 Q G nL h0 hF (mbp C k') ls' st' h') : mV p l e0 R s m args below meth c0 Q G nL h0 hF pc ls st h := by
  simp only [mokB, Bool.and_eq_true] at hok
  have hd := mdec_of hok.1.1
  have ht := mto_of hok.2
  have hn := mnx_of hok.1.2
  simp only [mst] at hs
  split at hs
  · split at hs
    · obtain ⟨hc, rfl, rfl, rfl⟩ := mbr_some hs
      have g := mbr_go (P := fun j => mV p l e0 R s m args below meth c0 Q G nL h0 hF (mbp C j) ls _ h) hc kk
      exact mv_icmp_eq X hd ht g.1 (fun q => by rw [hn]; exact g.2 q)
    · obtain ⟨hc, rfl, rfl, rfl⟩ := mbr_some hs
      have g := mbr_go (P := fun j => mV p l e0 R s m args below meth c0 Q G nL h0 hF (mbp C j) ls _ h) hc kk
      exact mv_icmp_ne X hd ht (fun q => g.2 q) (fun q => by rw [hn]; exact g.1 q)
    · obtain ⟨hc, rfl, rfl, rfl⟩ := mbr_some hs
      have g := mbr_go (P := fun j => mV p l e0 R s m args below meth c0 Q G nL h0 hF (mbp C j) ls _ h) hc kk
      exact mv_icmp_lt X hd ht g.1 (fun q => by rw [hn]; exact g.2 q)
    · obtain ⟨hc, rfl, rfl, rfl⟩ := mbr_some hs
      have g := mbr_go (P := fun j => mV p l e0 R s m args below meth c0 Q G nL h0 hF (mbp C j) ls _ h) hc kk
      exact mv_icmp_ge X hd ht (fun q => g.2 (Int32.not_lt.mpr q)) (fun q => by rw [hn]; exact g.1 (Int32.not_le.mp q))
    · obtain ⟨hc, rfl, rfl, rfl⟩ := mbr_some hs
      have g := mbr_go (P := fun j => mV p l e0 R s m args below meth c0 Q G nL h0 hF (mbp C j) ls _ h) hc kk
      exact mv_icmp_le X hd ht g.1 (fun q => by rw [hn]; exact g.2 q)
    · obtain ⟨hc, rfl, rfl, rfl⟩ := mbr_some hs
      have g := mbr_go (P := fun j => mV p l e0 R s m args below meth c0 Q G nL h0 hF (mbp C j) ls _ h) hc kk
      exact mv_icmp_gt X hd ht (fun q => g.2 (Int32.not_le.mpr q)) (fun q => by rw [hn]; exact g.1 (Int32.not_lt.mp q))
  · cases hs
theorem ms_ifnull {pc : Nat} {x : Int32} {y : Int64} {sw : List (Int32 × Nat)} {a b c d e k' : Nat} {ls' : ML} {st' : List Value} {h' : MH} {o : Int} (X : mCx G p R s m args c0 own cc nL h0) (hok : mokB tb own ini cc C ret k (pc, .ifnull o, x, y, sw, a, b, c, d, e) ps = true) (hs : mst (pc, .ifnull o, x, y, sw, a, b, c, d, e) k ls st h ev = some (.inl (k', ls', st', h')))  (kk : mV p l e0 R s m args below meth c0 Q G nL h0 hF (mbp C k') ls' st' h') : mV p l e0 R s m args below meth c0 Q G nL h0 hF pc ls st h := by
  simp only [mokB, Bool.and_eq_true] at hok
  have hn := mnx_of hok.1.2
  simp only [mst] at hs
  split at hs
  · obtain ⟨hc, rfl, rfl, rfl⟩ := mbr_some hs
    have g := mbr_go (P := fun j => mV p l e0 R s m args below meth c0 Q G nL h0 hF (mbp C j) ls _ h) hc kk
    exact mv_ifnull X (mdec_of hok.1.1) (mto_of hok.2) g.1 (fun q => by rw [hn]; exact g.2 q)
  · cases hs
theorem ms_ifnonnull {pc : Nat} {x : Int32} {y : Int64} {sw : List (Int32 × Nat)} {a b c d e k' : Nat} {ls' : ML} {st' : List Value} {h' : MH} {o : Int} (X : mCx G p R s m args c0 own cc nL h0) (hok : mokB tb own ini cc C ret k (pc, .ifnonnull o, x, y, sw, a, b, c, d, e) ps = true) (hs : mst (pc, .ifnonnull o, x, y, sw, a, b, c, d, e) k ls st h ev = some (.inl (k', ls', st', h')))  (kk : mV p l e0 R s m args below meth c0 Q G nL h0 hF (mbp C k') ls' st' h') : mV p l e0 R s m args below meth c0 Q G nL h0 hF pc ls st h := by
  simp only [mokB, Bool.and_eq_true] at hok
  have hn := mnx_of hok.1.2
  simp only [mst] at hs
  split at hs
  · obtain ⟨hc, rfl, rfl, rfl⟩ := mbr_some hs
    have g := mbr_go (P := fun j => mV p l e0 R s m args below meth c0 Q G nL h0 hF (mbp C j) ls _ h) hc kk
    exact mv_ifnonnull X (mdec_of hok.1.1) (mto_of hok.2) g.2 (fun q => by rw [hn]; exact g.1 q)
  · cases hs
theorem ms_tableswitch {pc : Nat} {x : Int32} {y : Int64} {sw : List (Int32 × Nat)} {a b c d e k' : Nat} {ls' : ML} {st' : List Value} {h' : MH} {df lo hi : Int} {os : Array Int} (X : mCx G p R s m args c0 own cc nL h0) (hok : mokB tb own ini cc C ret k (pc, .tableswitch df lo hi os, x, y, sw, a, b, c, d, e) ps = true) (hs : mst (pc, .tableswitch df lo hi os, x, y, sw, a, b, c, d, e) k ls st h ev = some (.inl (k', ls', st', h')))  (kk : mV p l e0 R s m args below meth c0 Q G nL h0 hF (mbp C k') ls' st' h') : mV p l e0 R s m args below meth c0 Q G nL h0 hF pc ls st h := by
  simp only [mokB, Bool.and_eq_true, decide_eq_true_eq] at hok
  simp only [mst] at hs
  split at hs
  · obtain ⟨rfl, rfl, rfl, rfl⟩ := nx_inj hs
    exact mv_table X (mdec_of hok.1.1.1) hok.1.1.2 hok.1.2 (mto_of hok.2) kk
  · cases hs
theorem ms_lookupswitch {pc : Nat} {x : Int32} {y : Int64} {sw : List (Int32 × Nat)} {a b c d e k' : Nat} {ls' : ML} {st' : List Value} {h' : MH} {df : Int} {os : Array (Int × Int)} (X : mCx G p R s m args c0 own cc nL h0) (hok : mokB tb own ini cc C ret k (pc, .lookupswitch df os, x, y, sw, a, b, c, d, e) ps = true) (hs : mst (pc, .lookupswitch df os, x, y, sw, a, b, c, d, e) k ls st h ev = some (.inl (k', ls', st', h')))  (kk : mV p l e0 R s m args below meth c0 Q G nL h0 hF (mbp C k') ls' st' h') : mV p l e0 R s m args below meth c0 Q G nL h0 hF pc ls st h := by
  simp only [mokB, Bool.and_eq_true] at hok
  simp only [mst] at hs
  split at hs
  · obtain ⟨rfl, rfl, rfl, rfl⟩ := nx_inj hs
    exact mv_lookup X (mdec_of hok.1.1.1) hok.1.2 hok.1.1.2 (mto_of hok.2) kk
  · cases hs
theorem ms_getfield {pc : Nat} {x : Int32} {y : Int64} {sw : List (Int32 × Nat)} {a b c d e k' : Nat} {ls' : ML} {st' : List Value} {h' : MH} {n : Nat} (X : mCx G p R s m args c0 own cc nL h0) (hok : mokB tb own ini cc C ret k (pc, .getfield n, x, y, sw, a, b, c, d, e) ps = true) (hs : mst (pc, .getfield n, x, y, sw, a, b, c, d, e) k ls st h ev = some (.inl (k', ls', st', h')))  (kk : mV p l e0 R s m args below meth c0 Q G nL h0 hF (mbp C k') ls' st' h') : mV p l e0 R s m args below meth c0 Q G nL h0 hF pc ls st h := by
  simp only [mokB, Bool.and_eq_true] at hok
  have hd := mdec_of hok.1.1
  have hn := mnx_of hok.1.2
  have h2 := hok.2
  simp only [mst] at hs
  split at hs
  · obtain ⟨hc, hs⟩ := mck_some hs
    obtain ⟨rfl, rfl, rfl, rfl⟩ := nx_inj hs
    rw [← hn] at kk
    split at h2
    · rename_i q hq
      simp only [Bool.and_eq_true, decide_eq_true_eq, Nat.blt_eq] at h2
      exact mv_get X hd hq h2.1.1 h2.1.2 (mtW_in h2.2) hc kk
    · simp only [Bool.and_eq_true, Bool.or_eq_true] at h2
      have ea := Nat.eq_of_beq_eq_true h2.1
      subst ea
      rcases h2.2 with q | q
      · have eb := Nat.eq_of_beq_eq_true q.1.1
        have ec := Nat.eq_of_beq_eq_true q.1.2
        subst eb; subst ec
        exact mv_getSv X hd (mtW_in q.2) hc kk
      · have eb := Nat.eq_of_beq_eq_true q.1.1
        have ec := Nat.eq_of_beq_eq_true q.1.2
        subst eb; subst ec
        exact mv_getSc X hd (mtW_in q.2) hc kk
  · cases hs
theorem ms_putfield {pc : Nat} {x : Int32} {y : Int64} {sw : List (Int32 × Nat)} {a b c d e k' : Nat} {ls' : ML} {st' : List Value} {h' : MH} {n : Nat} (X : mCx G p R s m args c0 own cc nL h0) (hok : mokB tb own ini cc C ret k (pc, .putfield n, x, y, sw, a, b, c, d, e) ps = true) (hs : mst (pc, .putfield n, x, y, sw, a, b, c, d, e) k ls st h ev = some (.inl (k', ls', st', h'))) (hini : ini = true → meth.name = "<init>") (kk : mV p l e0 R s m args below meth c0 Q G nL h0 hF (mbp C k') ls' st' h') : mV p l e0 R s m args below meth c0 Q G nL h0 hF pc ls st h := by
  simp only [mokB, Bool.and_eq_true] at hok
  have hd := mdec_of hok.1.1
  have hn := mnx_of hok.1.2
  have h2 := hok.2
  split at h2
  · rename_i q hq
    simp only [Bool.and_eq_true, decide_eq_true_eq, Nat.blt_eq] at h2
    obtain ⟨⟨⟨⟨g1, g2⟩, g3⟩, g4⟩, g5⟩ := h2
    have g3 := mtW_in g3
    have hbk : b < (mfk a).length := (List.getElem?_eq_some_iff.mp g2).1
    have hc12 := (mcls_at hq).2
    have hfi : (q.2.1 b).2.2.2 = false ∨ ((q.2.1 b).2.2.2 = true ∧ meth.name = "<init>" ∧ (q.2.1 b).1 = own) := by
      unfold mfi at g4
      split at g4
      · rename_i z; exact Or.inl z
      · rename_i z
        simp only [Bool.and_eq_true, decide_eq_true_eq] at g4
        exact Or.inr ⟨z, hini g4.1, g4.2⟩
    cases hty : parseFieldDescriptor (q.2.1 b).2.2.1 with
    | none => rw [hty] at g5; simp [mtyo] at g5
    | some ty =>
      rw [hty] at g5
      simp only [mst] at hs
      split at hs
      · split at hs
        · rename_i v r st2
          obtain ⟨hc, hs⟩ := mck_some hs
          obtain ⟨rfl, rfl, rfl, rfl⟩ := nx_inj hs
          rw [← hn] at kk
          have et : ty = .int := by cases ty <;> simp [mtyo] at g5 ⊢
          subst et
          exact mv_put (h1 := sI h r b v) X hd hq g1 hbk g3 hfi hty rfl rfl hc rfl rfl (fun z w => mwf_rI w z _) (by rw [ment_obj (by exact hc) hc12, mfs_sI g2 (Or.inl rfl)]; rfl) (fun z hz => ment_rI hz) kk
        · cases hs
      · split at hs
        · rename_i v r st2
          obtain ⟨hc, hs⟩ := mck_some hs
          obtain ⟨rfl, rfl, rfl, rfl⟩ := nx_inj hs
          rw [← hn] at kk
          have et : ty = .long := by cases ty <;> simp [mtyo] at g5 ⊢
          subst et
          exact mv_put (h1 := sL h r b v) X hd hq g1 hbk g3 hfi hty rfl rfl hc rfl rfl (fun z w => mwf_rL w _) (by rw [ment_obj (by exact hc) hc12, mfs_sL g2]; rfl) (fun z hz => ment_rL hz) kk
        · cases hs
      · split at hs
        · rename_i v r st2
          obtain ⟨hc, hs⟩ := mck_some hs
          obtain ⟨rfl, rfl, rfl, rfl⟩ := nx_inj hs
          rw [← hn] at kk
          have hnf : narrow ty (mtr G (.ref v)) = mtr G (.ref v) ∧ fits ty (mtr G (.ref v)) = true := by
            by_cases hv : v = 0
            · subst hv
              rw [mtr_null]
              cases ty <;> first | (simp [mtyo] at g5; done) | exact ⟨rfl, rfl⟩
            · rw [mtr_pos hv]
              cases ty <;> first | (simp [mtyo] at g5; done) | exact ⟨rfl, rfl⟩
          exact mv_put (h1 := sR h r b v) X hd hq g1 hbk g3 hfi hty hnf.1 hnf.2 hc rfl rfl (fun z w => mwf_rR w z _) (by rw [ment_obj (by exact hc) hc12, mfs_sR g2]) (fun z hz => ment_rR hz) kk
        · cases hs
      · rename_i z0 z1 z2
        split at hs
        · rename_i v r st2
          obtain ⟨hc, hs⟩ := mck_some hs
          obtain ⟨rfl, rfl, rfl, rfl⟩ := nx_inj hs
          rw [← hn] at kk
          have et : ty = .boolean ∧ c = 3 := by
            cases ty <;> first | (exfalso; simp [mtyo] at g5; done) | (simp [mtyo] at g5; first | exact absurd g5 z0 | exact absurd g5 z1 | exact absurd g5 z2 | exact ⟨rfl, g5⟩)
          obtain ⟨rfl, rfl⟩ := et
          have hnf : narrow .boolean (.int v) = .int v ∧ fits .boolean (.int v) = true := by
            rcases hc.2 with rfl | rfl <;> exact ⟨by decide +kernel, by decide +kernel⟩
          exact mv_put (h1 := sI h r b v) X hd hq g1 hbk g3 hfi hty hnf.1 hnf.2 hc.1 rfl rfl (fun z w => mwf_rI w z _) (by rw [ment_obj (by exact hc.1) hc12, mfs_sI g2 (Or.inr rfl)]; rfl) (fun z hz => ment_rI hz) kk
        · cases hs
  · cases h2
theorem ms_getstatic {pc : Nat} {x : Int32} {y : Int64} {sw : List (Int32 × Nat)} {a b c d e k' : Nat} {ls' : ML} {st' : List Value} {h' : MH} {n : Nat} (X : mCx G p R s m args c0 own cc nL h0) (hok : mokB tb own ini cc C ret k (pc, .getstatic n, x, y, sw, a, b, c, d, e) ps = true) (hs : mst (pc, .getstatic n, x, y, sw, a, b, c, d, e) k ls st h ev = some (.inl (k', ls', st', h')))  (kk : mV p l e0 R s m args below meth c0 Q G nL h0 hF (mbp C k') ls' st' h') : mV p l e0 R s m args below meth c0 Q G nL h0 hF pc ls st h := by
  simp only [mokB, Bool.and_eq_true] at hok
  have hd := mdec_of hok.1.1
  have hn := mnx_of hok.1.2
  have h2 := hok.2
  simp only [mst] at hs
  split at hs
  · obtain ⟨rfl, rfl, rfl, rfl⟩ := nx_inj hs
    rw [← hn] at kk
    obtain ⟨z, hz, h3⟩ := List.any_eq_true.mp h2
    simp only [Bool.and_eq_true, Bool.or_eq_true, Nat.blt_eq] at h3
    exact mv_gets X hd hz (Nat.eq_of_beq_eq_true h3.1.1.1) ⟨h3.1.1.2, h3.1.2⟩ (h3.2.imp mtW_in (fun q => ⟨_, mtW_in q⟩)) kk
  · obtain ⟨rfl, rfl, rfl, rfl⟩ := nx_inj hs
    rw [← hn] at kk
    obtain ⟨z, hz, h3⟩ := List.any_eq_true.mp h2
    simp only [Bool.and_eq_true, decide_eq_true_eq] at h3
    exact mv_getsI X hd hz h3.1 (mtW_in h3.2) kk
  · rename_i hb1 hb2
    obtain ⟨rfl, rfl, rfl, rfl⟩ := nx_inj hs
    rw [← hn] at kk
    split at h2
    · exact absurd rfl hb1
    · exact absurd rfl hb2
    · exact mv_getsF X hd (mtW_in h2) kk
theorem ms_new {pc : Nat} {x : Int32} {y : Int64} {sw : List (Int32 × Nat)} {a b c d e k' : Nat} {ls' : ML} {st' : List Value} {h' : MH} {n : Nat} (X : mCx G p R s m args c0 own cc nL h0) (hok : mokB tb own ini cc C ret k (pc, .new n, x, y, sw, a, b, c, d, e) ps = true) (hs : mst (pc, .new n, x, y, sw, a, b, c, d, e) k ls st h ev = some (.inl (k', ls', st', h'))) (hr : mN h' ≤ mN h0 + R.cells ∧ mS h' ≤ mS h0 + R.slots) (kk : mV p l e0 R s m args below meth c0 Q G nL h0 hF (mbp C k') ls' st' h') : mV p l e0 R s m args below meth c0 Q G nL h0 hF pc ls st h := by
  simp only [mokB, Bool.and_eq_true] at hok
  have hn := mnx_of hok.1.2
  have h2 := hok.2
  simp only [mst] at hs
  obtain ⟨rfl, rfl, rfl, rfl⟩ := nx_inj hs
  rw [← hn] at kk
  split at h2
  · rename_i q hq
    simp only [Bool.and_eq_true] at h2
    exact mv_new X (mdec_of hok.1.1) hq (Nat.eq_of_beq_eq_true h2.1.1.1) (mtW_in h2.1.1.2) (mtW_in h2.1.2) (mtW_in h2.2) hr kk
  · cases h2
theorem ms_newarray {pc : Nat} {x : Int32} {y : Int64} {sw : List (Int32 × Nat)} {a b c d e k' : Nat} {ls' : ML} {st' : List Value} {h' : MH} {t : ArrayType} (X : mCx G p R s m args c0 own cc nL h0) (hok : mokB tb own ini cc C ret k (pc, .newarray t, x, y, sw, a, b, c, d, e) ps = true) (hs : mst (pc, .newarray t, x, y, sw, a, b, c, d, e) k ls st h ev = some (.inl (k', ls', st', h'))) (hr : mN h' ≤ mN h0 + R.cells ∧ mS h' ≤ mS h0 + R.slots) (kk : mV p l e0 R s m args below meth c0 Q G nL h0 hF (mbp C k') ls' st' h') : mV p l e0 R s m args below meth c0 Q G nL h0 hF pc ls st h := by
  simp only [mokB, Bool.and_eq_true] at hok
  have hn := mnx_of hok.1.1.2
  simp only [mst] at hs
  split at hs
  · obtain ⟨hc, hs⟩ := mck_some hs
    obtain ⟨rfl, rfl, rfl, rfl⟩ := nx_inj hs
    rw [← hn] at kk
    refine mv_newa X (mdec_of hok.1.1.1) ?_ (mtW_in hok.2) hc hr kk
    have h3 := hok.1.2
    cases t <;> simp [mat] at h3 ⊢ <;> exact h3
  · cases hs
theorem ms_anewarray {pc : Nat} {x : Int32} {y : Int64} {sw : List (Int32 × Nat)} {a b c d e k' : Nat} {ls' : ML} {st' : List Value} {h' : MH} {n : Nat} (X : mCx G p R s m args c0 own cc nL h0) (hok : mokB tb own ini cc C ret k (pc, .anewarray n, x, y, sw, a, b, c, d, e) ps = true) (hs : mst (pc, .anewarray n, x, y, sw, a, b, c, d, e) k ls st h ev = some (.inl (k', ls', st', h'))) (hr : mN h' ≤ mN h0 + R.cells ∧ mS h' ≤ mS h0 + R.slots) (kk : mV p l e0 R s m args below meth c0 Q G nL h0 hF (mbp C k') ls' st' h') : mV p l e0 R s m args below meth c0 Q G nL h0 hF pc ls st h := by
  simp only [mokB, Bool.and_eq_true] at hok
  have hn := mnx_of hok.1.2
  simp only [mst] at hs
  split at hs
  · obtain ⟨hc, hs⟩ := mck_some hs
    obtain ⟨rfl, rfl, rfl, rfl⟩ := nx_inj hs
    rw [← hn] at kk
    exact mv_anewa X (mdec_of hok.1.1) (mtW_in hok.2) hc hr kk
  · cases hs
theorem ms_arraylength {pc : Nat} {x : Int32} {y : Int64} {sw : List (Int32 × Nat)} {a b c d e k' : Nat} {ls' : ML} {st' : List Value} {h' : MH}  (X : mCx G p R s m args c0 own cc nL h0) (hok : mokB tb own ini cc C ret k (pc, .arraylength, x, y, sw, a, b, c, d, e) ps = true) (hs : mst (pc, .arraylength, x, y, sw, a, b, c, d, e) k ls st h ev = some (.inl (k', ls', st', h')))  (kk : mV p l e0 R s m args below meth c0 Q G nL h0 hF (mbp C k') ls' st' h') : mV p l e0 R s m args below meth c0 Q G nL h0 hF pc ls st h := by
  simp only [mokB, Bool.and_eq_true] at hok
  simp only [mst] at hs
  split at hs
  · obtain ⟨hc, hs⟩ := mck_some hs
    obtain ⟨rfl, rfl, rfl, rfl⟩ := nx_inj hs
    rw [← mnx_of hok.2] at kk
    exact mv_alen X (mdec_of hok.1) hc kk
  · cases hs
theorem ms_iaload {pc : Nat} {x : Int32} {y : Int64} {sw : List (Int32 × Nat)} {a b c d e k' : Nat} {ls' : ML} {st' : List Value} {h' : MH}  (X : mCx G p R s m args c0 own cc nL h0) (hok : mokB tb own ini cc C ret k (pc, .iaload, x, y, sw, a, b, c, d, e) ps = true) (hs : mst (pc, .iaload, x, y, sw, a, b, c, d, e) k ls st h ev = some (.inl (k', ls', st', h')))  (kk : mV p l e0 R s m args below meth c0 Q G nL h0 hF (mbp C k') ls' st' h') : mV p l e0 R s m args below meth c0 Q G nL h0 hF pc ls st h := by
  simp only [mokB, Bool.and_eq_true] at hok
  simp only [mst] at hs
  split at hs
  · obtain ⟨hc, hs⟩ := mck_some hs
    obtain ⟨rfl, rfl, rfl, rfl⟩ := nx_inj hs
    rw [← mnx_of hok.2] at kk
    exact mv_iald X (mdec_of hok.1) hc.1 hc.2 kk
  · cases hs
theorem ms_iastore {pc : Nat} {x : Int32} {y : Int64} {sw : List (Int32 × Nat)} {a b c d e k' : Nat} {ls' : ML} {st' : List Value} {h' : MH}  (X : mCx G p R s m args c0 own cc nL h0) (hok : mokB tb own ini cc C ret k (pc, .iastore, x, y, sw, a, b, c, d, e) ps = true) (hs : mst (pc, .iastore, x, y, sw, a, b, c, d, e) k ls st h ev = some (.inl (k', ls', st', h')))  (kk : mV p l e0 R s m args below meth c0 Q G nL h0 hF (mbp C k') ls' st' h') : mV p l e0 R s m args below meth c0 Q G nL h0 hF pc ls st h := by
  simp only [mokB, Bool.and_eq_true] at hok
  simp only [mst] at hs
  split at hs
  · obtain ⟨hc, hs⟩ := mck_some hs
    obtain ⟨rfl, rfl, rfl, rfl⟩ := nx_inj hs
    rw [← mnx_of hok.2] at kk
    exact mv_iast X (mdec_of hok.1) hc.1 hc.2 kk
  · cases hs
theorem ms_laload {pc : Nat} {x : Int32} {y : Int64} {sw : List (Int32 × Nat)} {a b c d e k' : Nat} {ls' : ML} {st' : List Value} {h' : MH}  (X : mCx G p R s m args c0 own cc nL h0) (hok : mokB tb own ini cc C ret k (pc, .laload, x, y, sw, a, b, c, d, e) ps = true) (hs : mst (pc, .laload, x, y, sw, a, b, c, d, e) k ls st h ev = some (.inl (k', ls', st', h')))  (kk : mV p l e0 R s m args below meth c0 Q G nL h0 hF (mbp C k') ls' st' h') : mV p l e0 R s m args below meth c0 Q G nL h0 hF pc ls st h := by
  simp only [mokB, Bool.and_eq_true] at hok
  simp only [mst] at hs
  split at hs
  · obtain ⟨hc, hs⟩ := mck_some hs
    obtain ⟨rfl, rfl, rfl, rfl⟩ := nx_inj hs
    rw [← mnx_of hok.2] at kk
    exact mv_lald X (mdec_of hok.1) hc.1 hc.2 kk
  · cases hs
theorem ms_lastore {pc : Nat} {x : Int32} {y : Int64} {sw : List (Int32 × Nat)} {a b c d e k' : Nat} {ls' : ML} {st' : List Value} {h' : MH}  (X : mCx G p R s m args c0 own cc nL h0) (hok : mokB tb own ini cc C ret k (pc, .lastore, x, y, sw, a, b, c, d, e) ps = true) (hs : mst (pc, .lastore, x, y, sw, a, b, c, d, e) k ls st h ev = some (.inl (k', ls', st', h')))  (kk : mV p l e0 R s m args below meth c0 Q G nL h0 hF (mbp C k') ls' st' h') : mV p l e0 R s m args below meth c0 Q G nL h0 hF pc ls st h := by
  simp only [mokB, Bool.and_eq_true] at hok
  simp only [mst] at hs
  split at hs
  · obtain ⟨hc, hs⟩ := mck_some hs
    obtain ⟨rfl, rfl, rfl, rfl⟩ := nx_inj hs
    rw [← mnx_of hok.2] at kk
    exact mv_last X (mdec_of hok.1) hc.1 hc.2 kk
  · cases hs
theorem ms_baload {pc : Nat} {x : Int32} {y : Int64} {sw : List (Int32 × Nat)} {a b c d e k' : Nat} {ls' : ML} {st' : List Value} {h' : MH}  (X : mCx G p R s m args c0 own cc nL h0) (hok : mokB tb own ini cc C ret k (pc, .baload, x, y, sw, a, b, c, d, e) ps = true) (hs : mst (pc, .baload, x, y, sw, a, b, c, d, e) k ls st h ev = some (.inl (k', ls', st', h')))  (kk : mV p l e0 R s m args below meth c0 Q G nL h0 hF (mbp C k') ls' st' h') : mV p l e0 R s m args below meth c0 Q G nL h0 hF pc ls st h := by
  simp only [mokB, Bool.and_eq_true] at hok
  simp only [mst] at hs
  split at hs
  · obtain ⟨hc, hs⟩ := mck_some hs
    obtain ⟨rfl, rfl, rfl, rfl⟩ := nx_inj hs
    rw [← mnx_of hok.2] at kk
    exact mv_zald X (mdec_of hok.1) hc.1 hc.2 kk
  · cases hs
theorem ms_bastore {pc : Nat} {x : Int32} {y : Int64} {sw : List (Int32 × Nat)} {a b c d e k' : Nat} {ls' : ML} {st' : List Value} {h' : MH}  (X : mCx G p R s m args c0 own cc nL h0) (hok : mokB tb own ini cc C ret k (pc, .bastore, x, y, sw, a, b, c, d, e) ps = true) (hs : mst (pc, .bastore, x, y, sw, a, b, c, d, e) k ls st h ev = some (.inl (k', ls', st', h')))  (kk : mV p l e0 R s m args below meth c0 Q G nL h0 hF (mbp C k') ls' st' h') : mV p l e0 R s m args below meth c0 Q G nL h0 hF pc ls st h := by
  simp only [mokB, Bool.and_eq_true] at hok
  simp only [mst] at hs
  split at hs
  · obtain ⟨hc, hs⟩ := mck_some hs
    obtain ⟨rfl, rfl, rfl, rfl⟩ := nx_inj hs
    rw [← mnx_of hok.2] at kk
    exact mv_zast X (mdec_of hok.1) hc.1 hc.2.1 hc.2.2 kk
  · cases hs
theorem ms_aaload {pc : Nat} {x : Int32} {y : Int64} {sw : List (Int32 × Nat)} {a b c d e k' : Nat} {ls' : ML} {st' : List Value} {h' : MH}  (X : mCx G p R s m args c0 own cc nL h0) (hok : mokB tb own ini cc C ret k (pc, .aaload, x, y, sw, a, b, c, d, e) ps = true) (hs : mst (pc, .aaload, x, y, sw, a, b, c, d, e) k ls st h ev = some (.inl (k', ls', st', h')))  (kk : mV p l e0 R s m args below meth c0 Q G nL h0 hF (mbp C k') ls' st' h') : mV p l e0 R s m args below meth c0 Q G nL h0 hF pc ls st h := by
  simp only [mokB, Bool.and_eq_true] at hok
  simp only [mst] at hs
  split at hs
  · obtain ⟨hc, hs⟩ := mck_some hs
    obtain ⟨rfl, rfl, rfl, rfl⟩ := nx_inj hs
    rw [← mnx_of hok.2] at kk
    exact mv_aald X (mdec_of hok.1) hc.1 hc.2 kk
  · cases hs
theorem ms_aastore {pc : Nat} {x : Int32} {y : Int64} {sw : List (Int32 × Nat)} {a b c d e k' : Nat} {ls' : ML} {st' : List Value} {h' : MH}  (X : mCx G p R s m args c0 own cc nL h0) (hok : mokB tb own ini cc C ret k (pc, .aastore, x, y, sw, a, b, c, d, e) ps = true) (hs : mst (pc, .aastore, x, y, sw, a, b, c, d, e) k ls st h ev = some (.inl (k', ls', st', h')))  (kk : mV p l e0 R s m args below meth c0 Q G nL h0 hF (mbp C k') ls' st' h') : mV p l e0 R s m args below meth c0 Q G nL h0 hF pc ls st h := by
  simp only [mokB, Bool.and_eq_true] at hok
  simp only [mst] at hs
  have ea := Nat.eq_of_beq_eq_true hok.2
  subst ea
  split at hs
  · obtain ⟨hc, hs⟩ := mck_some hs
    obtain ⟨rfl, rfl, rfl, rfl⟩ := nx_inj hs
    rw [← mnx_of hok.1.2] at kk
    exact mv_aast X (mdec_of hok.1.1) hc.1 hc.2.1 hc.2.2 kk
  · cases hs
theorem mtk_split {st : List Value} {b : Nat} (h : b ≤ st.length) : st = (mtk st b).reverse ++ st.drop b := by
  unfold mtk
  rw [List.reverse_reverse, List.take_append_drop]
theorem mtk_len {st : List Value} {b : Nat} (h : b ≤ st.length) : (mtk st b).length = b := by simp [mtk, h]
/-- what comes behind a call, in both machines -/
theorem mcl_push {o : Option (Value × MH)} {rk k k' : Nat} {ls ls' : ML} {st st' : List Value} {h' : MH} {ret : Option FieldType} (hr : (Nat.beq rk 0 == ret.isNone) = true) (e : mcl o rk k ls st = some (.inl (k', ls', st', h'))) : ∃ v, o = some (v, h') ∧ k = k' ∧ ls = ls' ∧ st'.map (mtr G) = (mret G ret v).toList ++ st.map (mtr G) := by
  unfold mcl at e
  split at e
  · split at e
    · rename_i v h1
      obtain ⟨rfl, rfl, rfl, rfl⟩ := nx_inj e
      cases ret with
      | none => exact ⟨v, rfl, rfl, rfl, rfl⟩
      | some t => simp at hr
    · cases e
  · split at e
    · rename_i v h1
      obtain ⟨rfl, rfl, rfl, rfl⟩ := nx_inj e
      cases ret with
      | none => simp at hr
      | some t => exact ⟨_, rfl, rfl, rfl, rfl⟩
    · cases e
  · split at e
    · rename_i v h1
      obtain ⟨rfl, rfl, rfl, rfl⟩ := nx_inj e
      cases ret with
      | none => simp at hr
      | some t => exact ⟨_, rfl, rfl, rfl, rfl⟩
    · cases e
  · rename_i hz h1 h2
    split at e
    · rename_i v h1
      obtain ⟨rfl, rfl, rfl, rfl⟩ := nx_inj e
      cases ret with
      | none =>
        have := Nat.eq_of_beq_eq_true (show Nat.beq rk 0 = true by simpa using hr)
        exact absurd this hz
      | some t => exact ⟨_, rfl, rfl, rfl, rfl⟩
    · cases e
theorem mcb_of {own : String} {idx n c : Nat} {q : MT} {ps : List Nat} {tb : List MT} {y : Nat} (hT : mQs tb) (hy : tb[y]? = some q) (h : mcb own idx q n c ps = true) : mcw own idx q n ∧ (Nat.beq c 0 == q.2.2.2.1.isNone) = true := by
  unfold mcb at h
  simp only [Bool.and_eq_true, Bool.or_eq_true, decide_eq_true_eq] at h
  obtain ⟨⟨⟨h1, h2⟩, h3⟩, h4⟩ := h
  obtain ⟨g1, g2⟩ := hT y q hy
  exact ⟨⟨g1, mtW_in h1, h3, g2, h2.imp mtW_in (fun z => ⟨_, mtW_in z⟩)⟩, h4⟩
theorem mcall_some {i : MI} {k k' : Nat} {ls ls' : ML} {st st' : List Value} {h h' : MH} {ev : ME} (e : mcall i k ls st h ev = some (.inl (k', ls', st', h'))) : i.2.2.2.2.2.2.1 ≤ st.length ∧ words (st.drop i.2.2.2.2.2.2.1) ≤ 8 ∧ mcl (ev i.2.2.2.2.2.1 (mtk st i.2.2.2.2.2.2.1) h) i.2.2.2.2.2.2.2.1 (k + 1) ls (st.drop i.2.2.2.2.2.2.1) = some (.inl (k', ls', st', h')) := by
  obtain ⟨pc, ins, x, y, sw, a, b, c, d, e0⟩ := i
  unfold mcall at e
  dsimp only at e ⊢
  split at e
  · rename_i hb
    rw [Bool.and_eq_true] at hb
    exact ⟨Nat.le_of_ble_eq_true hb.1, Nat.le_of_ble_eq_true hb.2, e⟩
  · cases e
theorem ms_invokestatic {pc : Nat} {x : Int32} {y : Int64} {sw : List (Int32 × Nat)} {a b c d e k' : Nat} {ls' : ML} {st' : List Value} {h' : MH} {n : Nat} (X : mCx G p R s m args c0 own cc nL h0) (hok : mokB tb own ini cc C ret k (pc, .invokestatic n, x, y, sw, a, b, c, d, e) ps = true) (hs : mst (pc, .invokestatic n, x, y, sw, a, b, c, d, e) k ls st h ev = some (.inl (k', ls', st', h'))) (hT : mQs tb) (hE : mEv tb ev l G dd) (hfr : dd + 1 ≤ R.frames ∧ 64 * dd + 64 ≤ R.locals) (hr : mN h' ≤ mN h0 + R.cells ∧ mS h' ≤ mS h0 + R.slots) (kk : mV p l e0 R s m args below meth c0 Q G nL h0 hF (mbp C k') ls' st' h') : mV p l e0 R s m args below meth c0 Q G nL h0 hF pc ls st h := by
  simp only [mokB, Bool.and_eq_true] at hok
  have hd := mdec_of hok.1.1
  have hn := mnx_of hok.1.2
  have h2 := hok.2
  simp only [mst] at hs
  split at hs
  · simp only [Bool.and_eq_true] at h2
    unfold mcopy at hs
    split at hs
    · split at hs
      · rename_i h8
        obtain ⟨hc, hs⟩ := mck_some hs
        obtain ⟨rfl, rfl, rfl, rfl⟩ := nx_inj hs
        rw [← hn] at kk
        exact mv_copy X hd (mtW_in h2.1.1.1) (mtW_in h2.1.1.2) (mtW_in h2.1.2) (mtW_in h2.2) h8 hc kk
      · cases hs
    · cases hs
  · have h3 : (match tb[a]? with
        | some q => mcb own n q b c ps && mtW (ps.getD 2 0) (.static q.1)
        | none => false) = true := h2
    clear h2
    obtain ⟨g1, g2, g3⟩ := mcall_some hs
    dsimp only at g1 g2 g3
    split at h3
    · rename_i q hq
      rw [Bool.and_eq_true] at h3
      obtain ⟨hw, hrk⟩ := mcb_of hT hq h3.1
      obtain ⟨v, e1, e2, e3, e4⟩ := mcl_push (G := G) hrk g3
      subst e2; subst e3
      obtain ⟨q', hq', m1, m2, hM⟩ := hE _ _ _ _ _ e1
      cases hq.symm.trans hq'
      rw [mtk_split g1]
      refine mv_static X hd (by rw [mtk_len g1]; exact hw) (mtW_in h3.2) hfr hM g2 ⟨m1, m2⟩ hr fun H1 locs1 c1 s1 lsA hR1 hL1 => ?_
      have k1 := kk H1 locs1 c1 s1 lsA hR1 hL1
      rw [e4, ← hn] at k1
      exact k1
    · cases h3
  · rename_i hd0 hd2
    unfold mmath at hs
    have h3 : (mtW (ps.getD 0 0) (.initialized "java/lang/Math") && mmB d own n ps) = true := by
      split at h2 <;> first | exact absurd rfl hd0 | exact absurd rfl hd2 | exact h2
    clear h2
    rw [Bool.and_eq_true] at h3
    obtain ⟨hi0, h3⟩ := h3
    unfold mmB at h3
    split at hs
    · simp only [Bool.and_eq_true] at h3
      split at hs
      · split at hs
        · rename_i h8
          obtain ⟨rfl, rfl, rfl, rfl⟩ := nx_inj hs
          rw [← hn] at kk
          exact (mv_math X hd (mtW_in hi0) h8 hr).1 _ (mtW_in h3.1.1) (mtW_in h3.1.2) (mtW_in h3.2) kk
        · cases hs
      · cases hs
    · simp only [Bool.and_eq_true] at h3
      split at hs
      · split at hs
        · rename_i h8
          obtain ⟨rfl, rfl, rfl, rfl⟩ := nx_inj hs
          rw [← hn] at kk
          exact (mv_math X hd (mtW_in hi0) h8 hr).2.1 _ _ (mtW_in h3.1.1) (mtW_in h3.1.2) (mtW_in h3.2) kk
        · cases hs
      · cases hs
    · rename_i hd4 hd5
      split at hs
      · split at hs
        · rename_i h8
          obtain ⟨rfl, rfl, rfl, rfl⟩ := nx_inj hs
          rw [← hn] at kk
          split at h3
          · exact absurd rfl hd4
          · exact absurd rfl hd5
          · simp only [Bool.and_eq_true] at h3
            exact (mv_math X hd (mtW_in hi0) h8 hr).2.2 _ _ (mtW_in h3.1.1) (mtW_in h3.1.2) (mtW_in h3.2) kk
        · cases hs
      · cases hs
theorem mcallv_some {i : MI} {k k' : Nat} {ls ls' : ML} {st st' : List Value} {h h' : MH} {ev : ME} (e : mcallv i k ls st h ev = some (.inl (k', ls', st', h'))) : ∃ r, (mtk st i.2.2.2.2.2.2.1).head? = some (.ref r) ∧ kd h r = i.2.2.2.2.2.2.2.2.2 + 1 ∧ mcall i k ls st h ev = some (.inl (k', ls', st', h')) := by
  obtain ⟨pc, ins, x, y, sw, a, b, c, d, e0⟩ := i
  unfold mcallv at e
  dsimp only at e ⊢
  split at e
  · rename_i r hr
    obtain ⟨hc, e⟩ := mck_some e
    exact ⟨r, hr, hc, e⟩
  · cases e
theorem mtk_cons {st : List Value} {b r : Nat} (h : b ≤ st.length) (hh : (mtk st b).head? = some (.ref r)) : ∃ as, mtk st b = .ref r :: as ∧ as.length = b - 1 ∧ st = as.reverse ++ .ref r :: st.drop b := by
  have hl := mtk_len h
  have hsp := mtk_split h
  cases ht : mtk st b with
  | nil => rw [ht] at hh; cases hh
  | cons z as =>
    rw [ht] at hh hl hsp
    cases hh
    refine ⟨as, rfl, by simp at hl; omega, ?_⟩
    rw [List.reverse_cons, List.append_assoc] at hsp
    exact hsp
theorem ms_invokevirtual {pc : Nat} {x : Int32} {y : Int64} {sw : List (Int32 × Nat)} {a b c d e k' : Nat} {ls' : ML} {st' : List Value} {h' : MH} {n : Nat} (X : mCx G p R s m args c0 own cc nL h0) (hok : mokB tb own ini cc C ret k (pc, .invokevirtual n, x, y, sw, a, b, c, d, e) ps = true) (hs : mst (pc, .invokevirtual n, x, y, sw, a, b, c, d, e) k ls st h ev = some (.inl (k', ls', st', h'))) (hT : mQs tb) (hE : mEv tb ev l G dd) (hfr : dd + 1 ≤ R.frames ∧ 64 * dd + 64 ≤ R.locals) (hr : mN h' ≤ mN h0 + R.cells ∧ mS h' ≤ mS h0 + R.slots) (kk : mV p l e0 R s m args below meth c0 Q G nL h0 hF (mbp C k') ls' st' h') : mV p l e0 R s m args below meth c0 Q G nL h0 hF pc ls st h := by
  simp only [mokB, Bool.and_eq_true] at hok
  have hd := mdec_of hok.1.1
  have hn := mnx_of hok.1.2
  have h2 := hok.2
  simp only [mst] at hs
  split at hs
  · simp only [Bool.and_eq_true] at h2
    unfold mclone at hs
    split at hs
    · split at hs
      · rename_i h8
        obtain ⟨hc, hs⟩ := mck_some hs
        obtain ⟨rfl, rfl, rfl, rfl⟩ := nx_inj hs
        rw [← hn] at kk
        exact mv_clone X hd (mtW_in h2.1.1.1.1.1) (mtW_in h2.1.1.1.1.2) (mtW_in h2.1.1.1.2) (mtW_in h2.1.1.2) (mtW_in h2.1.2) (mtW_in h2.2) h8 hc hr kk
      · cases hs
    · cases hs
  rename_i hd2
  have h3 : (match tb[a]? with
        | some q => Nat.blt 0 b && mcb own n q (b - 1) c ps && mok2 e && mtW (ps.getD 2 0) (.instanceMethod q.1) && mtW (ps.getD 3 0) (.selects (mcn e) q.1 q.1)
        | none => false) = true := by
    split at h2
    · exact absurd rfl hd2
    · exact h2
  clear h2
  obtain ⟨r, hr1, hr2, hs⟩ := mcallv_some hs
  obtain ⟨g1, g2, g3⟩ := mcall_some hs
  dsimp only at g1 g2 g3 hr1 hr2
  split at h3
  · rename_i q hq
    simp only [Bool.and_eq_true] at h3
    obtain ⟨⟨⟨⟨b0, h4⟩, h5⟩, h6⟩, h7⟩ := h3
    obtain ⟨hw, hrk⟩ := mcb_of hT hq h4
    obtain ⟨v, e1, e2, e3, e4⟩ := mcl_push (G := G) hrk g3
    subst e2; subst e3
    obtain ⟨q', hq', m1, m2, hM⟩ := hE _ _ _ _ _ e1
    cases hq.symm.trans hq'
    obtain ⟨as, t1, t2, t3⟩ := mtk_cons g1 hr1
    rw [t1] at hM
    rw [t3]
    refine mv_virt X (ci := e) (Cn := mcn e) hd (by rw [t2]; exact hw) ?_ hr2 (mtW_in h6) (mtW_in h7) hfr hM g2 ⟨m1, m2⟩ hr fun H1 locs1 c1 s1 lsA hR1 hL1 => ?_
    · unfold mok2 at h5
      unfold mcn
      split at h5
      · rename_i C hC
        left
        exact ⟨C, hC, rfl⟩
      · rename_i hC
        right
        exact ⟨Nat.eq_of_beq_eq_true h5, rfl⟩
    · have k1 := kk H1 locs1 c1 s1 lsA hR1 hL1
      rw [e4, ← hn] at k1
      exact k1
  · cases h3
theorem ms_checkcast {pc : Nat} {x : Int32} {y : Int64} {sw : List (Int32 × Nat)} {a b c d e k' : Nat} {ls' : ML} {st' : List Value} {h' : MH} {n : Nat} (X : mCx G p R s m args c0 own cc nL h0) (hok : mokB tb own ini cc C ret k (pc, .checkcast n, x, y, sw, a, b, c, d, e) ps = true) (hs : mst (pc, .checkcast n, x, y, sw, a, b, c, d, e) k ls st h ev = some (.inl (k', ls', st', h')))  (kk : mV p l e0 R s m args below meth c0 Q G nL h0 hF (mbp C k') ls' st' h') : mV p l e0 R s m args below meth c0 Q G nL h0 hF pc ls st h := by
  simp only [mokB, Bool.and_eq_true] at hok
  simp only [mst] at hs
  split at hs
  · obtain ⟨hc, hs⟩ := mck_some hs
    obtain ⟨rfl, rfl, rfl, rfl⟩ := nx_inj hs
    rw [← mnx_of hok.1.2] at kk
    exact mv_cast X (mdec_of hok.1.1) (mtW_in hok.2) hc kk
  · cases hs
theorem ms_invokespecial {pc : Nat} {x : Int32} {y : Int64} {sw : List (Int32 × Nat)} {a b c d e k' : Nat} {ls' : ML} {st' : List Value} {h' : MH} {n : Nat} (X : mCx G p R s m args c0 own cc nL h0) (hok : mokB tb own ini cc C ret k (pc, .invokespecial n, x, y, sw, a, b, c, d, e) ps = true) (hs : mst (pc, .invokespecial n, x, y, sw, a, b, c, d, e) k ls st h ev = some (.inl (k', ls', st', h'))) (hT : mQs tb) (hE : mEv tb ev l G dd) (hfr : dd + 1 ≤ R.frames ∧ 64 * dd + 64 ≤ R.locals) (hr : mN h' ≤ mN h0 + R.cells ∧ mS h' ≤ mS h0 + R.slots) (kk : mV p l e0 R s m args below meth c0 Q G nL h0 hF (mbp C k') ls' st' h') : mV p l e0 R s m args below meth c0 Q G nL h0 hF pc ls st h := by
  simp only [mokB, Bool.and_eq_true] at hok
  have hd := mdec_of hok.1.1
  have hn := mnx_of hok.1.2
  have h2 := hok.2
  simp only [mst] at hs
  split at hs
  · simp only [Bool.and_eq_true] at h2
    split at hs
    · split at hs
      · rename_i h8
        obtain ⟨hc, hs⟩ := mck_some hs
        obtain ⟨rfl, rfl, rfl, rfl⟩ := nx_inj hs
        rw [← hn] at kk
        exact mv_objInit X hd (mtW_in h2.1.1) (mtW_in h2.1.2) (mtW_in h2.2) h8 hc kk
      · cases hs
    · cases hs
  · rename_i hd2
    have h3 : (match tb[a]? with
        | some q => Nat.blt 0 b && mcb own n q (b - 1) c ps && mtW (ps.getD 2 0) (.instanceMethod q.1) && decide (q.1.name = "<init>" ∧ q.2.2.2.1 = none)
        | none => false) = true := by
      split at h2
      · exact absurd rfl hd2
      · exact h2
    clear h2
    obtain ⟨r, hr1, hr2, hs⟩ := mcallv_some hs
    obtain ⟨g1, g2, g3⟩ := mcall_some hs
    dsimp only at g1 g2 g3 hr1 hr2
    split at h3
    · rename_i q hq
      simp only [Bool.and_eq_true, decide_eq_true_eq] at h3
      obtain ⟨⟨⟨b0, h4⟩, h6⟩, h7⟩ := h3
      obtain ⟨hw, hrk⟩ := mcb_of hT hq h4
      obtain ⟨v, e1, e2, e3, e4⟩ := mcl_push (G := G) hrk g3
      subst e2; subst e3
      obtain ⟨q', hq', m1, m2, hM⟩ := hE _ _ _ _ _ e1
      cases hq.symm.trans hq'
      obtain ⟨as, t1, t2, t3⟩ := mtk_cons g1 hr1
      rw [t1] at hM
      rw [t3]
      intro H locs cells slots lsA hR hL
      have hrr : ¬ r = 0 := by
        intro z
        subst z
        have z1 := (hR.2.2.1.2.1 0 (by omega)).1
        have z2 := X.2.2.2.2.2.1.2.2.2.2.1.1
        omega
      refine mv_init X hd (by rw [t2]; exact hw) hrr (mtW_in h6) h7 hfr hM g2 ⟨m1, m2⟩ hr (fun H1 locs1 c1 s1 lsA hR1 hL1 => ?_) H locs cells slots lsA hR hL
      have k1 := kk H1 locs1 c1 s1 lsA hR1 hL1
      rw [e4, ← hn, h7.2] at k1
      exact k1
    · cases h3
end MST
