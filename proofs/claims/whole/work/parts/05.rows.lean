/-! ROWS OF THE SMALL MACHINE: each instruction of the big one, said in the small one's words -/
def isNestW : Cond → Bool
  | .methodLinkNest .. => true
  | .fieldLinkNest .. => true
  | .castable .. => true
  | _ => false
def mgw : List Cond := lw_tbl.filter goodWord
def mnw : List Cond := lw_tbl.filter isNestW
theorem mgw_of {w : Cond} (h : w ∈ lw_tbl) (hg : goodWord w = true) : w ∈ mgw := List.mem_filter.mpr ⟨h, hg⟩
theorem mnw_of {w : Cond} (h : w ∈ lw_tbl) (hg : isNestW w = true) : w ∈ mnw := List.mem_filter.mpr ⟨h, hg⟩
/-- the static arrays that are read: class, name, descriptor, cell -/
def mzs : List (String × String × String × Nat) := [("BoroughBeam", "POWERS", "[I", 2), ("BoroughBeam", "FACTORIALS", "[I", 3)]
/-- the static ints, and the texts that are loaded: class, entry, text, cell -/
def mzi : List (String × String × String × Int32) := [("java/lang/String", "COMPACT_STRINGS", "Z", 1)]
def mzt : List (String × Nat × String × Nat) := [("BoroughBeam$Tape", 67, "tips slides person goal left right shovel hour tip all snow who weight place at sign load if then else end or and not ", 4), ("BoroughBeam$Tape", 81, "<>=#+-*/();", 5)]
def mStr (G : MG) (a : Nat) (s : State) : Prop := va_O "java/lang/String" (G.E a) G.A s s.heap ∧ va_OF "java/lang/String" "coder" "B" (.int (G.vx a 1)) (G.E a) G.A s s.heap ∧ va_OF "java/lang/String" "value" "[B" (.ref (G.E (G.rx a 0))) (G.E a) G.A s s.heap ∧ 0 < G.rx a 0 ∧ G.rx a 0 < 8
def mEnv (G : MG) (s : State) : Prop := va_K G.D vwCl G.tys s ∧ (∀ w ∈ mnw, va_Nw w s) ∧ va_AO RX8 s ∧ (∀ z ∈ mzs, va_Z z.1 z.2.1 z.2.2.1 (.ref (G.E z.2.2.2)) G.A s s.heap) ∧ mgx G ∧ (∀ a, a < 8 → G.kx a = 24 → va_T .int (G.E a) (G.lx a) (fun j => .int (G.vx a j)) G.A s s.heap) ∧ (∀ a, a < 8 → G.kx a = 26 → va_T .byte (G.E a) (G.lx a) (fun j => .int (G.vx a j)) G.A s s.heap) ∧ (∀ a, a < 8 → G.kx a = 25 → mStr G a s) ∧ (∀ z ∈ mzi, va_Z z.1 z.2.1 z.2.2.1 (.int z.2.2.2) G.A s s.heap) ∧ (∀ z ∈ mzt, vk_R z.1 z.2.1 z.2.2.1 (G.E z.2.2.2) s) ∧ va_Z "jdk/internal/util/Preconditions" "SIOOBE_FORMATTER" "Ljava/util/function/BiFunction;" (va_rf G.fo) G.A s s.heap
def mla (G : MG) (L : ML) : List (Nat × Value) := (mal 0 L).map fun q => (q.1, mtr G q.2)
theorem mal_mem : ∀ (L : ML) (j i : Nat) (v : Value), (i, v) ∈ mal j L ↔ ∃ k, i = j + k ∧ L[k]? = some (some v) := by
  intro L
  induction L with
  | nil => intro j i v; simp [mal]
  | cons o L ih =>
    intro j i v
    cases o with
    | none =>
      rw [mal, ih]
      constructor
      · rintro ⟨k, rfl, e⟩; exact ⟨k + 1, by omega, by simpa using e⟩
      · rintro ⟨k, rfl, e⟩
        cases k with
        | zero => simp at e
        | succ k => exact ⟨k, by omega, by simpa using e⟩
    | some w =>
      rw [mal, List.mem_cons, ih]
      constructor
      · rintro (e | ⟨k, rfl, e⟩)
        · cases e; exact ⟨0, rfl, rfl⟩
        · exact ⟨k + 1, by omega, by simpa using e⟩
      · rintro ⟨k, rfl, e⟩
        cases k with
        | zero => left; simp at e; rw [e]; rfl
        | succ k => right; exact ⟨k, by omega, by simpa using e⟩
theorem mla_mem {G : MG} {L : ML} {i : Nat} {w : Value} : (i, w) ∈ mla G L ↔ ∃ v, L[i]? = some (some v) ∧ w = mtr G v := by
  unfold mla
  rw [List.mem_map]
  constructor
  · rintro ⟨⟨j, v⟩, h, e⟩
    cases e
    obtain ⟨k, rfl, h2⟩ := (mal_mem L 0 j v).mp h
    exact ⟨v, by simpa using h2, rfl⟩
  · rintro ⟨v, h, rfl⟩
    exact ⟨(i, v), (mal_mem L 0 i v).mpr ⟨i, by omega, h⟩, rfl⟩
theorem mlh_has {G : MG} {ls : Array Slot} {n : Nat} {L : ML} (h : mlh G ls n L) : lv_has ls n (mla G L) := ⟨h.2.1, h.2.2.1, fun q hq => by
  obtain ⟨i, w⟩ := q
  obtain ⟨v, h1, rfl⟩ := mla_mem.mp hq
  exact h.2.2.2 i v h1⟩
theorem mlh_of {G : MG} {ls : Array Slot} {n : Nat} {L : ML} {l : List (Nat × Value)} (h : lv_has ls n l) (hl : L.length = n) (hm : ∀ (i : Nat) (v : Value), L[i]? = some (some v) → (i, mtr G v) ∈ l) : mlh G ls n L := ⟨hl, h.1, h.2.1, fun i v hv => h.2.2 (i, mtr G v) (hm i v hv)⟩
theorem mok_cat {L : ML} {i j : Nat} {v : Value} (h : mok L i = true) (hj : j + 1 = i) (hv : L[j]? = some (some v)) : ¬ v.category = 2 := by
  subst hj
  rw [mok, hv] at h
  intro hc
  cases v <;> first | (simp at h; done) | (simp [Value.category] at hc)
theorem mlh_st1 {G : MG} {ls ls' : Array Slot} {n : Nat} {L : ML} {i : Nat} {v : Value} (hl : mlh G ls n L) (hk : (mok L i && Nat.ble (i + 1) L.length) = true) (h : lv_has ls' n ((i, mtr G v) :: (mla G L).filter (fun q => !(q.1 == i) && !(q.1 + 1 == i && q.2.category == 2)))) : mlh G ls' n (L.set i (some v)) := by
  rw [Bool.and_eq_true] at hk
  have hi : i < L.length := Nat.le_of_ble_eq_true hk.2
  refine mlh_of h (by rw [List.length_set]; exact hl.1) fun j w hw => ?_
  by_cases hj : i = j
  · subst hj
    rw [List.getElem?_set_self hi] at hw
    cases hw
    exact List.mem_cons_self
  · rw [List.getElem?_set_ne hj] at hw
    refine List.mem_cons_of_mem _ (List.mem_filter.mpr ⟨mla_mem.mpr ⟨w, hw, rfl⟩, ?_⟩)
    have h2 : ¬ (j + 1 = i ∧ (mtr G w).category = 2) := fun z => mok_cat hk.1 z.1 hw (by rw [← mtr_cat G]; exact z.2)
    simp only [Bool.and_eq_true, Bool.not_eq_true', beq_eq_false_iff_ne, ne_eq, Bool.and_eq_false_iff]
    refine ⟨fun z => hj z.symm, ?_⟩
    by_cases z : j + 1 = i
    · exact Or.inr fun z2 => h2 ⟨z, z2⟩
    · exact Or.inl z
theorem mlh_st2 {G : MG} {ls ls' : Array Slot} {n : Nat} {L : ML} {i : Nat} {v : Value} (hl : mlh G ls n L) (hk : (mok L i && Nat.ble (i + 2) L.length) = true) (h : lv_has ls' n ((i, mtr G v) :: (mla G L).filter (fun q => !(q.1 == i) && (!(q.1 == i + 1) && !(q.1 + 1 == i && q.2.category == 2))))) : mlh G ls' n ((L.set i (some v)).set (i + 1) none) := by
  rw [Bool.and_eq_true] at hk
  have hi : i + 2 ≤ L.length := Nat.le_of_ble_eq_true hk.2
  refine mlh_of h (by rw [List.length_set, List.length_set]; exact hl.1) fun j w hw => ?_
  by_cases hj2 : i + 1 = j
  · subst hj2
    rw [List.getElem?_set_self (by rw [List.length_set]; omega)] at hw
    cases hw
  · rw [List.getElem?_set_ne hj2] at hw
    by_cases hj : i = j
    · subst hj
      rw [List.getElem?_set_self (by omega)] at hw
      cases hw
      exact List.mem_cons_self
    · rw [List.getElem?_set_ne hj] at hw
      refine List.mem_cons_of_mem _ (List.mem_filter.mpr ⟨mla_mem.mpr ⟨w, hw, rfl⟩, ?_⟩)
      have h2 : ¬ (j + 1 = i ∧ (mtr G w).category = 2) := fun z => mok_cat hk.1 z.1 hw (by rw [← mtr_cat G]; exact z.2)
      simp only [Bool.and_eq_true, Bool.not_eq_true', beq_eq_false_iff_ne, ne_eq, Bool.and_eq_false_iff]
      refine ⟨fun z => hj z.symm, fun z => hj2 z.symm, ?_⟩
      by_cases z : j + 1 = i
      · exact Or.inr fun z2 => h2 ⟨z, z2⟩
      · exact Or.inl z
def mR (G : MG) (s : State) (h0 h : MH) (H : Heap) (locs : List Loc) (cells slots : Nat) : Prop := va_P G.D vwCl (mws G h) H ∧ va_S G.A s.heap H locs ∧ mwf G h ∧ mN h = mN h0 + cells ∧ mS h = mS h0 + slots
/-- what stays in a method's body -/
def mCx (G : MG) (p : Program) (R : Room) (s : State) (m : MethodId) (args : Array Value) (c : Code) (own : String) (cc : ByteArray) (nL : Nat) (h0 : MH) : Prop := p.tables.exec = Jvm.exec ∧ c.code = cc ∧ c.maxLocals = nL ∧ s.vm.findClass own = some m.cls ∧ (∀ w ∈ mgw, w.before args s = true) ∧ mEnv G s ∧ s.heap.size = G.b + (mN h0 - 8) ∧ 8 ≤ mN h0 ∧ 1 ≤ R.frames ∧ 64 ≤ R.locals
section MV
variable {p : Program} {l : Launch} {e : Env} {R : Room} {s : State} {m : MethodId} {args : Array Value} {below : List Frame} {meth : Method} {c : Code} {Q : Nat → Nat → State → Prop}
variable {cc : ByteArray} {pc : Nat} {G : MG} {own : String} {nL : Nat} {h0 h : MH} {ls : ML} {st : List Value}
/-- the machine goes on well from this byte, with these locals, this stack, this heap -/
def mV (p : Program) (l : Launch) (e : Env) (R : Room) (s : State) (m : MethodId) (args : Array Value) (below : List Frame) (meth : Method) (c : Code) (Q : Nat → Nat → State → Prop) (G : MG) (nL : Nat) (h0 : MH) (hF : MH) (pc : Nat) (ls : ML) (st : List Value) (h : MH) : Prop :=
  ∀ (H : Heap) (locs : List Loc) (cells slots : Nat) (lsA : Array Slot), mR G s h0 h H locs cells slots → mlh G lsA nL ls → W p l e R s m args below meth c H locs cells slots (Q (mN hF - mN h0) (mS hF - mS h0)) (F0 m pc lsA (st.map (mtr G)))
variable {hF : MH}
theorem mv_iconst (X : mCx G p R s m args c own cc nL h0) {n : Int} {v : Int32} (hd : decode cc pc = .ok (.iconst n, 1)) (hv : Int32.ofInt n = v) (k : mV p l e R s m args below meth c Q G nL h0 hF (pc + 1) ls (.int v :: st) h) : mV p l e R s m args below meth c Q G nL h0 hF pc ls st h :=
  fun H locs cells slots lsA hR hL => lv_iconst X.1 X.2.1 hd hv (k H locs cells slots lsA hR hL)
theorem mv_bipush (X : mCx G p R s m args c own cc nL h0) {n : Int} {v : Int32} (hd : decode cc pc = .ok (.bipush n, 2)) (hv : (Int8.ofInt n).toInt32 = v) (k : mV p l e R s m args below meth c Q G nL h0 hF (pc + 2) ls (.int v :: st) h) : mV p l e R s m args below meth c Q G nL h0 hF pc ls st h :=
  fun H locs cells slots lsA hR hL => lv_bipush X.1 X.2.1 hd hv (k H locs cells slots lsA hR hL)
theorem mv_sipush (X : mCx G p R s m args c own cc nL h0) {n : Int} {v : Int32} (hd : decode cc pc = .ok (.sipush n, 3)) (hv : (Int16.ofInt n).toInt32 = v) (k : mV p l e R s m args below meth c Q G nL h0 hF (pc + 3) ls (.int v :: st) h) : mV p l e R s m args below meth c Q G nL h0 hF pc ls st h :=
  fun H locs cells slots lsA hR hL => lv_sipush X.1 X.2.1 hd hv (k H locs cells slots lsA hR hL)
theorem mv_lconst (X : mCx G p R s m args c own cc nL h0) {n : Fin 2} {v : Int64} (hd : decode cc pc = .ok (.lconst n, 1)) (hv : Int64.ofNat (n : Nat) = v) (k : mV p l e R s m args below meth c Q G nL h0 hF (pc + 1) ls (.long v :: st) h) : mV p l e R s m args below meth c Q G nL h0 hF pc ls st h :=
  fun H locs cells slots lsA hR hL => lv_lconst X.1 X.2.1 hd hv (k H locs cells slots lsA hR hL)
theorem mv_ldc (X : mCx G p R s m args c own cc nL h0) {n : Nat} {v : Int32} (hd : decode cc pc = .ok (.ldc n, 2)) (hv : Cond.constant own n v ∈ lw_tbl) (k : mV p l e R s m args below meth c Q G nL h0 hF (pc + 2) ls (.int v :: st) h) : mV p l e R s m args below meth c Q G nL h0 hF pc ls st h :=
  fun H locs cells slots lsA hR hL => lv_ldc X.1 X.2.1 X.2.2.2.1 (X.2.2.2.2.1 _ (mgw_of hv rfl)) hd (k H locs cells slots lsA hR hL)
theorem mv_ldcw (X : mCx G p R s m args c own cc nL h0) {n : Nat} {v : Int32} (hd : decode cc pc = .ok (.ldc_w n, 3)) (hv : Cond.constant own n v ∈ lw_tbl) (k : mV p l e R s m args below meth c Q G nL h0 hF (pc + 3) ls (.int v :: st) h) : mV p l e R s m args below meth c Q G nL h0 hF pc ls st h :=
  fun H locs cells slots lsA hR hL => lv_ldcw X.1 X.2.1 X.2.2.2.1 (X.2.2.2.2.1 _ (mgw_of hv rfl)) hd (k H locs cells slots lsA hR hL)
theorem mv_ldc2 (X : mCx G p R s m args c own cc nL h0) {n : Nat} {v : Int64} (hd : decode cc pc = .ok (.ldc2_w n, 3)) (hv : Cond.constantLong own n v ∈ lw_tbl) (k : mV p l e R s m args below meth c Q G nL h0 hF (pc + 3) ls (.long v :: st) h) : mV p l e R s m args below meth c Q G nL h0 hF pc ls st h :=
  fun H locs cells slots lsA hR hL => lv_ldc2 X.1 X.2.1 X.2.2.2.1 (X.2.2.2.2.1 _ (mgw_of hv rfl)) hd (k H locs cells slots lsA hR hL)
theorem mv_null (X : mCx G p R s m args c own cc nL h0) (hd : decode cc pc = .ok (.aconst_null, 1)) (k : mV p l e R s m args below meth c Q G nL h0 hF (pc + 1) ls (.ref 0 :: st) h) : mV p l e R s m args below meth c Q G nL h0 hF pc ls st h :=
  fun H locs cells slots lsA hR hL => lv_null X.1 X.2.1 hd (k H locs cells slots lsA hR hL)
theorem mv_iload_n (X : mCx G p R s m args c own cc nL h0) {n : Fin 4} {i : Nat} {v : Int32} (hd : decode cc pc = .ok (.iload_n n, 1)) (hi : (n : Nat) = i) (hl : ls[i]? = some (some (.int v))) (k : mV p l e R s m args below meth c Q G nL h0 hF (pc + 1) ls (.int v :: st) h) : mV p l e R s m args below meth c Q G nL h0 hF pc ls st h :=
  fun H locs cells slots lsA hR hL => lv_iload_n X.1 X.2.1 hd hi (hL.2.2.2 i _ hl) (k H locs cells slots lsA hR hL)
theorem mv_iload (X : mCx G p R s m args c own cc nL h0) {i : Nat} {v : Int32} (hd : decode cc pc = .ok (.iload i, 2)) (hl : ls[i]? = some (some (.int v))) (k : mV p l e R s m args below meth c Q G nL h0 hF (pc + 2) ls (.int v :: st) h) : mV p l e R s m args below meth c Q G nL h0 hF pc ls st h :=
  fun H locs cells slots lsA hR hL => lv_iload X.1 X.2.1 hd (hL.2.2.2 i _ hl) (k H locs cells slots lsA hR hL)
theorem mv_lload_n (X : mCx G p R s m args c own cc nL h0) {n : Fin 4} {i : Nat} {v : Int64} (hd : decode cc pc = .ok (.lload_n n, 1)) (hi : (n : Nat) = i) (hl : ls[i]? = some (some (.long v))) (k : mV p l e R s m args below meth c Q G nL h0 hF (pc + 1) ls (.long v :: st) h) : mV p l e R s m args below meth c Q G nL h0 hF pc ls st h :=
  fun H locs cells slots lsA hR hL => lv_lload_n X.1 X.2.1 hd hi (hL.2.2.2 i _ hl) (k H locs cells slots lsA hR hL)
theorem mv_lload (X : mCx G p R s m args c own cc nL h0) {i : Nat} {v : Int64} (hd : decode cc pc = .ok (.lload i, 2)) (hl : ls[i]? = some (some (.long v))) (k : mV p l e R s m args below meth c Q G nL h0 hF (pc + 2) ls (.long v :: st) h) : mV p l e R s m args below meth c Q G nL h0 hF pc ls st h :=
  fun H locs cells slots lsA hR hL => lv_lload X.1 X.2.1 hd (hL.2.2.2 i _ hl) (k H locs cells slots lsA hR hL)
theorem mv_aload_n (X : mCx G p R s m args c own cc nL h0) {n : Fin 4} {i : Nat} {v : Nat} (hd : decode cc pc = .ok (.aload_n n, 1)) (hi : (n : Nat) = i) (hl : ls[i]? = some (some (.ref v))) (k : mV p l e R s m args below meth c Q G nL h0 hF (pc + 1) ls (.ref v :: st) h) : mV p l e R s m args below meth c Q G nL h0 hF pc ls st h := by
  intro H locs cells slots lsA hR hL
  have h1 := hL.2.2.2 i _ hl
  have h2 := k H locs cells slots lsA hR hL
  rw [List.map_cons] at h2
  by_cases hv : v = 0
  · subst hv; exact lv_aload_nN X.1 X.2.1 hd hi h1 h2
  · rw [mtr_pos hv] at h1 h2; exact lv_aload_n X.1 X.2.1 hd hi h1 h2
theorem mv_aload (X : mCx G p R s m args c own cc nL h0) {i : Nat} {v : Nat} (hd : decode cc pc = .ok (.aload i, 2)) (hl : ls[i]? = some (some (.ref v))) (k : mV p l e R s m args below meth c Q G nL h0 hF (pc + 2) ls (.ref v :: st) h) : mV p l e R s m args below meth c Q G nL h0 hF pc ls st h := by
  intro H locs cells slots lsA hR hL
  have h1 := hL.2.2.2 i _ hl
  have h2 := k H locs cells slots lsA hR hL
  rw [List.map_cons] at h2
  by_cases hv : v = 0
  · subst hv; exact lv_aloadN X.1 X.2.1 hd h1 h2
  · rw [mtr_pos hv] at h1 h2; exact lv_aload X.1 X.2.1 hd h1 h2
theorem mok_lt {L : ML} {i n : Nat} (hk : (mok L i && Nat.ble (i + n) L.length) = true) : i + n ≤ L.length := by
  rw [Bool.and_eq_true] at hk
  exact Nat.le_of_ble_eq_true hk.2
theorem mv_istore_n (X : mCx G p R s m args c own cc nL h0) {n : Fin 4} {i : Nat} {v : Int32} (hd : decode cc pc = .ok (.istore_n n, 1)) (hi : (n : Nat) = i) (hk : (mok ls i && Nat.ble (i + 1) ls.length) = true) (k : mV p l e R s m args below meth c Q G nL h0 hF (pc + 1) (ls.set i (some (.int v))) st h) : mV p l e R s m args below meth c Q G nL h0 hF pc ls (.int v :: st) h :=
  fun H locs cells slots lsA hR hL => lv_istore_n X.1 X.2.1 hd hi (mlh_has hL) (by have := mok_lt hk; rw [hL.1] at this; omega) rfl fun ls' h' => k H locs cells slots ls' hR (mlh_st1 (v := .int v) hL hk h')
theorem mv_istore (X : mCx G p R s m args c own cc nL h0) {i : Nat} {v : Int32} (hd : decode cc pc = .ok (.istore i, 2)) (hk : (mok ls i && Nat.ble (i + 1) ls.length) = true) (k : mV p l e R s m args below meth c Q G nL h0 hF (pc + 2) (ls.set i (some (.int v))) st h) : mV p l e R s m args below meth c Q G nL h0 hF pc ls (.int v :: st) h :=
  fun H locs cells slots lsA hR hL => lv_istore X.1 X.2.1 hd (mlh_has hL) (by have := mok_lt hk; rw [hL.1] at this; omega) rfl fun ls' h' => k H locs cells slots ls' hR (mlh_st1 (v := .int v) hL hk h')
theorem mv_lstore_n (X : mCx G p R s m args c own cc nL h0) {n : Fin 4} {i : Nat} {v : Int64} (hd : decode cc pc = .ok (.lstore_n n, 1)) (hi : (n : Nat) = i) (hk : (mok ls i && Nat.ble (i + 2) ls.length) = true) (k : mV p l e R s m args below meth c Q G nL h0 hF (pc + 1) ((ls.set i (some (.long v))).set (i + 1) none) st h) : mV p l e R s m args below meth c Q G nL h0 hF pc ls (.long v :: st) h :=
  fun H locs cells slots lsA hR hL => lv_lstore_n X.1 X.2.1 hd hi (mlh_has hL) (by have := mok_lt hk; rw [hL.1] at this; omega) rfl fun ls' h' => k H locs cells slots ls' hR (mlh_st2 (v := .long v) hL hk h')
theorem mv_lstore (X : mCx G p R s m args c own cc nL h0) {i : Nat} {v : Int64} (hd : decode cc pc = .ok (.lstore i, 2)) (hk : (mok ls i && Nat.ble (i + 2) ls.length) = true) (k : mV p l e R s m args below meth c Q G nL h0 hF (pc + 2) ((ls.set i (some (.long v))).set (i + 1) none) st h) : mV p l e R s m args below meth c Q G nL h0 hF pc ls (.long v :: st) h :=
  fun H locs cells slots lsA hR hL => lv_lstore X.1 X.2.1 hd (mlh_has hL) (by have := mok_lt hk; rw [hL.1] at this; omega) rfl fun ls' h' => k H locs cells slots ls' hR (mlh_st2 (v := .long v) hL hk h')
theorem mv_astore_n (X : mCx G p R s m args c own cc nL h0) {n : Fin 4} {i : Nat} {v : Nat} (hd : decode cc pc = .ok (.astore_n n, 1)) (hi : (n : Nat) = i) (hk : (mok ls i && Nat.ble (i + 1) ls.length) = true) (k : mV p l e R s m args below meth c Q G nL h0 hF (pc + 1) (ls.set i (some (.ref v))) st h) : mV p l e R s m args below meth c Q G nL h0 hF pc ls (.ref v :: st) h := by
  intro H locs cells slots lsA hR hL
  have hlt : i < nL := by have := mok_lt hk; rw [hL.1] at this; omega
  have h2 := fun (ls' : Array Slot) h' => k H locs cells slots ls' hR (mlh_st1 (v := .ref v) hL hk h')
  rw [List.map_cons]
  by_cases hv : v = 0
  · subst hv; exact lv_astore_nN X.1 X.2.1 hd hi (mlh_has hL) hlt rfl h2
  · rw [mtr_pos hv] at h2 ⊢; exact lv_astore_n X.1 X.2.1 hd hi (mlh_has hL) hlt rfl h2
theorem mv_astore (X : mCx G p R s m args c own cc nL h0) {i : Nat} {v : Nat} (hd : decode cc pc = .ok (.astore i, 2)) (hk : (mok ls i && Nat.ble (i + 1) ls.length) = true) (k : mV p l e R s m args below meth c Q G nL h0 hF (pc + 2) (ls.set i (some (.ref v))) st h) : mV p l e R s m args below meth c Q G nL h0 hF pc ls (.ref v :: st) h := by
  intro H locs cells slots lsA hR hL
  have hlt : i < nL := by have := mok_lt hk; rw [hL.1] at this; omega
  have h2 := fun (ls' : Array Slot) h' => k H locs cells slots ls' hR (mlh_st1 (v := .ref v) hL hk h')
  rw [List.map_cons]
  by_cases hv : v = 0
  · subst hv; exact lv_astoreN X.1 X.2.1 hd (mlh_has hL) hlt rfl h2
  · rw [mtr_pos hv] at h2 ⊢; exact lv_astore X.1 X.2.1 hd (mlh_has hL) hlt rfl h2
theorem mv_iinc (X : mCx G p R s m args c own cc nL h0) {i : Nat} {n : Int} {v x : Int32} (hd : decode cc pc = .ok (.iinc i n, 3)) (hx : Int32.ofInt n = x) (hl : ls[i]? = some (some (.int v))) (hk : (mok ls i && Nat.ble (i + 1) ls.length) = true) (k : mV p l e R s m args below meth c Q G nL h0 hF (pc + 3) (ls.set i (some (.int (v + x)))) st h) : mV p l e R s m args below meth c Q G nL h0 hF pc ls st h := by
  intro H locs cells slots lsA hR hL
  have hlt : i < nL := by have := mok_lt hk; rw [hL.1] at this; omega
  obtain ⟨q, hq⟩ := List.getElem?_of_mem (mla_mem (G := G).mpr ⟨_, hl, rfl⟩)
  exact lv_iinc X.1 X.2.1 hd (mlh_has hL) hq (by rw [hx]) hlt rfl fun ls' h' => k H locs cells slots ls' hR (mlh_st1 (v := .int (v + x)) hL hk h')
end MV
