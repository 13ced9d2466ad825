/-! THE BIG MACHINE'S HEAP AND THE SMALL ONE'S -/
/-- class numbers and slots; the first new cell, the given cells; their kinds, lengths, ints; the array classes -/
abbrev MG : Type := va_G × (Nat × (Nat → Nat) × Option Nat) × ((Nat → Nat) × (Nat → Nat) × (Nat → Nat → Int32) × (Nat → Nat → Nat)) × ClassId × ClassId × ClassId × ClassId
abbrev MG.D (G : MG) : va_G := G.1
abbrev MG.b (G : MG) : Nat := G.2.1.1
abbrev MG.E (G : MG) : Nat → Nat := G.2.1.2.1
abbrev MG.fo (G : MG) : Option Nat := G.2.1.2.2
abbrev MG.kx (G : MG) : Nat → Nat := G.2.2.1.1
abbrev MG.lx (G : MG) : Nat → Nat := G.2.2.1.2.1
abbrev MG.vx (G : MG) : Nat → Nat → Int32 := G.2.2.1.2.2.1
abbrev MG.rx (G : MG) : Nat → Nat → Nat := G.2.2.1.2.2.2
abbrev MG.cI (G : MG) : ClassId := G.2.2.2.1
abbrev MG.cL (G : MG) : ClassId := G.2.2.2.2.1
abbrev MG.cZ (G : MG) : ClassId := G.2.2.2.2.2.1
abbrev MG.cT (G : MG) : ClassId := G.2.2.2.2.2.2
def MG.tys (G : MG) : List (ClassId × FieldType) := [(G.cI, .int), (G.cL, .long), (G.cZ, .boolean), (G.cT, .object RX8)]
def MG.A (G : MG) : Nat → Prop := fun q => G.b ≤ q
def mad (G : MG) (a : Nat) : Nat := if a < 8 then G.E a else G.b + (a - 8)
def morf (G : MG) (a : Nat) : Option Nat := if a = 0 then none else some (mad G a)
def mtr (G : MG) : Value → Value
  | .ref a => va_rf (morf G a)
  | .retAddr _ => va_rf G.fo
  | v => v
theorem mtr_pos {G : MG} {a : Nat} (h : ¬ a = 0) : mtr G (.ref a) = .ref (mad G a) := by simp [mtr, morf, h, va_rf]
theorem mtr_null {G : MG} : mtr G (.ref 0) = .null := rfl
theorem mtr_cat (G : MG) (v : Value) : (mtr G v).category = v.category := by
  cases v with
  | ref a => by_cases h : a = 0 <;> simp [mtr, morf, h, va_rf, Value.category]
  | retAddr a => cases h : G.fo <;> simp [mtr, h, va_rf, Value.category]
  | _ => rfl
theorem mwords (G : MG) (st : List Value) : ((st.map (mtr G)).map fun v => v.category).sum = words st := by
  induction st with
  | nil => rfl
  | cons v l ih => simp only [List.map_cons, List.sum_cons, ih, mtr_cat, words]
/-- the fields' kinds: 0 int, 1 long, 2 a reference, 3 boolean -/
def mty : FieldType → Nat
  | .long => 1
  | .object _ => 2
  | .array _ => 2
  | .boolean => 3
  | _ => 0
def mfk (ci : Nat) : List Nat := match vwCl[ci]? with
  | some q => (List.range q.2.2).map fun k => match parseFieldDescriptor (q.2.1 k).2.2.1 with
    | some t => mty t
    | none => 0
  | none => []
def mfs (G : MG) (h : MH) (a ci : Nat) : List Value := (mfk ci).zipIdx.map fun q => mtr G (fv h a q.1 q.2)
def ment (G : MG) (h : MH) (a : Nat) : va_E :=
  if kd h a = 20 then .inl (G.cI, ln h a, .inl (gI h a))
  else if kd h a = 21 then .inl (G.cL, ln h a, .inr (.inl (gL h a)))
  else if kd h a = 22 then .inl (G.cZ, ln h a, .inl (gI h a))
  else if kd h a = 23 then .inl (G.cT, ln h a, .inr (.inr (.inr (.inr (fun j => morf G (gR h a j))))))
  else .inr (kd h a - 1, mfs G h a (kd h a - 1))
def mws (G : MG) (h : MH) : va_W := (List.range (mN h - 8)).map fun k => (G.b + k, ment G h (8 + k))
theorem mfs_get (G : MG) (h : MH) (a ci k : Nat) : (mfs G h a ci)[k]? = ((mfk ci)[k]?).map fun t => mtr G (fv h a t k) := by
  unfold mfs
  rw [List.getElem?_map, List.getElem?_zipIdx]
  cases (mfk ci)[k]? <;> simp
theorem mfs_len (G : MG) (h : MH) (a ci : Nat) : (mfs G h a ci).length = (mfk ci).length := by simp [mfs]
theorem mws_at (G : MG) (h : MH) (k : Nat) : (mws G h)[k]? = if k < mN h - 8 then some (G.b + k, ment G h (8 + k)) else none := by
  unfold mws
  rw [List.getElem?_map]
  by_cases hk : k < mN h - 8
  · rw [if_pos hk, List.getElem?_range hk]; rfl
  · rw [if_neg hk, List.getElem?_eq_none (by simpa using hk)]; rfl
theorem mws_get {G : MG} {h : MH} {a : Nat} (h6 : 8 ≤ a) (hn : a < mN h) : (mws G h)[a - 8]? = some (mad G a, ment G h a) := by
  rw [mws_at, if_pos (by omega)]
  unfold mad
  rw [if_neg (by omega), show 8 + (a - 8) = a by omega]
theorem mws_D (G : MG) (h : MH) : va_D G.A (mws G h) := by
  refine ⟨fun i j p q hi hj hpq => ?_, fun k q hk => ?_⟩
  · rw [mws_at] at hi hj
    split at hi
    · split at hj
      · cases hi; cases hj
        have : G.b + i = G.b + j := hpq
        omega
      · cases hj
    · cases hi
  · rw [mws_at] at hk
    split at hk
    · cases hk
      exact Nat.le_add_right _ _
    · cases hk
theorem mws_ext {G : MG} {h : MH} {w : va_W} (hl : w.length = mN h - 8) (hw : ∀ k, k < mN h - 8 → w[k]? = some (G.b + k, ment G h (8 + k))) : mws G h = w := by
  apply List.ext_getElem?
  intro k
  rw [mws_at]
  by_cases hk : k < mN h - 8
  · rw [if_pos hk, hw k hk]
  · rw [if_neg hk, List.getElem?_eq_none (by omega)]
theorem mws_len (G : MG) (h : MH) : (mws G h).length = mN h - 8 := by simp [mws]
/-- a cell is written -/
theorem mws_set {G : MG} {h h1 : MH} {a : Nat} {e : va_E} (h6 : 8 ≤ a) (hn : a < mN h) (hN : mN h1 = mN h) (he : ment G h1 a = e) (ho : ∀ b, b ≠ a → ment G h1 b = ment G h b) : (mws G h).set (a - 8) (mad G a, e) = mws G h1 := by
  symm
  refine mws_ext (by rw [List.length_set, mws_len, hN]) fun k hk => ?_
  rw [hN] at hk
  by_cases hka : a - 8 = k
  · subst hka
    rw [List.getElem?_set_self (by rw [mws_len]; omega)]
    unfold mad
    rw [if_neg (by omega), show 8 + (a - 8) = a by omega, he]
  · rw [List.getElem?_set_ne hka, mws_at, if_pos hk, ho _ (by omega)]
/-- a cell is made -/
theorem mws_new' {G : MG} {h h1 : MH} (h6 : 8 ≤ mN h) (hN : mN h1 = mN h + 1) {e : va_E} (he : ment G h1 (mN h) = e) (ho : ∀ b, b < mN h → ment G h1 b = ment G h b) : mws G h ++ [(G.b + (mN h - 8), e)] = mws G h1 := by
  symm
  refine mws_ext (by rw [List.length_append, mws_len, hN]; simp; omega) fun k hk => ?_
  rw [hN] at hk
  by_cases hka : k < mN h - 8
  · rw [List.getElem?_append_left (by rw [mws_len]; exact hka), mws_at, if_pos hka, ho _ (by omega)]
  · have e1 : k = mN h - 8 := by omega
    subst e1
    rw [List.getElem?_append_right (by rw [mws_len]; omega), mws_len, Nat.sub_self, show 8 + (mN h - 8) = mN h by omega, he]
    rfl
theorem mws_new {G : MG} {h : MH} {kn n : Nat} (h6 : 8 ≤ mN h) {e : va_E} (he : ment G (mA h kn n) (mN h) = e) (ho : ∀ b, b < mN h → ment G (mA h kn n) b = ment G h b) : mws G h ++ [(G.b + (mN h - 8), e)] = mws G (mA h kn n) := mws_new' h6 rfl he ho
/-- the small heap is well formed: nothing beyond its end, the given cells as they were, the others of other kinds -/
def mwf (G : MG) (h : MH) : Prop := (∀ a, mN h ≤ a → kd h a = 0) ∧ (∀ a, a < 8 → kd h a = G.kx a ∧ ln h a = G.lx a ∧ gI h a = G.vx a ∧ gR h a = G.rx a) ∧ 8 ≤ mN h ∧ ∀ a, 8 ≤ a → kd h a < 24
def mgx (G : MG) : Prop := G.kx 0 = 0 ∧ ∀ a, a < 8 → G.kx a = 0 ∨ 24 ≤ G.kx a
theorem mwf_lo {G : MG} {h : MH} {a : Nat} (hg : mgx G) (hw : mwf G h) (h0 : ¬ kd h a = 0) (h1 : kd h a < 24) : 8 ≤ a ∧ a < mN h := by
  refine ⟨?_, ?_⟩
  · rcases Nat.lt_or_ge a 8 with q | q
    · have e := (hw.2.1 a q).1
      rcases hg.2 a q with z | z <;> omega
    · exact q
  · rcases Nat.lt_or_ge a (mN h) with q | q
    · exact q
    · exact absurd (hw.1 a q) h0
theorem mwf_24 {G : MG} {h : MH} {a : Nat} (hw : mwf G h) (h1 : 24 ≤ kd h a) : a < 8 := by
  rcases Nat.lt_or_ge a 8 with q | q
  · exact q
  · have := hw.2.2.2 a q
    omega
theorem kd_rI (h : MH) (a b : Nat) (f : Nat → Int32) : kd (rI h a f) b = kd h b := rfl
theorem ln_rI (h : MH) (a b : Nat) (f : Nat → Int32) : ln (rI h a f) b = ln h b := rfl
theorem kd_rL (h : MH) (a b : Nat) (f : Nat → Int64) : kd (rL h a f) b = kd h b := rfl
theorem ln_rL (h : MH) (a b : Nat) (f : Nat → Int64) : ln (rL h a f) b = ln h b := rfl
theorem kd_rR (h : MH) (a b : Nat) (f : Nat → Nat) : kd (rR h a f) b = kd h b := rfl
theorem ln_rR (h : MH) (a b : Nat) (f : Nat → Nat) : ln (rR h a f) b = ln h b := rfl
theorem gI_rI (h : MH) (a b : Nat) (f : Nat → Int32) : gI (rI h a f) b = if b = a then f else gI h b := rfl
theorem gL_rI (h : MH) (a b : Nat) (f : Nat → Int32) : gL (rI h a f) b = gL h b := rfl
theorem gR_rI (h : MH) (a b : Nat) (f : Nat → Int32) : gR (rI h a f) b = gR h b := rfl
theorem gI_rL (h : MH) (a b : Nat) (f : Nat → Int64) : gI (rL h a f) b = gI h b := rfl
theorem gL_rL (h : MH) (a b : Nat) (f : Nat → Int64) : gL (rL h a f) b = if b = a then f else gL h b := rfl
theorem gR_rL (h : MH) (a b : Nat) (f : Nat → Int64) : gR (rL h a f) b = gR h b := rfl
theorem gI_rR (h : MH) (a b : Nat) (f : Nat → Nat) : gI (rR h a f) b = gI h b := rfl
theorem gL_rR (h : MH) (a b : Nat) (f : Nat → Nat) : gL (rR h a f) b = gL h b := rfl
theorem gR_rR (h : MH) (a b : Nat) (f : Nat → Nat) : gR (rR h a f) b = if b = a then f else gR h b := rfl
theorem mwf_rI {G : MG} {h : MH} {a : Nat} (hw : mwf G h) (h6 : 8 ≤ a) (f : Nat → Int32) : mwf G (rI h a f) := by
  refine ⟨hw.1, fun b hb => ⟨(hw.2.1 b hb).1, (hw.2.1 b hb).2.1, ?_, (hw.2.1 b hb).2.2.2⟩, hw.2.2.1, hw.2.2.2⟩
  rw [gI_rI, if_neg (by omega)]
  exact (hw.2.1 b hb).2.2.1
theorem mwf_rL {G : MG} {h : MH} {a : Nat} (hw : mwf G h) (f : Nat → Int64) : mwf G (rL h a f) := ⟨hw.1, hw.2.1, hw.2.2.1, hw.2.2.2⟩
theorem mwf_rR {G : MG} {h : MH} {a : Nat} (hw : mwf G h) (h8 : 8 ≤ a) (f : Nat → Nat) : mwf G (rR h a f) := by
  refine ⟨hw.1, fun b hb => ⟨(hw.2.1 b hb).1, (hw.2.1 b hb).2.1, (hw.2.1 b hb).2.2.1, ?_⟩, hw.2.2.1, hw.2.2.2⟩
  rw [gR_rR, if_neg (by omega)]
  exact (hw.2.1 b hb).2.2.2
theorem kd_mA (h : MH) (kn n b : Nat) : kd (mA h kn n) b = if b = mN h then kn else kd h b := by unfold kd mA mN; dsimp only; split <;> rfl
theorem ln_mA (h : MH) (kn n b : Nat) : ln (mA h kn n) b = if b = mN h then n else ln h b := by unfold ln mA mN; dsimp only; split <;> rfl
theorem gI_mA (h : MH) (kn n b : Nat) : gI (mA h kn n) b = if b = mN h then (fun _ => 0) else gI h b := rfl
theorem gL_mA (h : MH) (kn n b : Nat) : gL (mA h kn n) b = if b = mN h then (fun _ => 0) else gL h b := rfl
theorem gR_mA (h : MH) (kn n b : Nat) : gR (mA h kn n) b = if b = mN h then (fun _ => 0) else gR h b := rfl
theorem mwf_mA {G : MG} {h : MH} {kn n : Nat} (hw : mwf G h) (hk : kn < 24) : mwf G (mA h kn n) := by
  have h6 := hw.2.2.1
  refine ⟨fun a ha => ?_, fun a ha => ?_, by show 8 ≤ mN h + 1; omega, fun a ha => ?_⟩
  · have ha : mN h + 1 ≤ a := ha
    rw [kd_mA, if_neg (by omega)]
    exact hw.1 a (by omega)
  · rw [kd_mA, ln_mA, gI_mA, gR_mA, if_neg (by omega), if_neg (by omega), if_neg (by omega), if_neg (by omega)]
    exact hw.2.1 a ha
  · rw [kd_mA]
    split
    · exact hk
    · exact hw.2.2.2 a ha
theorem ment_rI {G : MG} {h : MH} {a b : Nat} {f : Nat → Int32} (hb : b ≠ a) : ment G (rI h a f) b = ment G h b := by
  have e : gI (rI h a f) b = gI h b := by rw [gI_rI, if_neg hb]
  have e2 : ∀ ci, mfs G (rI h a f) b ci = mfs G h b ci := by
    intro ci
    unfold mfs
    congr 1
    funext q
    unfold fv
    rw [e]
    rfl
  unfold ment
  rw [e, e2]
  rfl
theorem ment_rL {G : MG} {h : MH} {a b : Nat} {f : Nat → Int64} (hb : b ≠ a) : ment G (rL h a f) b = ment G h b := by
  have e : gL (rL h a f) b = gL h b := by rw [gL_rL, if_neg hb]
  have e2 : ∀ ci, mfs G (rL h a f) b ci = mfs G h b ci := by
    intro ci
    unfold mfs
    congr 1
    funext q
    unfold fv
    rw [e]
    rfl
  unfold ment
  rw [e, e2]
  rfl
theorem ment_rR {G : MG} {h : MH} {a b : Nat} {f : Nat → Nat} (hb : b ≠ a) : ment G (rR h a f) b = ment G h b := by
  have e : gR (rR h a f) b = gR h b := by rw [gR_rR, if_neg hb]
  have e2 : ∀ ci, mfs G (rR h a f) b ci = mfs G h b ci := by
    intro ci
    unfold mfs
    congr 1
    funext q
    unfold fv
    rw [e]
    rfl
  unfold ment
  rw [e, e2]
  rfl
theorem ment_mA {G : MG} {h : MH} {kn n b : Nat} (hb : b < mN h) : ment G (mA h kn n) b = ment G h b := by
  have hn : ¬ b = mN h := by omega
  have e1 : gI (mA h kn n) b = gI h b := by rw [gI_mA, if_neg hn]
  have e2 : gL (mA h kn n) b = gL h b := by rw [gL_mA, if_neg hn]
  have e3 : gR (mA h kn n) b = gR h b := by rw [gR_mA, if_neg hn]
  have e4 : kd (mA h kn n) b = kd h b := by rw [kd_mA, if_neg hn]
  have e5 : ln (mA h kn n) b = ln h b := by rw [ln_mA, if_neg hn]
  have e6 : ∀ ci, mfs G (mA h kn n) b ci = mfs G h b ci := by
    intro ci
    unfold mfs
    congr 1
    funext q
    unfold fv
    rw [e1, e2, e3]
  unfold ment
  rw [e1, e2, e3, e4, e5, e6]
/-- the locals of both -/
def mal : Nat → ML → List (Nat × Value)
  | _, [] => []
  | i, none :: l => mal (i + 1) l
  | i, some v :: l => (i, v) :: mal (i + 1) l
def mlh (G : MG) (ls : Array Slot) (n : Nat) (L : ML) : Prop := L.length = n ∧ ls.size = n ∧ lv_wf ls ∧ ∀ (i : Nat) (v : Value), L[i]? = some (some v) → ls[i]? = some (.val (mtr G v))
