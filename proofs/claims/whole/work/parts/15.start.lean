/-! THE START: the law of the big machine out of the small one (the rows of the skeleton stand first) -/
/-! THE CLAIM OUT OF ONE WALK OF THE LAW'S BODY. Your part is whole_start (and what it stands on); all else here is the same for every law, but numbers. -/
def R_law : String := "BoroughBeamLaw"
def lw_P (b : Addr) (xs : List Int32) (args : Array Value) (s : State) : Prop := args = #[.ref b] ∧ s.IntsAt b xs ∧ xs.length ≤ 384 ∧ (Jvm.Cond.and given_1 narrow_1).before args s = true
def lw_Q (_ : Array Value) (s : State) (o : Outcome) (t : State) : Prop := o = .returned (some (.int 1)) ∧ Framed s o t [] 600000 7302250
def lw_Z (below : List Frame) (a : Array Value) (s : State) : State → Prop := fun t => ∃ o, t.status = .running ∧ Ended t below o ∧ lw_Q a s o t
/-- the law's own end, with 1 on the stack, nothing written that was there before, its room as the claim has it -/
theorem lw_ret {p : Program} {l : Launch} {e : Env} {s : State} {m : MethodId} {below : List Frame} {meth : Method} {c : Code} {b : Nat} (hx : p.tables.exec = Jvm.exec) (hb : c.code = code) (hr : meth.sig.returnType = ret) (hlocks : meth.locks = false) {pc : Nat} {H : Heap} {ls : Array Slot} (hdg : decode code pc = .ok (.ireturn, 1)) : W p l e room_1 s m #[Value.ref b] below meth c H [] 600000 7302250 (lw_Z below #[Value.ref b] s) (F0 m pc ls [.int 1]) := by
  intro T hT X
  obtain ⟨fs, hret, hrun, hended, hW, hframe⟩ := X.leave (v := some (.int 1)) (hlocks := hlocks) (fun h => by rw [hr] at h; cases h)
  have hmeth' : T.vm.method? m = some meth := X.method'
  refine ⟨T.setFrames fs, ?_, .returned (some (.int 1)), hrun, hended, rfl, ⟨_, rfl⟩, hW, hframe⟩
  jvm_step X.here [X.here.top, hx, hb, hdg, hmeth', hr, ret, narrow_b1]
  (try refine ⟨rfl, ?_⟩); (try refine ⟨rfl, ?_⟩)
  first | (intro acts; rw [hret _ acts rfl rfl rfl]) | rw [hret _ _ rfl rfl rfl]
  exact Steps.refl _
/-- what holds at the law's entry: the machine, the code, the tables' words (any of lw_tbl by 'hts w (by decide +kernel)'), the script of L ints xs at the cell b, what the Statement gives of the start (any of its parts by flat_of_before) -/
def lw_At (p : Program) (s : State) (m : MethodId) (meth : Method) (c : Code) (b L : Nat) (xs : Nat → Int32) : Prop :=
  p.tables.exec = Jvm.exec ∧ c.code = code ∧ meth.sig.returnType = ret ∧ c.maxLocals = 4 ∧ s.vm.findClass R_law = some m.cls ∧ (∀ w ∈ lw_tbl, w.before #[Value.ref b] s = true) ∧ va_X b L xs s s.heap ∧ b < s.heap.size ∧ meth.locks = false ∧ (Jvm.Cond.and given_1 narrow_1).before #[Value.ref b] s = true
def mbW : List Int32 := [116, 105, 112, 115, 32, 115, 108, 105, 100, 101, 115, 32, 112, 101, 114, 115, 111, 110, 32, 103, 111, 97, 108, 32, 108, 101, 102, 116, 32, 114, 105, 103, 104, 116, 32, 115, 104, 111, 118, 101, 108, 32, 104, 111, 117, 114, 32, 116, 105, 112, 32, 97, 108, 108, 32, 115, 110, 111, 119, 32, 119, 104, 111, 32, 119, 101, 105, 103, 104, 116, 32, 112, 108, 97, 99, 101, 32, 97, 116, 32, 115, 105, 103, 110, 32, 108, 111, 97, 100, 32, 105, 102, 32, 116, 104, 101, 110, 32, 101, 108, 115, 101, 32, 101, 110, 100, 32, 111, 114, 32, 97, 110, 100, 32, 110, 111, 116, 32]
def mbS : List Int32 := [60, 62, 61, 35, 43, 45, 42, 47, 40, 41, 59]
def mby (i : Nat) : List Int32 := match i with
  | 0 => mbW
  | _ => mbS
/-- the given cells: kinds, lengths, ints, references -/
def x0k (a : Nat) : Nat := match a with
  | 1 => 24
  | 2 => 24
  | 3 => 24
  | 4 => 25
  | 5 => 25
  | 6 => 26
  | 7 => 26
  | _ => 0
def x0l (L : Nat) (a : Nat) : Nat := match a with
  | 1 => L
  | 2 => 5
  | 3 => 5
  | 6 => 118
  | 7 => 11
  | _ => 0
def mpw (j : Nat) : Int32 := match j with
  | 0 => 1
  | 1 => 9
  | 2 => 81
  | 3 => 729
  | 4 => 6561
  | _ => 0
def mfc (j : Nat) : Int32 := match j with
  | 0 => 1
  | 1 => 1
  | 2 => 2
  | 3 => 6
  | 4 => 24
  | _ => 0
def x0v (xs : Nat → Int32) (a : Nat) : Nat → Int32 := match a with
  | 1 => xs
  | 2 => mpw
  | 3 => mfc
  | 6 => fun j => mbW.getD j 0
  | 7 => fun j => mbS.getD j 0
  | _ => fun _ => 0
def x0r (a : Nat) : Nat → Nat := match a with
  | 4 => fun _ => 6
  | 5 => fun _ => 7
  | _ => fun _ => 0
/-- the small machine's heap at the start -/
def mh0 (L : Nat) (xs : Nat → Int32) : MH := (((8, 0), fun a => (x0k a, x0l L a)), x0v xs, (fun _ _ => 0), x0r)
/-- WHAT IS LEFT TO SHOW, of the small machine alone -/
def lawOK : Prop := ∀ (L : Nat) (xs : Nat → Int32), L ≤ 384 → ∃ hF, mX (mE mtab 100) KL_law 0 [some (.ref 1), none, none, none] [] (mh0 L xs) = some (.int 1, hF) ∧ mN hF ≤ 600008 ∧ mS hF ≤ 7302250
def lawOKN : Prop := ∀ (L : Nat) (xs : Nat → Int32), L ≤ 384 → ∃ hF, mX (mE jtab 102) KL_law 0 [some (.ref 1), none, none, none] [] (mh0 L xs) = some (.int 1, hF) ∧ mN hF ≤ 600008 ∧ mS hF ≤ 7302250
theorem mkn_all {s : State} {args : Array Value} (hts : ∀ w ∈ lw_tbl, w.before args s = true) : ∃ D : va_G, ∀ (k : Nat) (q : vw_C), vwCl[k]? = some q → u_Kn s q.1 q.2.1 q.2.2 (D.1 k) (D.2 k) := by
  have hi : ∀ (k : Nat) (q : vw_C), vwCl[k]? = some q → Cond.instantiable q.1 q.2.2 ∈ lw_tbl := by
    intro k q h
    have hl : k < 12 := (List.getElem?_eq_some_iff.mp h).1
    match k, hl, h with
    | 0, _, h => cases h; decide +kernel
    | 1, _, h => cases h; decide +kernel
    | 2, _, h => cases h; decide +kernel
    | 3, _, h => cases h; decide +kernel
    | 4, _, h => cases h; decide +kernel
    | 5, _, h => cases h; decide +kernel
    | 6, _, h => cases h; decide +kernel
    | 7, _, h => cases h; decide +kernel
    | 8, _, h => cases h; decide +kernel
    | 9, _, h => cases h; decide +kernel
    | 10, _, h => cases h; decide +kernel
    | 11, _, h => cases h; decide +kernel
  have h1 : ∀ k : Nat, ∃ p : ClassId × (Nat → Nat), ∀ q : vw_C, vwCl[k]? = some q → u_Kn s q.1 q.2.1 q.2.2 p.1 p.2 := by
    intro k
    cases hq : vwCl[k]? with
    | none => exact ⟨(0, fun _ => 0), fun q h => by cases h⟩
    | some q =>
      obtain ⟨cC, iS, h2⟩ := u_known (n := q.2.2) (fun w hw => hts w (List.mem_filter.mp hw).1) (mcls_at hq).1.1 (hts _ (hi k q hq))
      exact ⟨(cC, iS), fun q' h => by cases h; exact h2⟩
  obtain ⟨f, hf⟩ := Classical.axiomOfChoice h1
  exact ⟨(fun k => (f k).1, fun k => (f k).2), fun k q h => hf k q h⟩
theorem marr {s : State} {args : Array Value} {ty : FieldType} (h : (Cond.arrayClass ty).before args s = true) (hr : ∀ C, ty ≠ .object C) : ∃ cA, ArrOfT s cA ty ∧ va_RA s cA ty := by
  obtain ⟨cA, k, comp, h1, h2, h3⟩ := Cond.arrayClass_spec (args := args) (first := s) (o := none) (s := s) (idx := []) h
  refine ⟨cA, fun n z => ⟨fun k h => (by cases h), k, h2, comp, h3⟩, ?_⟩
  cases ty with
  | object C => exact absurd rfl (hr C)
  | _ => exact h1
theorem marrT {s : State} (h : va_AO RX8 s) : ∃ cA, ArrOfT s cA (.object RX8) ∧ va_RA s cA (.object RX8) := by
  obtain ⟨comp, cA, k, h1, -, h2, h3, h4⟩ := Cond.arrayOver_spec (args := #[]) (first := s) (o := none) (s := s) (idx := []) h
  exact ⟨cA, fun n z => ⟨fun k h => (by cases h), k, h2, comp, h3⟩, k, comp, h2, h3, h1, h4⟩
theorem mstat {s : State} {args : Array Value} {f : Nat → Int32} {n : String} {A : Nat → Prop} (hts : ∀ w ∈ lw_tbl, w.before args s = true) (hl : Cond.laysStatic "BoroughBeam" n "[I" ∈ lw_tbl) (harr : (Cond.arrayOf (.static "BoroughBeam" n "[I") .int).before args s = true) (hlen : (Cond.eq (.length (.static "BoroughBeam" n "[I")) (.int 5)).before args s = true) (hel : ∀ j, j < 5 → (Cond.eq (.elem (.static "BoroughBeam" n "[I") (.int (Int32.ofNat j))) (.int (f j))).before args s = true) (hA : ∀ a : Nat, a < s.heap.size → ¬ A a) : ∃ t, va_T .int t 5 (fun j => .int (f j)) A s s.heap ∧ va_Z "BoroughBeam" n "[I" (.ref t) A s s.heap := by
  obtain ⟨t, ht, hT⟩ := va_Tof (N := 5) (f := fun j => .int (f j)) (A := A) (by decide) harr (va_eqt hlen) (fun j hj => va_eqt (hel j hj)) hA
  exact ⟨t, hT, va_Zof (hts _ hl) (hts _ (by decide +kernel)) ht hA⟩
def mtmS (i : Nat) : Term := match i with
  | 0 => .string "BoroughBeam$Tape" 67
  | _ => .string "BoroughBeam$Tape" 81
theorem mstr_el : ∀ i, i < 2 → ∀ j, j < ([118, 11] : List Nat).getD i 0 → Cond.eq (.elem (.field (mtmS i) "java/lang/String" "value" "[B") (.int (Int32.ofNat j))) (.int ((([mbW, mbS] : List (List Int32)).getD i []).getD j 0)) ∈ flatC (Jvm.Cond.and given_1 narrow_1) := by decide +kernel
theorem mstr_1 : ∀ i, i < 2 → Cond.exactly (mtmS i) "java/lang/String" ∈ flatC (Jvm.Cond.and given_1 narrow_1) ∧ Cond.eq (.field (mtmS i) "java/lang/String" "coder" "B") (.int 0) ∈ flatC (Jvm.Cond.and given_1 narrow_1) ∧ Cond.arrayOf (.field (mtmS i) "java/lang/String" "value" "[B") .byte ∈ flatC (Jvm.Cond.and given_1 narrow_1) ∧ Cond.eq (.length (.field (mtmS i) "java/lang/String" "value" "[B")) (.int (Int32.ofNat (([118, 11] : List Nat).getD i 0))) ∈ flatC (Jvm.Cond.and given_1 narrow_1) := by decide +kernel
theorem mstr_ne : ∀ i, i < 2 → ∀ j, j < 2 → i ≠ j → Cond.not (Cond.eq (mtmS i) (mtmS j)) ∈ flatC (Jvm.Cond.and given_1 narrow_1) ∨ Cond.not (Cond.eq (mtmS j) (mtmS i)) ∈ flatC (Jvm.Cond.and given_1 narrow_1) := by decide +kernel
theorem mpw_el : ∀ j, j < 5 → Cond.eq (.elem (.static "BoroughBeam" "POWERS" "[I") (.int (Int32.ofNat j))) (.int (mpw j)) ∈ flatC (Jvm.Cond.and given_1 narrow_1) := by decide +kernel
theorem mfc_el : ∀ j, j < 5 → Cond.eq (.elem (.static "BoroughBeam" "FACTORIALS" "[I") (.int (Int32.ofNat j))) (.int (mfc j)) ∈ flatC (Jvm.Cond.and given_1 narrow_1) := by decide +kernel
theorem mww_0 : Cond.arrayOver (.object RX8) ∈ lw_tbl := by decide +kernel
theorem mww_1 : Cond.arrayClass .int ∈ lw_tbl := by decide +kernel
theorem mww_2 : Cond.arrayClass .long ∈ lw_tbl := by decide +kernel
theorem mww_3 : Cond.arrayClass .boolean ∈ lw_tbl := by decide +kernel
theorem mww_4 : Cond.laysStatic "java/lang/String" "COMPACT_STRINGS" "Z" ∈ lw_tbl := by decide +kernel
theorem mww_5 : Cond.initialized "java/lang/String" ∈ lw_tbl := by decide +kernel
theorem mww_6 : Cond.laysStatic "jdk/internal/util/Preconditions" "SIOOBE_FORMATTER" "Ljava/util/function/BiFunction;" ∈ lw_tbl := by decide +kernel
theorem mww_7 : Cond.initialized "jdk/internal/util/Preconditions" ∈ lw_tbl := by decide +kernel
theorem mww_8 : Cond.stringRef "BoroughBeam$Tape" 67 "tips slides person goal left right shovel hour tip all snow who weight place at sign load if then else end or and not " ∈ lw_tbl := by decide +kernel
theorem mww_9 : Cond.stringRef "BoroughBeam$Tape" 81 "<>=#+-*/();" ∈ lw_tbl := by decide +kernel
theorem mww_20 : Cond.laysStatic "BoroughBeam" "POWERS" "[I" ∈ lw_tbl := by decide +kernel
theorem mww_21 : Cond.arrayOf (.static "BoroughBeam" "POWERS" "[I") .int ∈ flatC (Jvm.Cond.and given_1 narrow_1) := by decide +kernel
theorem mww_22 : Cond.eq (.length (.static "BoroughBeam" "POWERS" "[I")) (.int 5) ∈ flatC (Jvm.Cond.and given_1 narrow_1) := by decide +kernel
theorem mww_23 : Cond.laysStatic "BoroughBeam" "FACTORIALS" "[I" ∈ lw_tbl := by decide +kernel
theorem mww_24 : Cond.arrayOf (.static "BoroughBeam" "FACTORIALS" "[I") .int ∈ flatC (Jvm.Cond.and given_1 narrow_1) := by decide +kernel
theorem mww_25 : Cond.eq (.length (.static "BoroughBeam" "FACTORIALS" "[I")) (.int 5) ∈ flatC (Jvm.Cond.and given_1 narrow_1) := by decide +kernel
theorem mww_30 : Cond.eq (.static "java/lang/String" "COMPACT_STRINGS" "Z") (.int 1) ∈ flatC (Jvm.Cond.and given_1 narrow_1) := by decide +kernel
theorem mww_31 : Cond.isRef (.static "jdk/internal/util/Preconditions" "SIOOBE_FORMATTER" "Ljava/util/function/BiFunction;") ∈ flatC (Jvm.Cond.and given_1 narrow_1) := by decide +kernel
def mEad (b t2 t3 k0 k1 v0 v1 : Nat) (a : Nat) : Nat := match a with
  | 1 => b
  | 2 => t2
  | 3 => t3
  | 4 => k0
  | 5 => k1
  | 6 => v0
  | 7 => v1
  | _ => 0
set_option maxHeartbeats 4000000 in
set_option maxRecDepth 100000 in
theorem mstart_env {s : State} {b L : Nat} {xs : Nat → Int32} (hts : ∀ w ∈ lw_tbl, w.before #[Value.ref b] s = true) (hX : va_X b L xs s s.heap) (hbl : b < s.heap.size) (hgv : (Jvm.Cond.and given_1 narrow_1).before #[Value.ref b] s = true) : ∃ G : MG, mEnv G s ∧ mwf G (mh0 L xs) ∧ G.b = s.heap.size ∧ mtr G (.ref 1) = .ref b := by
  obtain ⟨D, hD⟩ := mkn_all hts
  have hAO : va_AO RX8 s := va_AO.of (hts _ mww_0)
  obtain ⟨cI, hI⟩ := marr (ty := .int) (hts _ mww_1) (fun _ h => by cases h)
  obtain ⟨cL, hcL⟩ := marr (ty := .long) (hts _ mww_2) (fun _ h => by cases h)
  obtain ⟨cZ, hcZ⟩ := marr (ty := .boolean) (hts _ mww_3) (fun _ h => by cases h)
  obtain ⟨cT, hcT⟩ := marrT hAO
  have hfl := flat_of_before _ hgv
  have hA : ∀ a : Nat, a < s.heap.size → ¬ (fun q : Nat => s.heap.size ≤ q) a := fun a h1 h2 => Nat.not_le.mpr h1 h2
  obtain ⟨t2, hT2, hZ2⟩ := mstat (n := "POWERS") (f := mpw) (A := fun q : Nat => s.heap.size ≤ q) hts mww_20 (hfl _ mww_21) (hfl _ mww_22) (fun j hj => hfl _ (mpw_el j hj)) hA
  obtain ⟨t3, hT3, hZ3⟩ := mstat (n := "FACTORIALS") (f := mfc) (A := fun q : Nat => s.heap.size ≤ q) hts mww_23 (hfl _ mww_24) (hfl _ mww_25) (fun j hj => hfl _ (mfc_el j hj)) hA
  obtain ⟨adK, adV, hS2, hev⟩ := vk_Sof (args := #[Value.ref b]) (s := s) (N := 2) (tm := mtmS) (len := [118, 11]) (byt := [mbW, mbS]) (A := fun q : Nat => s.heap.size ≤ q) (by decide) (fun i hi => hfl _ (mstr_1 i hi).1) (fun i hi => hfl _ (mstr_1 i hi).2.1) (fun i hi => hfl _ (mstr_1 i hi).2.2.1) (fun i hi => hfl _ (mstr_1 i hi).2.2.2) (fun i hi j hj => hfl _ (mstr_el i hi j hj)) (fun i j hi hj hne => (mstr_ne i hi j hj hne).imp (hfl _) (hfl _)) hA
  have hCS : va_Z "java/lang/String" "COMPACT_STRINGS" "Z" (.int 1) (fun q : Nat => s.heap.size ≤ q) s s.heap := va_Zof (hts _ mww_4) (hts _ mww_5) (va_eqt (hfl _ mww_30)) hA
  obtain ⟨fo, hSF⟩ : ∃ fo : Option Nat, va_Z "jdk/internal/util/Preconditions" "SIOOBE_FORMATTER" "Ljava/util/function/BiFunction;" (va_rf fo) (fun q : Nat => s.heap.size ≤ q) s s.heap := by
    obtain ⟨v, hv, hvr⟩ := Cond.isRef_spec (args := #[Value.ref b]) (first := s) (o := none) (s := s) (idx := []) (hfl _ mww_31)
    have hz := va_Zof (A := fun q : Nat => s.heap.size ≤ q) (hts _ mww_6) (hts _ mww_7) hv hA
    cases v with
    | null => exact ⟨none, hz⟩
    | ref a => exact ⟨some a, hz⟩
    | _ => cases hvr
  obtain ⟨G, hG⟩ : ∃ G : MG, G = (D, (s.heap.size, mEad b t2 t3 (adK 0) (adK 1) (adV 0) (adV 1), fo), (x0k, x0l L, x0v xs, x0r), cI, cL, cZ, cT) := ⟨_, rfl⟩
  have hTX : va_T .int b L (fun j => .int (xs j)) (fun q : Nat => s.heap.size ≤ q) s s.heap := by
    obtain ⟨scr, h1, h2, h3, h4, h5⟩ := hX
    exact ⟨scr, h1, h2, h3, by omega, by rw [h4], h5, hA b hbl⟩
  have hwf : mwf G (mh0 L xs) := by
    subst hG
    refine ⟨fun a ha => ?_, fun a ha => ⟨rfl, rfl, rfl, rfl⟩, Nat.le_refl _, fun a ha => ?_⟩
    · have ha : 8 ≤ a := ha
      show x0k a = 0
      unfold x0k
      split <;> first | rfl | omega
    · show x0k a < 24
      have : x0k a = 0 := by
        unfold x0k
        split <;> first | rfl | omega
      omega
  have henv : mEnv G s := by
    subst hG
    refine ⟨⟨hD, fun k q h => ?_⟩, fun w hw => ?_, hAO, fun z hz => ?_, ⟨rfl, fun a ha => ?_⟩, fun a ha hk => ?_, fun a ha hk => ?_, fun a ha hk => ?_, fun z hz => ?_, fun z hz => ?_, hSF⟩
    · match k, h with
      | 0, h => cases h; exact hI
      | 1, h => cases h; exact hcL
      | 2, h => cases h; exact hcZ
      | 3, h => cases h; exact hcT
      | k + 4, h => simp [MG.tys] at h
    · have h1 := List.mem_filter.mp hw
      have h2 := hts w h1.1
      have h3 := h1.2
      cases w <;> first | (simp [isNestW] at h3; done) | exact va_Nw.of rfl h2
    · simp only [mzs, List.mem_cons, List.not_mem_nil, or_false] at hz
      rcases hz with rfl | rfl
      · exact hZ2
      · exact hZ3
    · show x0k a = 0 ∨ 24 ≤ x0k a
      unfold x0k
      split <;> first | exact Or.inl rfl | exact Or.inr (by decide)
    · match a, ha, hk with
      | 0, _, hk => cases hk
      | 1, _, _ => exact hTX
      | 2, _, _ => exact hT2
      | 3, _, _ => exact hT3
      | 4, _, hk => cases hk
      | 5, _, hk => cases hk
      | 6, _, hk => cases hk
      | 7, _, hk => cases hk
    · match a, ha, hk with
      | 0, _, hk => cases hk
      | 1, _, hk => cases hk
      | 2, _, hk => cases hk
      | 3, _, hk => cases hk
      | 4, _, hk => cases hk
      | 5, _, hk => cases hk
      | 6, _, _ => exact (hS2.1 0 (by decide)).2.2.2
      | 7, _, _ => exact (hS2.1 1 (by decide)).2.2.2
    · match a, ha, hk with
      | 0, _, hk => cases hk
      | 1, _, hk => cases hk
      | 2, _, hk => cases hk
      | 3, _, hk => cases hk
      | 4, _, _ => exact ⟨(hS2.1 0 (by decide)).1, (hS2.1 0 (by decide)).2.1, (hS2.1 0 (by decide)).2.2.1, (show 0 < 6 by decide), (show 6 < 8 by decide)⟩
      | 5, _, _ => exact ⟨(hS2.1 1 (by decide)).1, (hS2.1 1 (by decide)).2.1, (hS2.1 1 (by decide)).2.2.1, (show 0 < 7 by decide), (show 7 < 8 by decide)⟩
      | 6, _, hk => cases hk
      | 7, _, hk => cases hk
    · simp only [mzi, List.mem_cons, List.not_mem_nil, or_false] at hz
      subst hz
      exact hCS
    · simp only [mzt, List.mem_cons, List.not_mem_nil, or_false] at hz
      rcases hz with rfl | rfl
      · exact vk_R.of (A := #[Value.ref b]) (hts _ mww_8) (hev 0 (by decide))
      · exact vk_R.of (A := #[Value.ref b]) (hts _ mww_9) (hev 1 (by decide))
  have hGb : G.b = s.heap.size := by subst hG; rfl
  have hE1 : mtr G (.ref 1) = .ref b := by subst hG; rfl
  exact ⟨G, henv, hwf, hGb, hE1⟩
set_option maxHeartbeats 4000000 in
theorem mlaw_ret {p : Program} {l : Launch} {e : Env} {s : State} {m : MethodId} {below : List Frame} {meth : Method} {c : Code} {b L : Nat} {xs : Nat → Int32} {G : MG} {hF : MH} (hx : p.tables.exec = Jvm.exec) (hb : c.code = code) (hr : meth.sig.returnType = ret) (hlocks : meth.locks = false) (hGb : G.b = s.heap.size) (hcells : mN hF ≤ 600008) (hslots : mS hF ≤ 7302250) : ∀ k i ls st h, KL_law[k]? = some i → mst i k ls st h (mE jtab 102) = some (.inr (.int 1, hF)) → mV p l e room_1 s m #[Value.ref b] below meth c (fun _ _ => lw_Z below #[Value.ref b] s) G 4 (mh0 L xs) hF i.1 ls st h := by
  intro k i ls st h hi hs
  have hrt := mst_ret hs
  obtain ⟨ps, hok⟩ := law_all k i hi
  obtain ⟨pc, ins, x, y, sw, a, b', c', d, e'⟩ := i
  cases ins <;> first | (cases hrt; done) | skip
  case ireturn =>
    simp only [mokB, Bool.and_eq_true] at hok
    have hd := mdec_of hok.1
    simp only [mst] at hs
    split at hs
    · obtain ⟨hc, hs⟩ := mck_some hs
      cases hs
      intro H locs cells slots lsA hR hL
      have c1 := hR.2.2.2.1
      have c2 := hR.2.2.2.2
      have c3 : mN (mh0 L xs) = 8 := rfl
      have c4 : mS (mh0 L xs) = 0 := rfl
      refine va_forget (fun q hq => by rw [← hGb]; exact hR.2.1.2.2 q hq) ?_
      refine W.widen (k := 600000) (n := 7302250) (by omega) (by omega) ?_
      exact lw_ret hx hb hr hlocks hd
    · cases hs
  case lreturn =>
    simp only [mst] at hs
    split at hs <;> cases hs
  case areturn =>
    simp only [mst] at hs
    split at hs <;> cases hs
  case return_ =>
    simp only [mst] at hs
    split at hs <;> cases hs
theorem room_f : room_1.frames = 2048 := rfl
theorem room_l : room_1.locals = 84000 := rfl
theorem room_c : room_1.cells = 600000 := rfl
theorem room_s : room_1.slots = 7302250 := rfl
theorem mh0_N (L : Nat) (xs : Nat → Int32) : mN (mh0 L xs) = 8 := rfl
theorem mh0_S (L : Nat) (xs : Nat → Int32) : mS (mh0 L xs) = 0 := rfl
theorem law_b0 : mbp KL_law 0 = 0 := rfl
set_option maxHeartbeats 4000000 in
set_option maxRecDepth 100000 in
theorem whole_of (hOK : lawOKN) {p : Program} {e : Env} {s : State} {m : MethodId} {below : List Frame} {meth : Method} {c : Code} (l : Launch) {b L : Nat} {xs : Nat → Int32} (hL : L ≤ 384) (C0 : lw_At p s m meth c b L xs) : W p l e room_1 s m #[Value.ref b] below meth c s.heap [] 0 0 (lw_Z below #[Value.ref b] s) (entryFrame m ([Value.ref b] : List Value).toArray 4) := by
  obtain ⟨hx, hb, hr, hml, hown, hts, hX, hbl, hlocks, hgv⟩ := C0
  obtain ⟨hF, hrun, hcells, hslots⟩ := hOK L xs hL
  obtain ⟨f, hf⟩ := mX_iff.mp hrun
  obtain ⟨G, henv, hwf, hGb, hE1⟩ := mstart_env hts hX hbl hgv
  have X : mCx G p room_1 s m #[Value.ref b] c RL code 4 (mh0 L xs) := ⟨hx, hb, hml, hown, fun w hw => hts w (List.mem_filter.mp hw).1, henv, by rw [hGb, mh0_N]; rfl, by rw [mh0_N]; exact Nat.le_refl _, by rw [room_f]; omega, by rw [room_l]; omega⟩
  have key := mbody (e0 := e) (below := below) (meth := meth) (Q := fun _ _ => lw_Z below #[Value.ref b] s) (vF := .int 1) (hF := hF) (ini := false) (ret := some .boolean) X law_all (fun h => by cases h) mtab_Q (msound jtab mtab_Q mtab_P l G 102) ⟨by rw [room_f]; omega, by rw [room_l]; omega⟩ ⟨by rw [room_c, mh0_N]; omega, by rw [room_s, mh0_S]; omega⟩ (mlaw_ret hx hb hr hlocks hGb hcells hslots) f 0 [some (.ref 1), none, none, none] [] (mh0 L xs) hf
  have hpl := mL_has G (as := [.ref 1]) (n := 4) (by decide)
  have e9 : ([.ref 1] : List Value).map (mtr G) = [.ref b] := by rw [List.map_cons, hE1]; rfl
  rw [e9] at hpl
  rw [lg_entry_eq]
  rw [law_b0] at key
  exact key s.heap [] 0 0 _ ⟨fun k q h => by simp [mws, mN, mh0] at h, va_S.rf, hwf, rfl, rfl⟩ hpl
