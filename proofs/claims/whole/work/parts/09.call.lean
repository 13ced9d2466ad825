/-! ROWS OF THE SMALL MACHINE, 5: statics, switches, calls, answers -/
/-- a method: its name, its bytes, its locals, its answer, its code -/
abbrev MT : Type := MethodName × ByteArray × Nat × Option FieldType × List MI
noncomputable def mE (tb : List MT) : Nat → ME
  | 0 => fun _ _ _ => none
  | d + 1 => fun y as h => match tb[y]? with
    | none => none
    | some q => match Nat.ble (mL0 as).length q.2.2.1 with
      | true => mX (mE tb d) q.2.2.2.2 0 (mL as q.2.2.1) [] h
      | false => none
def mbp (C : List MI) (k : Nat) : Nat := match C[k]? with
  | some i => i.1
  | none => 0
def mwd (q : MT) : List Cond := .code q.1 q.2.1 q.2.2.1 q.2.2.2.1 :: mgw
def mrm (d : Nat) (h h' : MH) : Room := { frames := d, cells := mN h' - mN h, slots := mS h' - mS h, locals := 64 * d }
def mPre (G : MG) (h : MH) (U : State) : Prop := U.heap.size = G.b + (mN h - 8) ∧ va_P G.D vwCl (mws G h) U.heap ∧ mwf G h ∧ mEnv G U
def mret (G : MG) (ret : Option FieldType) (v : Value) : Option Value := match ret with
  | none => none
  | some _ => some (mtr G v)
def mPost (G : MG) (ret : Option FieldType) (v : Value) (h' : MH) : Array Value → State → Outcome → State → Prop := fun _ st oc t => oc = .returned (mret G ret v) ∧ va_P G.D vwCl (mws G h') t.heap ∧ mwf G h' ∧ va_F G.A st t
theorem mEnv_moved {G : MG} {s U : State} (hW : s.WarmedH U.vm) (hz : s.heap.size ≤ U.heap.size) (hk : ∀ q : Nat, q < s.heap.size → ¬ G.A q → U.heap[q]? = s.heap[q]?) (h : mEnv G s) : mEnv G U := by
  obtain ⟨h1, h2, h3, h4, h5, h6, h7, h8, h9, h10, h11⟩ := h
  refine ⟨va_K.moved hW.alike h1, fun w hw => ?_, va_AO.moved hW.alike h3, fun z hz => ((h4 z hz).moved hW.alike).kept hk, h5, fun a ha hx => ((h6 a ha hx).moved hW.alike).kept hk, fun a ha hx => ((h7 a ha hx).moved hW.alike).kept hk, fun a ha hx => ?_, fun z hz => ((h9 z hz).moved hW.alike).kept hk, fun z hz => (h10 z hz).warm hW, (h11.moved hW.alike).kept hk⟩
  · have hn := (List.mem_filter.mp hw).2
    have h8 := h2 w hw
    cases w <;> first | (simp [isNestW] at hn; done) | exact va_Nw.warmM hW h8 | exact va_Nw.warmF hW h8 | exact va_Nw.warmC hW h8
  · obtain ⟨g1, g2, g3, g4⟩ := h8 a ha hx
    exact ⟨(va_O.moved hW.alike g1).kept hk, (va_OF.moved hW.alike g2).kept hk, (va_OF.moved hW.alike g3).kept hk, g4⟩
theorem mPre_blind (G : MG) (h : MH) (av : List Value) : FrameBlind (va_Pc av (mPre G h)) := fun a U g mk q => ⟨q.1, q.2.1, q.2.2.1, q.2.2.2.1, mEnv_moved (s := U) (State.WarmedH.refl U) (Nat.le_refl _) (fun _ _ _ => rfl) q.2.2.2.2⟩
theorem mgw_good {q : MT} (hc : Cond.code q.1 q.2.1 q.2.2.1 q.2.2.2.1 ∈ lw_tbl) : GoodIn mgw (mwd q) := by
  intro w hw
  rcases List.mem_cons.mp hw with rfl | hw
  · exact ⟨mgw_of hc rfl, good_of_word rfl⟩
  · exact ⟨hw, good_of_word (List.mem_filter.mp hw).2⟩
/-- the ways of a tableswitch from lo on -/
def mtabOK (B : Nat → Nat) (pc : Nat) : List (Int32 × Nat) → Int → List Int → Bool
  | [], _, [] => true
  | q :: sw, lo, o :: offs => decide (q.1.toInt = lo) && decide ((pc : Int) + o = (B q.2 : Int)) && mtabOK B pc sw (lo + 1) offs
  | _, _, _ => false
def mlupOK (B : Nat → Nat) (pc : Nat) : List (Int32 × Nat) → List (Int × Int) → Bool
  | [], [] => true
  | q :: sw, o :: offs => decide (q.1.toInt = o.1) && decide ((pc : Int) + o.2 = (B q.2 : Int)) && mlupOK B pc sw offs
  | _, _ => false
theorem mtab_in {B : Nat → Nat} {pc a : Nat} {x : Int32} : ∀ (sw : List (Int32 × Nat)) (lo : Int) (offs : List Int), mtabOK B pc sw lo offs = true → lo ≤ x.toInt → x.toInt < lo + offs.length → ∃ o, offs[(x.toInt - lo).toNat]? = some o ∧ (pc : Int) + o = (B (msw x a sw) : Int) := by
  intro sw
  induction sw with
  | nil =>
    intro lo offs h h1 h2
    cases offs with
    | nil => simp at h2; omega
    | cons o offs => simp [mtabOK] at h
  | cons q sw ih =>
    intro lo offs h h1 h2
    cases offs with
    | nil => simp [mtabOK] at h
    | cons o offs =>
      simp only [mtabOK, Bool.and_eq_true, decide_eq_true_eq] at h
      rw [msw]
      by_cases hx : x = q.1
      · rw [if_pos hx]
        refine ⟨o, ?_, h.1.2⟩
        rw [hx, h.1.1]
        simp
      · rw [if_neg hx]
        have hne : ¬ x.toInt = lo := fun e => hx (Int32.toInt_inj.mp (by rw [h.1.1]; exact e))
        obtain ⟨o', e1, e2⟩ := ih (lo + 1) offs h.2 (by omega) (by simp at h2; omega)
        refine ⟨o', ?_, e2⟩
        rw [show (x.toInt - lo).toNat = (x.toInt - (lo + 1)).toNat + 1 by omega, List.getElem?_cons_succ]
        exact e1
theorem mtab_out {B : Nat → Nat} {pc a : Nat} {x : Int32} : ∀ (sw : List (Int32 × Nat)) (lo : Int) (offs : List Int), mtabOK B pc sw lo offs = true → (x.toInt < lo ∨ lo + offs.length ≤ x.toInt) → msw x a sw = a := by
  intro sw
  induction sw with
  | nil => intro lo offs _ _; rfl
  | cons q sw ih =>
    intro lo offs h h1
    cases offs with
    | nil => simp [mtabOK] at h
    | cons o offs =>
      simp only [mtabOK, Bool.and_eq_true, decide_eq_true_eq] at h
      have hne : ¬ x = q.1 := fun e => by
        have e1 : x.toInt = lo := by rw [e]; exact h.1.1
        simp at h1
        omega
      rw [msw, if_neg hne]
      refine ih (lo + 1) offs h.2 ?_
      simp at h1
      omega
theorem mlup_off {B : Nat → Nat} {pc a : Nat} {x : Int32} {d : Int} (hd : (pc : Int) + d = (B a : Int)) : ∀ (sw : List (Int32 × Nat)) (ps : List (Int × Int)), mlupOK B pc sw ps = true → (pc : Int) + Op.lookupswitch.offset ps d x.toInt = (B (msw x a sw) : Int) := by
  intro sw
  induction sw with
  | nil =>
    intro ps h
    cases ps with
    | nil => exact hd
    | cons o ps => simp [mlupOK] at h
  | cons q sw ih =>
    intro ps h
    cases ps with
    | nil => simp [mlupOK] at h
    | cons o ps =>
      simp only [mlupOK, Bool.and_eq_true, decide_eq_true_eq] at h
      obtain ⟨o1, o2⟩ := o
      rw [Op.lookupswitch.offset_cons, msw]
      by_cases hx : x = q.1
      · rw [if_pos hx, if_pos (by rw [hx]; exact h.1.1.symm)]
        exact h.1.2
      · rw [if_neg hx, if_neg (fun e => hx (Int32.toInt_inj.mp (by rw [h.1.1]; exact e.symm)))]
        exact ih ps h.2
section MV5
variable {p : Program} {l : Launch} {e : Env} {R : Room} {s : State} {m : MethodId} {args : Array Value} {below : List Frame} {meth : Method} {c : Code} {Q : Nat → Nat → State → Prop}
variable {cc : ByteArray} {pc : Nat} {G : MG} {own : String} {nL : Nat} {h0 h hF : MH} {ls : ML} {st : List Value}
theorem mv_gets (X : mCx G p R s m args c own cc nL h0) {idx a : Nat} {z : String × String × String × Nat} (hd : decode cc pc = .ok (.getstatic idx, 3)) (hz : z ∈ mzs) (ha : z.2.2.2 = a) (ha6 : 0 < a ∧ a < 8) (hl : Cond.fieldLink own idx z.1 z.2.1 z.2.2.1 ∈ lw_tbl ∨ ∃ host, Cond.fieldLinkNest own idx z.1 z.2.1 z.2.2.1 host ∈ lw_tbl) (k : mV p l e R s m args below meth c Q G nL h0 hF (pc + 3) ls (.ref a :: st) h) : mV p l e R s m args below meth c Q G nL h0 hF pc ls st h := by
  intro H locs cells slots lsA hR hL
  have kk := k H locs cells slots lsA hR hL
  have e1 : mad G a = G.E a := if_pos ha6.2
  rw [List.map_cons, mtr_pos (by omega), e1, ← ha] at kk
  have hZ := X.2.2.2.2.2.1.2.2.2.1 z hz
  rcases hl with hl | ⟨host, hl⟩
  · exact va_gets X.1 X.2.1 hZ hR.2.1 X.2.2.2.1 (X.2.2.2.2.1 _ (mgw_of hl rfl)) (fun _ q => q) hd kk
  · exact va_getsN X.1 X.2.1 hZ hR.2.1 X.2.2.2.1 (va_Nw.use rfl (X.2.2.2.2.2.1.2.1 _ (mnw_of hl rfl))) (fun _ q => q) hd kk
theorem mv_getsI (X : mCx G p R s m args c own cc nL h0) {idx : Nat} {x : Int32} {z : String × String × String × Int32} (hd : decode cc pc = .ok (.getstatic idx, 3)) (hz : z ∈ mzi) (hx : z.2.2.2 = x) (hl : Cond.fieldLink own idx z.1 z.2.1 z.2.2.1 ∈ lw_tbl) (k : mV p l e R s m args below meth c Q G nL h0 hF (pc + 3) ls (.int x :: st) h) : mV p l e R s m args below meth c Q G nL h0 hF pc ls st h := by
  intro H locs cells slots lsA hR hL
  have kk := k H locs cells slots lsA hR hL
  subst hx
  exact va_gets X.1 X.2.1 (X.2.2.2.2.2.1.2.2.2.2.2.2.2.2.1 z hz) hR.2.1 X.2.2.2.1 (X.2.2.2.2.1 _ (mgw_of hl rfl)) (fun _ q => q) hd kk
theorem mv_getsF (X : mCx G p R s m args c own cc nL h0) {idx : Nat} (hd : decode cc pc = .ok (.getstatic idx, 3)) (hl : Cond.fieldLink own idx "jdk/internal/util/Preconditions" "SIOOBE_FORMATTER" "Ljava/util/function/BiFunction;" ∈ lw_tbl) (k : mV p l e R s m args below meth c Q G nL h0 hF (pc + 3) ls (.retAddr 0 :: st) h) : mV p l e R s m args below meth c Q G nL h0 hF pc ls st h := by
  intro H locs cells slots lsA hR hL
  exact va_gets X.1 X.2.1 X.2.2.2.2.2.1.2.2.2.2.2.2.2.2.2.2 hR.2.1 X.2.2.2.1 (X.2.2.2.2.1 _ (mgw_of hl rfl)) (fun _ q => q) hd (k H locs cells slots lsA hR hL)
theorem mv_i2b (X : mCx G p R s m args c own cc nL h0) {x : Int32} (hd : decode cc pc = .ok (.i2b, 1)) (k : mV p l e R s m args below meth c Q G nL h0 hF (pc + 1) ls (.int x.toInt8.toInt32 :: st) h) : mV p l e R s m args below meth c Q G nL h0 hF pc ls (.int x :: st) h :=
  fun H locs cells slots lsA hR hL => lv_i2b X.1 X.2.1 hd rfl (k H locs cells slots lsA hR hL)
theorem mv_ldcS (X : mCx G p R s m args c own cc nL h0) {idx a : Nat} {z : String × Nat × String × Nat} (hd : decode cc pc = .ok (.ldc idx, 2)) (hz : z ∈ mzt) (h1 : z.1 = own) (h2 : z.2.1 = idx) (h3 : z.2.2.2 = a) (ha : 0 < a ∧ a < 8) (k : mV p l e R s m args below meth c Q G nL h0 hF (pc + 2) ls (.ref a :: st) h) : mV p l e R s m args below meth c Q G nL h0 hF pc ls st h := by
  intro H locs cells slots lsA hR hL
  have kk := k H locs cells slots lsA hR hL
  subst h1; subst h2; subst h3
  have e1 : mad G z.2.2.2 = G.E z.2.2.2 := if_pos ha.2
  rw [List.map_cons, mtr_pos (by omega), e1] at kk
  exact va_ldcS X.1 X.2.1 X.2.2.2.1 (X.2.2.2.2.2.1.2.2.2.2.2.2.2.2.2.1 z hz) hd kk
theorem mstr_at (X : mCx G p R s m args c own cc nL h0) {H : Heap} {locs : List Loc} {cells slots r : Nat} (hR : mR G s h0 h H locs cells slots) (hk : kd h r = 24 + 1) : r < 8 ∧ ¬ r = 0 ∧ mad G r = G.E r ∧ mStr G r s ∧ gI h r = G.vx r ∧ gR h r = G.rx r := by
  have h6 := mwf_24 hR.2.2.1 (by omega : 24 ≤ kd h r)
  obtain ⟨e1, e2, e3, e4⟩ := hR.2.2.1.2.1 r h6
  refine ⟨h6, fun q => ?_, if_pos h6, X.2.2.2.2.2.1.2.2.2.2.2.2.2.1 r h6 (by omega), e3, e4⟩
  have := X.2.2.2.2.2.1.2.2.2.2.1.1
  rw [q] at e1 hk
  omega
theorem mv_getSc (X : mCx G p R s m args c own cc nL h0) {idx r : Nat} (hd : decode cc pc = .ok (.getfield idx, 3)) (hl : Cond.fieldLink own idx "java/lang/String" "coder" "B" ∈ lw_tbl) (hk : kd h r = 24 + 1) (k : mV p l e R s m args below meth c Q G nL h0 hF (pc + 3) ls (.int (gI h r 1) :: st) h) : mV p l e R s m args below meth c Q G nL h0 hF pc ls (.ref r :: st) h := by
  intro H locs cells slots lsA hR hL
  have kk := k H locs cells slots lsA hR hL
  obtain ⟨g1, g2, g3, g4, g5, -⟩ := mstr_at X hR hk
  rw [List.map_cons, g5] at kk
  rw [List.map_cons, mtr_pos g2, g3]
  exact vk_getf X.1 X.2.1 g4.2.1 hR.2.1 X.2.2.2.1 (X.2.2.2.2.1 _ (mgw_of hl rfl)) (fun _ q => q) hd kk
theorem mv_getSv (X : mCx G p R s m args c own cc nL h0) {idx r : Nat} (hd : decode cc pc = .ok (.getfield idx, 3)) (hl : Cond.fieldLink own idx "java/lang/String" "value" "[B" ∈ lw_tbl) (hk : kd h r = 24 + 1) (k : mV p l e R s m args below meth c Q G nL h0 hF (pc + 3) ls (.ref (gR h r 0) :: st) h) : mV p l e R s m args below meth c Q G nL h0 hF pc ls (.ref r :: st) h := by
  intro H locs cells slots lsA hR hL
  have kk := k H locs cells slots lsA hR hL
  obtain ⟨g1, g2, g3, g4, -, g6⟩ := mstr_at X hR hk
  have e1 : mad G (G.rx r 0) = G.E (G.rx r 0) := if_pos g4.2.2.2.2
  have h0 := g4.2.2.2.1
  rw [List.map_cons, g6, mtr_pos (by omega), e1] at kk
  rw [List.map_cons, mtr_pos g2, g3]
  exact vk_getf X.1 X.2.1 g4.2.2.1 hR.2.1 X.2.2.2.1 (X.2.2.2.2.1 _ (mgw_of hl rfl)) (fun _ q => q) hd kk
theorem mv_table (X : mCx G p R s m args c own cc nL h0) {dflt lo hi : Int} {offs : Array Int} {len a : Nat} {x : Int32} {sw : List (Int32 × Nat)} {B : Nat → Nat} (hd : decode cc pc = .ok (.tableswitch dflt lo hi offs, len)) (h1 : mtabOK B pc sw lo offs.toList = true) (h2 : hi = lo + offs.size - 1) (h3 : (pc : Int) + dflt = (B a : Int)) (k : mV p l e R s m args below meth c Q G nL h0 hF (B (msw x a sw)) ls st h) : mV p l e R s m args below meth c Q G nL h0 hF pc ls (.int x :: st) h := by
  intro H locs cells slots lsA hR hL
  have kk := k H locs cells slots lsA hR hL
  have hlen : offs.toList.length = offs.size := Array.length_toList
  by_cases hx : lo ≤ x.toInt ∧ x.toInt < lo + offs.size
  · obtain ⟨o, e1, e2⟩ := mtab_in (a := a) sw lo offs.toList h1 hx.1 (by rw [hlen]; exact hx.2)
    rw [Array.getElem?_toList] at e1
    exact lv_tableIn X.1 X.2.1 hd (by omega) (by omega) e1 e2 kk
  · have e1 := mtab_out (a := a) (x := x) sw lo offs.toList h1 (by rw [hlen]; omega)
    rw [e1] at kk
    exact lv_tableOut X.1 X.2.1 hd (by omega) h3 kk
theorem mv_lookup (X : mCx G p R s m args c own cc nL h0) {dflt : Int} {ps : Array (Int × Int)} {len a : Nat} {x : Int32} {sw : List (Int32 × Nat)} {B : Nat → Nat} (hd : decode cc pc = .ok (.lookupswitch dflt ps, len)) (hp : (ps.toList.zip (ps.toList.drop 1)).all (fun (a, next) => a.1 < next.1) = true) (h1 : mlupOK B pc sw ps.toList = true) (h3 : (pc : Int) + dflt = (B a : Int)) (k : mV p l e R s m args below meth c Q G nL h0 hF (B (msw x a sw)) ls st h) : mV p l e R s m args below meth c Q G nL h0 hF pc ls (.int x :: st) h := by
  intro H locs cells slots lsA hR hL
  have kk := k H locs cells slots lsA hR hL
  exact lv_lookup X.1 X.2.1 hd hp rfl (mlup_off h3 sw ps.toList h1) kk
/-- behind a call -/
theorem mcall_go {H : Heap} {locs : List Loc} {cells slots mc ms : Nat} {Qw : State → Prop} {lsA : Array Slot} {st0 rest : List Value} {ret : Option FieldType} {v : Value} {h' : MH} {a : Array Value} (hr : va_Run p l e R s m args below meth c H locs cells slots mc ms (F0 m pc lsA st0) rest (mPost G ret v h' a) G.A) (hS : va_S G.A s.heap H locs) (kk : ∀ (H1 : Heap) (locs1 : List Loc), va_P G.D vwCl (mws G h') H1 → mwf G h' → va_S G.A s.heap H1 locs1 → W p l e R s m args below meth c H1 locs1 (cells + mc) (slots + ms) Qw (F0 m (pc + 3) lsA ((mret G ret v).toList ++ rest))) : W p l e R s m args below meth c H locs cells slots Qw (F0 m pc lsA st0) := by
  intro T hT X
  obtain ⟨v', st₀, t, T', L, h0', X', hL, e1, e2, ⟨hv, hP, hw, hz, hk⟩, st⟩ := hr T hT X
  cases hv
  rw [h0'] at hz hk
  obtain ⟨t2, a1, b1⟩ := kk T'.heap (locs ++ L) (by rw [e1]; exact hP) hw
    ⟨Nat.le_trans hS.1 (by rw [e1]; exact hz), fun q h1 h2 => by rw [e1, hk q (Nat.lt_of_lt_of_le h1 hS.1) h2]; exact hS.2.1 q h1 h2, fun q hq => by
      rcases List.mem_append.mp hq with h | h
      · exact hS.2.2 q h
      · exact hL q h⟩ T' rfl X'
  exact ⟨t2, st t2 a1, b1⟩
theorem mpre_at (X : mCx G p R s m args c own cc nL h0) {H : Heap} {locs : List Loc} {cells slots : Nat} (hR : mR G s h0 h H locs cells slots) (hz : H.size = G.b + (mN h - 8)) {av : List Value} : ∀ U : State, U.heap = H → s.WarmedH U.vm → va_Pc av (mPre G h) av.toArray U := fun U hU hW => ⟨rfl, by rw [hU]; exact hz, by rw [hU]; exact hR.1, hR.2.2.1, mEnv_moved hW (by rw [hU]; exact hR.2.1.1) (fun q h1 h2 => by rw [hU]; exact hR.2.1.2.1 q h1 h2) X.2.2.2.2.2.1⟩
/-- what a call asks of the words -/
def mcw (own : String) (idx : Nat) (q : MT) (n : Nat) : Prop := Cond.code q.1 q.2.1 q.2.2.1 q.2.2.2.1 ∈ lw_tbl ∧ Cond.initialized q.1.cls ∈ lw_tbl ∧ (q.1.cls ≠ "java/lang/invoke/MethodHandle" ∧ q.1.cls ≠ "java/lang/invoke/VarHandle" ∧ (parseMethodDescriptor q.1.desc).map (fun d => d.parameters.length) = some n) ∧ q.2.2.1 ≤ 40 ∧ (Cond.methodLink own idx q.1 ∈ lw_tbl ∨ ∃ host, Cond.methodLinkNest own idx q.1 host ∈ lw_tbl)
theorem mcallB (X : mCx G p R s m args c own cc nL h0) {idx n d : Nat} {q : MT} {h' : MH} (hw : mcw own idx q n) (hl : Cond.methodLink own idx q.1 ∈ lw_tbl) (hf : d + 1 ≤ R.frames ∧ 64 * d + 64 ≤ R.locals) : CallB R s args own idx q.1 q.2.1 q.2.2.1 q.2.2.2.1 (mwd q) (mrm d h h') (mN h' - mN h) (mS h' - mS h) n :=
  callB_of n X.2.2.2.2.1 (mgw_good hw.1) rfl rfl rfl (X.2.2.2.2.1 _ (mgw_of hw.2.1 rfl)) (X.2.2.2.2.1 _ (mgw_of hl rfl)) hw.2.2.1 ⟨hf.1, by have := hw.2.2.2.1; show 8 + (q.2.2.1 + 11) + 64 * d ≤ _; omega⟩
theorem mcallN (X : mCx G p R s m args c own cc nL h0) {idx n d : Nat} {q : MT} {h' : MH} {host : String} (hw : mcw own idx q n) (hl : Cond.methodLinkNest own idx q.1 host ∈ lw_tbl) (hf : d + 1 ≤ R.frames ∧ 64 * d + 64 ≤ R.locals) : va_CN R s args own idx q.1 host q.2.1 q.2.2.1 q.2.2.2.1 (mwd q) (mrm d h h') (mN h' - mN h) (mS h' - mS h) n :=
  va_cnB n X.2.2.2.2.1 (mgw_good hw.1) rfl rfl rfl (X.2.2.2.2.2.1.2.1 _ (mnw_of hl rfl)) (X.2.2.2.2.1 _ (mgw_of hw.2.1 rfl)) hw.2.2.1 ⟨hf.1, by have := hw.2.2.2.1; show 8 + (q.2.2.1 + 11) + 64 * d ≤ _; omega⟩
theorem mv_static (X : mCx G p R s m args c own cc nL h0) {idx d : Nat} {q : MT} {as : List Value} {v : Value} {h' : MH} (hd : decode cc pc = .ok (.invokestatic idx, 3)) (hw : mcw own idx q as.length) (hst : Cond.static q.1 ∈ lw_tbl) (hf : d + 1 ≤ R.frames ∧ 64 * d + 64 ≤ R.locals) (hM : Met l q.1 (mwd q) (mrm d h h') (va_Pc (as.map (mtr G)) (mPre G h)) (mPost G q.2.2.2.1 v h') (mN h' - mN h) (mS h' - mS h) G.A) (h8 : words st ≤ 8) (hm : mN h ≤ mN h' ∧ mS h ≤ mS h') (hr : mN h' ≤ mN h0 + R.cells ∧ mS h' ≤ mS h0 + R.slots)
    (k : ∀ (H1 : Heap) (locs1 : List Loc) (cells1 slots1 : Nat) (lsA : Array Slot), mR G s h0 h' H1 locs1 cells1 slots1 → mlh G lsA nL ls → W p l e R s m args below meth c H1 locs1 cells1 slots1 (Q (mN hF - mN h0) (mS hF - mS h0)) (F0 m (pc + 3) lsA ((mret G q.2.2.2.1 v).toList ++ st.map (mtr G)))) : mV p l e R s m args below meth c Q G nL h0 hF pc ls (as.reverse ++ st) h := by
  intro H locs cells slots lsA hR hL
  refine mW_size fun hsz => ?_
  have hz := mR_size X hR hsz
  have c1 := hR.2.2.2.1
  have c2 := hR.2.2.2.2
  have hstack : (F0 m pc lsA ((as.reverse ++ st).map (mtr G))).stack = (as.map (mtr G)).reverse ++ st.map (mtr G) := by simp
  have h8' : 2 * (F0 m pc lsA ((as.reverse ++ st).map (mtr G))).monitorRoom + ((st.map (mtr G)).map fun v => v.category).sum ≤ 8 := by rw [mwords]; show 2 * 0 + _ ≤ 8; omega
  have fin : ∀ (H1 : Heap) (locs1 : List Loc), va_P G.D vwCl (mws G h') H1 → mwf G h' → va_S G.A s.heap H1 locs1 → W p l e R s m args below meth c H1 locs1 (cells + (mN h' - mN h)) (slots + (mS h' - mS h)) (Q (mN hF - mN h0) (mS hF - mS h0)) (F0 m (pc + 3) lsA ((mret G q.2.2.2.1 v).toList ++ st.map (mtr G))) := fun H1 locs1 g1 g2 g3 => k H1 locs1 _ _ lsA ⟨g1, g3, g2, by omega, by omega⟩ hL
  have hn : (as.map (mtr G)).length = as.length := by simp
  rcases hw.2.2.2.2 with hl | ⟨host, hl⟩
  · exact mcall_go (va_runS (As := as.map (mtr G)) (rest := st.map (mtr G)) ⟨X.1, X.2.1, X.2.2.1, X.2.2.2.1, X.2.2.2.2.1⟩ hM ⟨mcallB X hw hl hf, X.2.2.2.2.1 _ (mgw_of hst rfl)⟩ ⟨mPre_blind G h _, mpre_at X hR hz⟩ rfl hn hL.2.1 hstack h8' hd ⟨by omega, by omega⟩) hR.2.1 fin
  · exact mcall_go (va_runSN (As := as.map (mtr G)) (rest := st.map (mtr G)) ⟨X.1, X.2.1, X.2.2.1, X.2.2.2.1, X.2.2.2.2.1⟩ hM ⟨mcallN X hw hl hf, X.2.2.2.2.1 _ (mgw_of hst rfl), trivial⟩ ⟨mPre_blind G h _, mpre_at X hR hz⟩ rfl hn hL.2.1 hstack h8' hd ⟨by omega, by omega⟩) hR.2.1 fin
set_option maxHeartbeats 1000000 in
theorem mv_virt (X : mCx G p R s m args c own cc nL h0) {idx d r ci : Nat} {q : MT} {Cn : String} {as : List Value} {v : Value} {h' : MH} (hd : decode cc pc = .ok (.invokevirtual idx, 3)) (hw : mcw own idx q as.length) (hC : (∃ C, vwCl[ci]? = some C ∧ C.1 = Cn) ∨ (ci = 24 ∧ Cn = "java/lang/String")) (hk : kd h r = ci + 1) (hi : Cond.instanceMethod q.1 ∈ lw_tbl) (hse : Cond.selects Cn q.1 q.1 ∈ lw_tbl) (hf : d + 1 ≤ R.frames ∧ 64 * d + 64 ≤ R.locals) (hM : Met l q.1 (mwd q) (mrm d h h') (va_Pc ((.ref r :: as).map (mtr G)) (mPre G h)) (mPost G q.2.2.2.1 v h') (mN h' - mN h) (mS h' - mS h) G.A) (h8 : words st ≤ 8) (hm : mN h ≤ mN h' ∧ mS h ≤ mS h') (hr : mN h' ≤ mN h0 + R.cells ∧ mS h' ≤ mS h0 + R.slots)
    (k : ∀ (H1 : Heap) (locs1 : List Loc) (cells1 slots1 : Nat) (lsA : Array Slot), mR G s h0 h' H1 locs1 cells1 slots1 → mlh G lsA nL ls → W p l e R s m args below meth c H1 locs1 cells1 slots1 (Q (mN hF - mN h0) (mS hF - mS h0)) (F0 m (pc + 3) lsA ((mret G q.2.2.2.1 v).toList ++ st.map (mtr G)))) : mV p l e R s m args below meth c Q G nL h0 hF pc ls (as.reverse ++ .ref r :: st) h := by
  intro H locs cells slots lsA hR hL
  refine mW_size fun hsz => ?_
  have hz := mR_size X hR hsz
  have c1 := hR.2.2.2.1
  have c2 := hR.2.2.2.2
  have hrr : ¬ r = 0 ∧ ∃ cell : Cell, H[mad G r]? = some cell ∧ cell.vm.isStatics = false ∧ s.vm.findClass Cn = some cell.cls := by
    rcases hC with ⟨C, hC, rfl⟩ | ⟨rfl, rfl⟩
    · have hc12 := (mcls_at hC).2
      obtain ⟨h6, hn6⟩ := mcx_lo X hR (by omega) (by omega : kd h r < 24)
      have hwr := mws_get (G := G) h6 hn6
      rw [ment_obj hk hc12] at hwr
      exact ⟨by omega, va_recv X.2.2.2.2.2.1.1 hR.1 hC hwr⟩
    · obtain ⟨g1, g2, g3, g4, -⟩ := mstr_at X hR hk
      obtain ⟨cell, q1, q2, q3, -⟩ := g4.1.kept hR.2.1.2.1
      exact ⟨g2, cell, by rw [g3]; exact q1, q2, q3⟩
  obtain ⟨hr0, hrecv⟩ := hrr
  have er : mtr G (.ref r) = .ref (mad G r) := mtr_pos hr0
  have hstack : (F0 m pc lsA ((as.reverse ++ .ref r :: st).map (mtr G))).stack = (as.map (mtr G)).reverse ++ .ref (mad G r) :: st.map (mtr G) := by simp [er]
  have h8' : 2 * (F0 m pc lsA ((as.reverse ++ .ref r :: st).map (mtr G))).monitorRoom + ((st.map (mtr G)).map fun v => v.category).sum ≤ 8 := by rw [mwords]; show 2 * 0 + _ ≤ 8; omega
  have fin : ∀ (H1 : Heap) (locs1 : List Loc), va_P G.D vwCl (mws G h') H1 → mwf G h' → va_S G.A s.heap H1 locs1 → W p l e R s m args below meth c H1 locs1 (cells + (mN h' - mN h)) (slots + (mS h' - mS h)) (Q (mN hF - mN h0) (mS hF - mS h0)) (F0 m (pc + 3) lsA ((mret G q.2.2.2.1 v).toList ++ st.map (mtr G))) := fun H1 locs1 g1 g2 g3 => k H1 locs1 _ _ lsA ⟨g1, g3, g2, by omega, by omega⟩ hL
  have hn : (as.map (mtr G)).length = as.length := by simp
  rw [List.map_cons, er] at hM
  rcases hw.2.2.2.2 with hl | ⟨host, hl⟩
  · exact mcall_go (va_runV (As := as.map (mtr G)) (rest := st.map (mtr G)) ⟨X.1, X.2.1, X.2.2.1, X.2.2.2.1, X.2.2.2.2.1⟩ hM ⟨mcallB X hw hl hf, X.2.2.2.2.1 _ (mgw_of hi rfl), X.2.2.2.2.1 _ (mgw_of hse rfl)⟩ ⟨mPre_blind G h _, hrecv, mpre_at X hR hz⟩ rfl hn hL.2.1 hstack h8' hd ⟨by omega, by omega⟩) hR.2.1 fin
  · exact mcall_go (va_runVN (As := as.map (mtr G)) (rest := st.map (mtr G)) ⟨X.1, X.2.1, X.2.2.1, X.2.2.2.1, X.2.2.2.2.1⟩ hM ⟨mcallN X hw hl hf, X.2.2.2.2.1 _ (mgw_of hi rfl), X.2.2.2.2.1 _ (mgw_of hse rfl)⟩ ⟨mPre_blind G h _, hrecv, mpre_at X hR hz⟩ rfl hn hL.2.1 hstack h8' hd ⟨by omega, by omega⟩) hR.2.1 fin
theorem mv_init (X : mCx G p R s m args c own cc nL h0) {idx d r : Nat} {q : MT} {as : List Value} {v : Value} {h' : MH} (hd : decode cc pc = .ok (.invokespecial idx, 3)) (hw : mcw own idx q as.length) (hr0 : ¬ r = 0) (hi : Cond.instanceMethod q.1 ∈ lw_tbl) (hq : q.1.name = "<init>" ∧ q.2.2.2.1 = none) (hf : d + 1 ≤ R.frames ∧ 64 * d + 64 ≤ R.locals) (hM : Met l q.1 (mwd q) (mrm d h h') (va_Pc ((.ref r :: as).map (mtr G)) (mPre G h)) (mPost G q.2.2.2.1 v h') (mN h' - mN h) (mS h' - mS h) G.A) (h8 : words st ≤ 8) (hm : mN h ≤ mN h' ∧ mS h ≤ mS h') (hr : mN h' ≤ mN h0 + R.cells ∧ mS h' ≤ mS h0 + R.slots)
    (k : mV p l e R s m args below meth c Q G nL h0 hF (pc + 3) ls st h') : mV p l e R s m args below meth c Q G nL h0 hF pc ls (as.reverse ++ .ref r :: st) h := by
  obtain ⟨y, bytes, maxL, ret, code0⟩ := q
  obtain ⟨hq1, hq2⟩ := hq
  dsimp only at hq1 hq2 hi hM
  subst hq2
  intro H locs cells slots lsA hR hL
  refine mW_size fun hsz => ?_
  have hz := mR_size X hR hsz
  have c1 := hR.2.2.2.1
  have c2 := hR.2.2.2.2
  have er : mtr G (.ref r) = .ref (mad G r) := mtr_pos hr0
  have hstack : (F0 m pc lsA ((as.reverse ++ .ref r :: st).map (mtr G))).stack = (as.map (mtr G)).reverse ++ .ref (mad G r) :: st.map (mtr G) := by simp [er]
  have h8' : 2 * (F0 m pc lsA ((as.reverse ++ .ref r :: st).map (mtr G))).monitorRoom + ((st.map (mtr G)).map fun v => v.category).sum ≤ 8 := by rw [mwords]; show 2 * 0 + _ ≤ 8; omega
  have fin : ∀ (H1 : Heap) (locs1 : List Loc), va_P G.D vwCl (mws G h') H1 → mwf G h' → va_S G.A s.heap H1 locs1 → W p l e R s m args below meth c H1 locs1 (cells + (mN h' - mN h)) (slots + (mS h' - mS h)) (Q (mN hF - mN h0) (mS hF - mS h0)) (F0 m (pc + 3) lsA ((mret G none v).toList ++ st.map (mtr G))) := fun H1 locs1 g1 g2 g3 => k H1 locs1 _ _ lsA ⟨g1, g3, g2, by omega, by omega⟩ hL
  have hn : (as.map (mtr G)).length = as.length := by simp
  rw [List.map_cons, er] at hM
  rcases hw.2.2.2.2 with hl | ⟨host, hl⟩
  · exact mcall_go (va_runI (As := as.map (mtr G)) (rest := st.map (mtr G)) ⟨X.1, X.2.1, X.2.2.1, X.2.2.2.1, X.2.2.2.2.1⟩ hM ⟨mcallB X hw hl hf, hq1, X.2.2.2.2.1 _ (mgw_of hi rfl)⟩ ⟨mPre_blind G h _, mpre_at X hR hz⟩ rfl hn hL.2.1 hstack h8' hd ⟨by omega, by omega⟩) hR.2.1 fin
  · exact mcall_go (va_runIN (As := as.map (mtr G)) (rest := st.map (mtr G)) ⟨X.1, X.2.1, X.2.2.1, X.2.2.2.1, X.2.2.2.2.1⟩ hM ⟨mcallN X hw hl hf, hq1, X.2.2.2.2.1 _ (mgw_of hi rfl)⟩ ⟨mPre_blind G h _, mpre_at X hR hz⟩ rfl hn hL.2.1 hstack h8' hd ⟨by omega, by omega⟩) hR.2.1 fin
theorem jabs_eq (x : Int32) : (if 0 ≤ x then x else 0 - x) = jabs x := by
  unfold jabs
  by_cases h : x < 0
  · rw [if_pos h, if_neg (Int32.not_le.mpr h)]
    simp
  · rw [if_neg h, if_pos (Int32.not_lt.mp h)]
theorem mv_math (X : mCx G p R s m args c own cc nL h0) {idx : Nat} (hd : decode cc pc = .ok (.invokestatic idx, 3)) (hini : Cond.initialized "java/lang/Math" ∈ lw_tbl) (h8 : Nat.ble (words st) 8 = true) (hr : mN h ≤ mN h0 + R.cells ∧ mS h ≤ mS h0 + R.slots) :
    (∀ x : Int32, Cond.methodLink own idx Lib.Math.abs.name ∈ lw_tbl → Cond.static Lib.Math.abs.name ∈ lw_tbl → Cond.code Lib.Math.abs.name Lib.Math.abs.code 1 (some .int) ∈ lw_tbl → mV p l e R s m args below meth c Q G nL h0 hF (pc + 3) ls (.int (jabs x) :: st) h → mV p l e R s m args below meth c Q G nL h0 hF pc ls (.int x :: st) h) ∧
    (∀ x y : Int32, Cond.methodLink own idx Lib.Math.max.name ∈ lw_tbl → Cond.static Lib.Math.max.name ∈ lw_tbl → Cond.code Lib.Math.max.name Lib.Math.max.code 2 (some .int) ∈ lw_tbl → mV p l e R s m args below meth c Q G nL h0 hF (pc + 3) ls (.int (jmax x y) :: st) h → mV p l e R s m args below meth c Q G nL h0 hF pc ls (.int y :: .int x :: st) h) ∧
    (∀ x y : Int32, Cond.methodLink own idx Lib.Math.min.name ∈ lw_tbl → Cond.static Lib.Math.min.name ∈ lw_tbl → Cond.code Lib.Math.min.name Lib.Math.min.code 2 (some .int) ∈ lw_tbl → mV p l e R s m args below meth c Q G nL h0 hF (pc + 3) ls (.int (jmin x y) :: st) h → mV p l e R s m args below meth c Q G nL h0 hF pc ls (.int y :: .int x :: st) h) := by
  have hloc : ((st.map (mtr G)).map fun v => v.category).sum + 13 ≤ R.locals := by
    have h9 := Nat.le_of_ble_eq_true h8
    have h64 := X.2.2.2.2.2.2.2.2.2
    rw [mwords]
    omega
  refine ⟨fun x g1 g2 g3 k H locs cells slots lsA hR hL => ?_, fun x y g1 g2 g3 k H locs cells slots lsA hR hL => ?_, fun x y g1 g2 g3 k H locs cells slots lsA hR hL => ?_⟩
  · have c1 := hR.2.2.2.1
    have c2 := hR.2.2.2.2
    refine va_mabs X.1 X.2.1 (by rw [X.2.2.1, hL.2.1]) X.2.2.2.1 (X.2.2.2.2.1 _ (mgw_of g1 rfl)) (X.2.2.2.2.1 _ (mgw_of g2 rfl)) (X.2.2.2.2.1 _ (mgw_of hini rfl)) (X.2.2.2.2.1 _ (mgw_of g3 rfl)) X.2.2.2.2.2.2.2.2.1 hloc (by omega) (by omega) hd ?_
    rw [jabs_eq]
    exact k H locs cells slots lsA hR hL
  · have c1 := hR.2.2.2.1
    have c2 := hR.2.2.2.2
    exact va_mmax X.1 X.2.1 (by rw [X.2.2.1, hL.2.1]) X.2.2.2.1 (X.2.2.2.2.1 _ (mgw_of g1 rfl)) (X.2.2.2.2.1 _ (mgw_of g2 rfl)) (X.2.2.2.2.1 _ (mgw_of hini rfl)) (X.2.2.2.2.1 _ (mgw_of g3 rfl)) X.2.2.2.2.2.2.2.2.1 hloc (by omega) (by omega) hd (k H locs cells slots lsA hR hL)
  · have c1 := hR.2.2.2.1
    have c2 := hR.2.2.2.2
    exact va_mmin X.1 X.2.1 (by rw [X.2.2.1, hL.2.1]) X.2.2.2.1 (X.2.2.2.2.1 _ (mgw_of g1 rfl)) (X.2.2.2.2.1 _ (mgw_of g2 rfl)) (X.2.2.2.2.1 _ (mgw_of hini rfl)) (X.2.2.2.2.1 _ (mgw_of g3 rfl)) X.2.2.2.2.2.2.2.2.1 hloc (by omega) (by omega) hd (k H locs cells slots lsA hR hL)
end MV5
