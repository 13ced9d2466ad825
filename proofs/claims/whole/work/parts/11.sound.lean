/-! THE SMALL MACHINE IS SOUND: what it answers, the big machine does -/
section MSD
variable {p : Program} {l : Launch} {e0 : Env} {R : Room} {s : State} {m : MethodId} {args : Array Value} {below : List Frame} {meth : Method} {c0 : Code} {Q : Nat → Nat → State → Prop}
variable {cc : ByteArray} {G : MG} {own : String} {nL : Nat} {h0 h hF : MH} {ls : ML} {st : List Value} {tb : List MT} {ini : Bool} {C : List MI} {ret : Option FieldType} {k : Nat} {ps : List Nat} {ev : ME} {dd : Nat}
set_option maxHeartbeats 4000000 in
theorem mstep {i : MI} {k' : Nat} {ls' : ML} {st' : List Value} {h' : MH} (X : mCx G p R s m args c0 own cc nL h0) (hok : mokB tb own ini cc C ret k i ps = true) (hini : ini = true → meth.name = "<init>") (hT : mQs tb) (hE : mEv tb ev l G dd) (hfr : dd + 1 ≤ R.frames ∧ 64 * dd + 64 ≤ R.locals) (hr : mN h' ≤ mN h0 + R.cells ∧ mS h' ≤ mS h0 + R.slots) (hs : mst i k ls st h ev = some (.inl (k', ls', st', h'))) (kk : mV p l e0 R s m args below meth c0 Q G nL h0 hF (mbp C k') ls' st' h') : mV p l e0 R s m args below meth c0 Q G nL h0 hF i.1 ls st h := by
  obtain ⟨pc, ins, x, y, sw, a, b, c, d, e⟩ := i
  cases ins
  case iconst => exact ms_iconst X hok hs kk
  case bipush => exact ms_bipush X hok hs kk
  case sipush => exact ms_sipush X hok hs kk
  case ldc => exact ms_ldc X hok hs kk
  case ldc_w => exact ms_ldc_w X hok hs kk
  case lconst => exact ms_lconst X hok hs kk
  case ldc2_w => exact ms_ldc2_w X hok hs kk
  case aconst_null => exact ms_aconst_null X hok hs kk
  case iload_n => exact ms_iload_n X hok hs kk
  case iload => exact ms_iload X hok hs kk
  case istore_n => exact ms_istore_n X hok hs kk
  case istore => exact ms_istore X hok hs kk
  case lload_n => exact ms_lload_n X hok hs kk
  case lload => exact ms_lload X hok hs kk
  case lstore_n => exact ms_lstore_n X hok hs kk
  case lstore => exact ms_lstore X hok hs kk
  case aload_n => exact ms_aload_n X hok hs kk
  case aload => exact ms_aload X hok hs kk
  case astore_n => exact ms_astore_n X hok hs kk
  case astore => exact ms_astore X hok hs kk
  case iinc => exact ms_iinc X hok hs kk
  case iadd => exact ms_iadd X hok hs kk
  case isub => exact ms_isub X hok hs kk
  case imul => exact ms_imul X hok hs kk
  case iand => exact ms_iand X hok hs kk
  case ior => exact ms_ior X hok hs kk
  case ixor => exact ms_ixor X hok hs kk
  case ishl => exact ms_ishl X hok hs kk
  case ishr => exact ms_ishr X hok hs kk
  case iushr => exact ms_iushr X hok hs kk
  case ineg => exact ms_ineg X hok hs kk
  case idiv => exact ms_idiv X hok hs kk
  case irem => exact ms_irem X hok hs kk
  case ladd => exact ms_ladd X hok hs kk
  case lsub => exact ms_lsub X hok hs kk
  case lmul => exact ms_lmul X hok hs kk
  case lor => exact ms_lor X hok hs kk
  case ldiv => exact ms_ldiv X hok hs kk
  case lrem => exact ms_lrem X hok hs kk
  case lneg => exact ms_lneg X hok hs kk
  case lshl => exact ms_lshl X hok hs kk
  case lshr => exact ms_lshr X hok hs kk
  case lcmp => exact ms_lcmp X hok hs kk
  case i2l => exact ms_i2l X hok hs kk
  case l2i => exact ms_l2i X hok hs kk
  case i2b => exact ms_i2b X hok hs kk
  case i2c => exact ms_i2c X hok hs kk
  case dup => exact ms_dup X hok hs kk
  case dup2 => exact ms_dup2 X hok hs kk
  case dup_x1 => exact ms_dup_x1 X hok hs kk
  case dup_x2 => exact ms_dup_x2 X hok hs kk
  case pop => exact ms_pop X hok hs kk
  case arraylength => exact ms_arraylength X hok hs kk
  case iaload => exact ms_iaload X hok hs kk
  case iastore => exact ms_iastore X hok hs kk
  case laload => exact ms_laload X hok hs kk
  case lastore => exact ms_lastore X hok hs kk
  case baload => exact ms_baload X hok hs kk
  case bastore => exact ms_bastore X hok hs kk
  case aaload => exact ms_aaload X hok hs kk
  case aastore => exact ms_aastore X hok hs kk
  case goto => exact ms_goto X hok hs kk
  case ifCond => exact ms_ifCond X hok hs kk
  case if_icmp => exact ms_if_icmp X hok hs kk
  case ifnull => exact ms_ifnull X hok hs kk
  case ifnonnull => exact ms_ifnonnull X hok hs kk
  case tableswitch => exact ms_tableswitch X hok hs kk
  case lookupswitch => exact ms_lookupswitch X hok hs kk
  case getfield => exact ms_getfield X hok hs kk
  case getstatic => exact ms_getstatic X hok hs kk
  case checkcast => exact ms_checkcast X hok hs kk
  case putfield => exact ms_putfield X hok hs hini kk
  case new => exact ms_new X hok hs hr kk
  case newarray => exact ms_newarray X hok hs hr kk
  case anewarray => exact ms_anewarray X hok hs hr kk
  case invokestatic => exact ms_invokestatic X hok hs hT hE hfr hr kk
  case invokevirtual => exact ms_invokevirtual X hok hs hT hE hfr hr kk
  case invokespecial => exact ms_invokespecial X hok hs hT hE hfr hr kk
  case ireturn =>
    simp only [mst] at hs
    split at hs
    · cases (mck_some hs).2
    · cases hs
  case lreturn =>
    simp only [mst] at hs
    split at hs <;> cases hs
  case areturn =>
    simp only [mst] at hs
    split at hs <;> cases hs
  case return_ =>
    simp only [mst] at hs
    split at hs <;> cases hs
  all_goals cases hs
end MSD
/-- the heap only grows -/
def mle (h : MH) (z : (Nat × ML × List Value × MH) ⊕ (Value × MH)) : Prop := match z with
  | .inl q => mN h ≤ mN q.2.2.2 ∧ mS h ≤ mS q.2.2.2
  | .inr r => mN h ≤ mN r.2 ∧ mS h ≤ mS r.2
def mEm (ev : ME) : Prop := ∀ (y : Nat) (as : List Value) (h : MH) (v : Value) (h' : MH), ev y as h = some (v, h') → mN h ≤ mN h' ∧ mS h ≤ mS h'
theorem mm_nx {h h1 : MH} {k : Nat} {ls : ML} {st : List Value} {z : (Nat × ML × List Value × MH) ⊕ (Value × MH)} (hm : mN h ≤ mN h1 ∧ mS h ≤ mS h1) (e : nx k ls st h1 = some z) : mle h z := by
  unfold nx at e
  cases e
  exact hm
theorem mm_br {h : MH} {c : Prop} {d : Decidable c} {t k : Nat} {ls : ML} {st : List Value} {z : (Nat × ML × List Value × MH) ⊕ (Value × MH)} (e : mbr c d t k ls st h = some z) : mle h z := by
  unfold mbr at e
  split at e <;> exact mm_nx (by exact ⟨Nat.le_refl _, Nat.le_refl _⟩) e
theorem mm_cl {h : MH} {o : Option (Value × MH)} {rk k : Nat} {ls : ML} {st : List Value} {z : (Nat × ML × List Value × MH) ⊕ (Value × MH)} (ho : ∀ v h', o = some (v, h') → mN h ≤ mN h' ∧ mS h ≤ mS h') (e : mcl o rk k ls st = some z) : mle h z := by
  unfold mcl at e
  split at e <;> split at e <;> first | (cases e; done) | exact mm_nx (ho _ _ rfl) e
theorem mm_call {h : MH} {i : MI} {k : Nat} {ls : ML} {st : List Value} {ev : ME} {z : (Nat × ML × List Value × MH) ⊕ (Value × MH)} (he : mEm ev) (e : mcall i k ls st h ev = some z) : mle h z := by
  obtain ⟨pc, ins, x, y, sw, a, b, c, d, e0⟩ := i
  unfold mcall at e
  dsimp only at e
  split at e
  · exact mm_cl (fun v h' q => he _ _ _ _ _ q) e
  · cases e
theorem mm_callv {h : MH} {i : MI} {k : Nat} {ls : ML} {st : List Value} {ev : ME} {z : (Nat × ML × List Value × MH) ⊕ (Value × MH)} (he : mEm ev) (e : mcallv i k ls st h ev = some z) : mle h z := by
  obtain ⟨pc, ins, x, y, sw, a, b, c, d, e0⟩ := i
  unfold mcallv at e
  dsimp only at e
  split at e
  · exact mm_call he (mck_some e).2
  · cases e
theorem mm_copy {h : MH} {k : Nat} {ls : ML} {st : List Value} {z : (Nat × ML × List Value × MH) ⊕ (Value × MH)} (e : mcopy k ls st h = some z) : mle h z := by
  unfold mcopy at e
  split at e
  · split at e
    · exact mm_nx (by exact ⟨Nat.le_refl _, Nat.le_refl _⟩) (mck_some e).2
    · cases e
  · cases e
theorem mm_clone {h : MH} {k : Nat} {ls : ML} {st : List Value} {z : (Nat × ML × List Value × MH) ⊕ (Value × MH)} (e : mclone k ls st h = some z) : mle h z := by
  unfold mclone at e
  split at e
  · split at e
    · exact mm_nx (by exact ⟨Nat.le_succ _, Nat.le_add_right _ _⟩) (mck_some e).2
    · cases e
  · cases e
theorem mm_math {h : MH} {d k : Nat} {ls : ML} {st : List Value} {z : (Nat × ML × List Value × MH) ⊕ (Value × MH)} (e : mmath d k ls st h = some z) : mle h z := by
  unfold mmath at e
  (repeat' (split at e)) <;> first | (cases e; done) | exact mm_nx ⟨Nat.le_refl _, Nat.le_refl _⟩ e
theorem mm_ret {h : MH} {v : Value} {z : (Nat × ML × List Value × MH) ⊕ (Value × MH)} (e : (some (.inr (v, h)) : MO) = some z) : mle h z := by
  cases e
  exact ⟨Nat.le_refl _, Nat.le_refl _⟩
set_option maxHeartbeats 4000000 in
theorem mst_le {i : MI} {k : Nat} {ls : ML} {st : List Value} {h : MH} {ev : ME} {z : (Nat × ML × List Value × MH) ⊕ (Value × MH)} (he : mEm ev) (hs : mst i k ls st h ev = some z) : mle h z := by
  obtain ⟨pc, ins, x, y, sw, a, b, c, d, e⟩ := i
  cases ins <;> simp only [mst] at hs <;> (try (cases hs; done)) <;> (repeat' (split at hs)) <;> first
    | (cases hs; done)
    | exact mm_nx (by exact ⟨Nat.le_refl _, Nat.le_refl _⟩) hs
    | exact mm_nx (by exact ⟨Nat.le_refl _, Nat.le_refl _⟩) (mck_some hs).2
    | exact mm_nx (by exact ⟨Nat.le_succ _, Nat.le_add_right _ _⟩) hs
    | exact mm_nx (by exact ⟨Nat.le_succ _, Nat.le_add_right _ _⟩) (mck_some hs).2
    | exact mm_nx (by exact ⟨Nat.le_refl _, Nat.le_refl _⟩) (mst1_some hs).2
    | exact mm_nx (by exact ⟨Nat.le_refl _, Nat.le_refl _⟩) (mst2_some hs).2
    | exact mm_br hs
    | exact mm_copy hs
    | exact mm_clone hs
    | exact mm_math hs
    | exact mm_call he hs
    | exact mm_callv he hs
    | exact mm_ret hs
    | exact mm_ret (mck_some hs).2
theorem mrun_mono {ev : ME} {C : List MI} (he : mEm ev) : ∀ (f k : Nat) (ls : ML) (st : List Value) (h : MH) (v : Value) (h' : MH), mrun ev C f k ls st h = some (v, h') → mN h ≤ mN h' ∧ mS h ≤ mS h' := by
  intro f
  induction f with
  | zero => intro k ls st h v h' e; cases e
  | succ f ih =>
    intro k ls st h v h' e
    rw [mrun] at e
    cases hi : C[k]? with
    | none => rw [hi] at e; cases e
    | some i =>
      rw [hi] at e
      simp only [Option.bind_some] at e
      cases hm : mst i k ls st h ev with
      | none => rw [hm] at e; cases e
      | some z =>
        rw [hm] at e
        have h1 := mst_le he hm
        match z, e, h1 with
        | .inr r, e, h1 => cases e; exact h1
        | .inl (k2, ls2, st2, h2), e, h1 =>
          have h2 := ih k2 ls2 st2 h2 v h' e
          exact ⟨Nat.le_trans h1.1 h2.1, Nat.le_trans h1.2 h2.2⟩
/-- no answer but by a return -/
def isRet : Instr → Bool
  | .ireturn => true
  | .lreturn => true
  | .areturn => true
  | .return_ => true
  | _ => false
theorem nr_nx {k : Nat} {ls : ML} {st : List Value} {h : MH} {r : Value × MH} (e : nx k ls st h = some (.inr r)) : False := by
  unfold nx at e
  cases e
theorem nr_br {h : MH} {c : Prop} {d : Decidable c} {t k : Nat} {ls : ML} {st : List Value} {r : Value × MH} (e : mbr c d t k ls st h = some (.inr r)) : False := by
  unfold mbr at e
  split at e <;> exact nr_nx e
theorem nr_cl {o : Option (Value × MH)} {rk k : Nat} {ls : ML} {st : List Value} {r : Value × MH} (e : mcl o rk k ls st = some (.inr r)) : False := by
  unfold mcl at e
  split at e <;> split at e <;> first | (cases e; done) | exact nr_nx e
theorem nr_call {h : MH} {i : MI} {k : Nat} {ls : ML} {st : List Value} {ev : ME} {r : Value × MH} (e : mcall i k ls st h ev = some (.inr r)) : False := by
  obtain ⟨pc, ins, x, y, sw, a, b, c, d, e0⟩ := i
  unfold mcall at e
  dsimp only at e
  split at e
  · exact nr_cl e
  · cases e
theorem nr_callv {h : MH} {i : MI} {k : Nat} {ls : ML} {st : List Value} {ev : ME} {r : Value × MH} (e : mcallv i k ls st h ev = some (.inr r)) : False := by
  obtain ⟨pc, ins, x, y, sw, a, b, c, d, e0⟩ := i
  unfold mcallv at e
  dsimp only at e
  split at e
  · exact nr_call (mck_some e).2
  · cases e
theorem nr_clone {h : MH} {k : Nat} {ls : ML} {st : List Value} {r : Value × MH} (e : mclone k ls st h = some (.inr r)) : False := by
  unfold mclone at e
  split at e
  · split at e
    · exact nr_nx (mck_some e).2
    · cases e
  · cases e
theorem nr_math {h : MH} {d k : Nat} {ls : ML} {st : List Value} {r : Value × MH} (e : mmath d k ls st h = some (.inr r)) : False := by
  unfold mmath at e
  (repeat' (split at e)) <;> first | (cases e; done) | exact nr_nx e
theorem nr_copy {h : MH} {k : Nat} {ls : ML} {st : List Value} {r : Value × MH} (e : mcopy k ls st h = some (.inr r)) : False := by
  unfold mcopy at e
  split at e
  · split at e
    · exact nr_nx (mck_some e).2
    · cases e
  · cases e
set_option maxHeartbeats 4000000 in
theorem mst_ret {i : MI} {k : Nat} {ls : ML} {st : List Value} {h : MH} {ev : ME} {r : Value × MH} (hs : mst i k ls st h ev = some (.inr r)) : isRet i.2.1 = true := by
  obtain ⟨pc, ins, x, y, sw, a, b, c, d, e⟩ := i
  cases ins <;> first | rfl | (exfalso; simp only [mst] at hs <;> (try (cases hs; done)) <;> (repeat' (split at hs)) <;> first
    | (cases hs; done)
    | exact nr_nx hs
    | exact nr_nx (mck_some hs).2
    | exact nr_nx (mst1_some hs).2
    | exact nr_nx (mst2_some hs).2
    | exact nr_br hs
    | exact nr_copy hs
    | exact nr_clone hs
    | exact nr_math hs
    | exact nr_call hs
    | exact nr_callv hs)
section MSE
variable {p : Program} {l : Launch} {e0 : Env} {R : Room} {s : State} {m : MethodId} {args : Array Value} {below : List Frame} {meth : Method} {c0 : Code} {Q : Nat → Nat → State → Prop}
variable {cc : ByteArray} {G : MG} {own : String} {nL : Nat} {h0 h hF : MH} {vF : Value} {ls : ML} {st : List Value} {tb : List MT} {ini : Bool} {C : List MI} {ret : Option FieldType} {k : Nat} {ps : List Nat} {ev : ME} {dd : Nat}
theorem mbody (X : mCx G p R s m args c0 own cc nL h0) (hC : ∀ k i, C[k]? = some i → ∃ ps, mokB tb own ini cc C ret k i ps = true) (hini : ini = true → meth.name = "<init>") (hT : mQs tb) (hE : mEv tb ev l G dd) (hfr : dd + 1 ≤ R.frames ∧ 64 * dd + 64 ≤ R.locals) (hr : mN hF ≤ mN h0 + R.cells ∧ mS hF ≤ mS h0 + R.slots)
    (hret : ∀ k i ls st h, C[k]? = some i → mst i k ls st h ev = some (.inr (vF, hF)) → mV p l e0 R s m args below meth c0 Q G nL h0 hF i.1 ls st h) :
    ∀ (f k : Nat) (ls : ML) (st : List Value) (h : MH), mrun ev C f k ls st h = some (vF, hF) → mV p l e0 R s m args below meth c0 Q G nL h0 hF (mbp C k) ls st h := by
  have he : mEm ev := fun y as h v h' q => by
    obtain ⟨_, _, h1, h2, _⟩ := hE y as h v h' q
    exact ⟨h1, h2⟩
  intro f
  induction f with
  | zero => intro k ls st h e; cases e
  | succ f ih =>
    intro k ls st h e
    rw [mrun] at e
    cases hi : C[k]? with
    | none => rw [hi] at e; cases e
    | some i =>
      have hb : mbp C k = i.1 := by unfold mbp; rw [hi]
      rw [hb]
      rw [hi] at e
      simp only [Option.bind_some] at e
      cases hm : mst i k ls st h ev with
      | none => rw [hm] at e; cases e
      | some z =>
        rw [hm] at e
        match z, e, hm with
        | .inr r, e, hm =>
          cases e
          exact hret k i ls st h hi hm
        | .inl (k2, ls2, st2, h2), e, hm =>
          obtain ⟨ps, hok⟩ := hC k i hi
          have h3 := mrun_mono he f k2 ls2 st2 h2 vF hF e
          exact mstep X hok hini hT hE hfr ⟨Nat.le_trans h3.1 hr.1, Nat.le_trans h3.2 hr.2⟩ hm (ih k2 ls2 st2 h2 e)
/-- a return, in a method that is called -/
theorem mretn (X : mCx G p R s m args c0 own cc nL h0) (hlocks : meth.locks = false) (hsig : meth.sig.returnType = ret) {i : MI} (hok : mokB tb own ini cc C ret k i ps = true) (hs : mst i k ls st h ev = some (.inr (vF, hF))) : mV p l e0 R s m args below meth c0 (fun cells slots => MQ below (mPost G ret vF hF) args s cells slots G.A) G nL h0 hF i.1 ls st h := by
  have hrt := mst_ret hs
  obtain ⟨pc, ins, x, y, sw, a, b, c, d, e⟩ := i
  have fin : ∀ (H : Heap) (locs : List Loc) (cells slots : Nat), h = hF → mR G s h0 h H locs cells slots → cells = mN hF - mN h0 ∧ slots = mS hF - mS h0 ∧ ∀ t : State, t.heap = H → va_P G.D vwCl (mws G hF) t.heap ∧ mwf G hF ∧ va_F G.A s t := by
    intro H locs cells slots hh hR
    subst hh
    have c1 := hR.2.2.2.1
    have c2 := hR.2.2.2.2
    exact ⟨by omega, by omega, fun t ht => ⟨by rw [ht]; exact hR.1, hR.2.2.1, hR.2.1.F ht⟩⟩
  cases ins <;> first | (cases hrt; done) | skip
  case ireturn =>
    simp only [mokB, Bool.and_eq_true] at hok
    have hd := mdec_of hok.1
    simp only [mst] at hs
    split at hs
    · rename_i v
      obtain ⟨hc, hs⟩ := mck_some hs
      cases hs
      intro H locs cells slots lsA hR hL
      obtain ⟨e1, e2, e3⟩ := fin H locs cells slots rfl hR
      have h5 := hok.2
      have hq : ∀ (t : State), t.heap = H → mret G ret (.int v) = some (.int v) → mPost G ret (.int v) h args s (.returned (some (.int v))) t := fun t ht hz => ⟨by rw [hz], e3 t ht⟩
      rw [← e1, ← e2]
      unfold mreq at h5
      split at h5
      · exact W.iret X.1 X.2.1 hsig (fun t ht _ => hq t ht rfl) hR.2.1.2.2 hd hlocks
      · have hc1 := Nat.eq_of_beq_eq_true h5
        subst hc1
        refine W.zret X.1 X.2.1 hsig ?_ (fun t ht _ => hq t ht rfl) hR.2.1.2.2 hd hlocks
        rcases hc with rfl | rfl <;> decide +kernel
      · have hc1 := Nat.eq_of_beq_eq_true h5
        subst hc1
        have hc : (v.toUInt32 % 65536).toInt32 = v := hc
        refine W.zret X.1 X.2.1 hsig ?_ (fun t ht _ => hq t ht rfl) hR.2.1.2.2 hd hlocks
        rw [← hc]
        exact pk_nc v
      · have hc1 := Nat.eq_of_beq_eq_true h5
        subst hc1
        have hc : v.toInt8.toInt32 = v := hc
        refine W.zret X.1 X.2.1 hsig ?_ (fun t ht _ => hq t ht rfl) hR.2.1.2.2 hd hlocks
        rw [← hc]
        exact pk_nb v
      · cases h5
    · cases hs
  case lreturn =>
    simp only [mokB, Bool.and_eq_true, decide_eq_true_eq] at hok
    have hd := mdec_of hok.1
    simp only [mst] at hs
    split at hs
    · rename_i v
      cases hs
      intro H locs cells slots lsA hR hL
      obtain ⟨e1, e2, e3⟩ := fin H locs cells slots rfl hR
      rw [← e1, ← e2]
      have hr2 := hok.2
      subst hr2
      exact W.lret X.1 X.2.1 hsig (fun t ht _ => ⟨rfl, e3 t ht⟩) hR.2.1.2.2 hd hlocks
    · cases hs
  case areturn =>
    simp only [mokB, Bool.and_eq_true] at hok
    have hd := mdec_of hok.1
    simp only [mst] at hs
    split at hs
    · rename_i v
      cases hs
      intro H locs cells slots lsA hR hL
      obtain ⟨e1, e2, e3⟩ := fin H locs cells slots rfl hR
      rw [← e1, ← e2]
      have h5 := hok.2
      have hv : mtr G (.ref v) = .null ∨ ∃ a, mtr G (.ref v) = .ref a := by
        by_cases hz : v = 0
        · subst hz; exact Or.inl rfl
        · exact Or.inr ⟨_, mtr_pos hz⟩
      unfold mrref at h5
      split at h5
      · rename_i n0
        exact W.aret X.1 X.2.1 hsig (Or.inl ⟨_, rfl⟩) hv (fun t ht _ => ⟨rfl, e3 t ht⟩) hR.2.1.2.2 hd hlocks
      · exact W.aret X.1 X.2.1 hsig (Or.inr ⟨_, rfl⟩) hv (fun t ht _ => ⟨rfl, e3 t ht⟩) hR.2.1.2.2 hd hlocks
      · cases h5
    · cases hs
  case return_ =>
    simp only [mokB, Bool.and_eq_true, decide_eq_true_eq] at hok
    have hd := mdec_of hok.1
    simp only [mst] at hs
    split at hs
    · cases hs
      intro H locs cells slots lsA hR hL
      obtain ⟨e1, e2, e3⟩ := fin H locs cells slots rfl hR
      rw [← e1, ← e2]
      have hr2 := hok.2
      subst hr2
      exact W.vret X.1 X.2.1 hsig (fun t ht _ => ⟨rfl, e3 t ht⟩) hR.2.1.2.2 hd hlocks
    · cases hs
end MSE
theorem mL0_len (G : MG) : ∀ as : List Value, (lg_sl (as.map (mtr G))).length = (mL0 as).length := by
  intro as
  induction as with
  | nil => rfl
  | cons v as ih =>
    have e1 : lg_sl ((v :: as).map (mtr G)) = (if (mtr G v).category = 2 then [.val (mtr G v), .second] else [.val (mtr G v)]) ++ lg_sl (as.map (mtr G)) := rfl
    rw [e1, List.length_append, ih, mtr_cat]
    cases v <;> simp [mL0, Value.category] <;> omega
theorem mL0_args (G : MG) : ∀ (as : List Value) (j i : Nat) (v : Value), (mL0 as)[i]? = some (some v) → (j + i, mtr G v) ∈ lv_args j (as.map (mtr G)) := by
  intro as
  induction as with
  | nil => intro j i v h; simp [mL0] at h
  | cons w as ih =>
    intro j i v h
    rw [List.map_cons, lv_args, mtr_cat]
    by_cases hc : w.category = 2
    · have e1 : mL0 (w :: as) = some w :: none :: mL0 as := by cases w <;> first | rfl | simp [Value.category] at hc
      rw [e1] at h
      rw [if_pos hc]
      match i, h with
      | 0, h => simp at h; subst h; exact List.mem_cons_self
      | 1, h => simp at h
      | i + 2, h =>
        refine List.mem_cons_of_mem _ ?_
        have := ih (j + 2) i v (by simpa using h)
        rwa [show j + 2 + i = j + (i + 2) by omega] at this
    · have e1 : mL0 (w :: as) = some w :: mL0 as := by cases w <;> first | rfl | simp [Value.category] at hc
      rw [e1] at h
      rw [if_neg hc]
      match i, h with
      | 0, h => simp at h; subst h; exact List.mem_cons_self
      | i + 1, h =>
        refine List.mem_cons_of_mem _ ?_
        have := ih (j + 1) i v (by simpa using h)
        rwa [show j + 1 + i = j + (i + 1) by omega] at this
theorem mL_has (G : MG) {as : List Value} {n : Nat} (h : (mL0 as).length ≤ n) : mlh G ((lg_sl (as.map (mtr G)) ++ List.replicate (n - (lg_sl (as.map (mtr G))).length) Slot.unset).toArray) n (mL as n) := by
  refine mlh_of (lv_entry _ (by rw [mL0_len]; exact h)) (by simp [mL]; omega) fun i v hv => ?_
  unfold mL at hv
  by_cases hi : i < (mL0 as).length
  · rw [List.getElem?_append_left hi] at hv
    have := mL0_args G as 0 i v hv
    rwa [Nat.zero_add] at this
  · rw [List.getElem?_append_right (by omega)] at hv
    have := List.mem_of_getElem? hv
    simp at this
/-- what is known of the methods' codes -/
def mPs (tb : List MT) : Prop := ∀ (y : Nat) (q : MT), tb[y]? = some q → plainName q.1.cls = true ∧ mbp q.2.2.2.2 0 = 0 ∧ ∀ k i, q.2.2.2.2[k]? = some i → ∃ ps, mokB tb q.1.cls (decide (q.1.name = "<init>")) q.2.1 q.2.2.2.2 q.2.2.2.1 k i ps = true
set_option maxHeartbeats 1000000 in
theorem msound (tb : List MT) (hT : mQs tb) (hP : mPs tb) (l : Launch) (G : MG) : ∀ d, mEv tb (mE tb d) l G d := by
  intro d
  induction d with
  | zero => intro y as h v h' e; cases e
  | succ d ih =>
    intro y as h v h' e
    rw [mE] at e
    dsimp only at e
    cases hq : tb[y]? with
    | none => rw [hq] at e; cases e
    | some q =>
      rw [hq] at e
      dsimp only at e
      split at e
      · rename_i hlen
        have hlen := Nat.le_of_ble_eq_true hlen
        obtain ⟨f, hf⟩ := mX_iff.mp e
        have he : mEm (mE tb d) := fun y as h v h' q => by
          obtain ⟨_, _, h1, h2, _⟩ := ih y as h v h' q
          exact ⟨h1, h2⟩
        have hm := mrun_mono he f _ _ _ _ _ _ hf
        refine ⟨q, rfl, hm.1, hm.2, ?_⟩
        obtain ⟨y0, bytes, maxL, ret, C⟩ := q
        obtain ⟨hpn, hb0, hok⟩ := hP y _ hq
        dsimp only at hpn hb0 hok hlen hf ⊢
        refine Met.ofW (cc := bytes) (maxL := maxL) (ret := ret) hpn rfl ?_
        intro p e0 s m args below meth c s₁ B hml hv
        obtain ⟨rfl, hsz, hPp, hwf, henv⟩ := hv
        have hts := atoms_spec (ws := mwd (y0, bytes, maxL, ret, C)) B.pre
        have hown : s.vm.findClass y0.cls = some m.cls := findClass_of_methodNamed B.named
        have X : mCx G p (headSpec (mwd (y0, bytes, maxL, ret, C)) (mrm (d + 1) h h')).room s m (as.map (mtr G)).toArray c y0.cls bytes maxL h := ⟨B.exec, B.bytes, hml, hown, fun w hw => hts w (List.mem_cons_of_mem _ hw), henv, hsz, hwf.2.2.1, by show 1 ≤ d + 1; omega, by show 64 ≤ 64 * (d + 1); omega⟩
        have hname : y0.name = "<init>" → meth.name = "<init>" := fun z => by rw [← z]; exact (name_of_methodNamed B.named B.method).1
        have key := mbody (e0 := e0) (below := below) (meth := meth) (Q := fun cells slots => MQ below (mPost G ret v h') (as.map (mtr G)).toArray s cells slots G.A) (ini := decide (y0.name = "<init>")) (ret := ret) X hok (fun z => hname (of_decide_eq_true z)) hT ih ⟨by show d + 1 ≤ d + 1; omega, by show 64 * d + 64 ≤ 64 * (d + 1); omega⟩ ⟨by show mN h' ≤ mN h + (mN h' - mN h); omega, by show mS h' ≤ mS h + (mS h' - mS h); omega⟩ (fun k i ls st h2 hi hs => by
          obtain ⟨ps, hok1⟩ := hok k i hi
          exact mretn X B.notSynchronized B.returns hok1 hs) f 0 (mL as maxL) [] h hf
        rw [lg_entry_eq]
        rw [hb0] at key
        exact key s.heap [] 0 0 _ ⟨hPp, va_S.rf, hwf, rfl, rfl⟩ (mL_has G hlen)
      · cases e
