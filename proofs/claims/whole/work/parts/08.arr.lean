/-! ROWS OF THE SMALL MACHINE, 4: arrays, new cells, statics, switches -/
section MV4
variable {p : Program} {l : Launch} {e : Env} {R : Room} {s : State} {m : MethodId} {args : Array Value} {below : List Frame} {meth : Method} {c : Code} {Q : Nat → Nat → State → Prop}
variable {cc : ByteArray} {pc : Nat} {G : MG} {own : String} {nL : Nat} {h0 h hF : MH} {ls : ML} {st : List Value}
theorem mcx_lo (X : mCx G p R s m args c own cc nL h0) {H : Heap} {locs : List Loc} {cells slots r : Nat} (hR : mR G s h0 h H locs cells slots) (hk0 : ¬ kd h r = 0) (hk : kd h r < 24) : 8 ≤ r ∧ r < mN h := mwf_lo X.2.2.2.2.2.1.2.2.2.2.1 hR.2.2.1 hk0 hk
theorem mv_iald (X : mCx G p R s m args c own cc nL h0) {i : Int32} {r : Nat} (hd : decode cc pc = .ok (.iaload, 1)) (hk : kd h r = 20 ∨ kd h r = 24) (hi : ib i (ln h r)) (k : mV p l e R s m args below meth c Q G nL h0 hF (pc + 1) ls (.int (gI h r (ix i)) :: st) h) : mV p l e R s m args below meth c Q G nL h0 hF pc ls (.int i :: .ref r :: st) h := by
  intro H locs cells slots lsA hR hL
  rw [List.map_cons, List.map_cons]
  rcases hk with hk | hk
  · obtain ⟨h6, hn⟩ := mcx_lo X hR (by omega) (by omega : kd h r < 24)
    have hw := mws_get (G := G) h6 hn
    rw [ment_20 hk] at hw
    rw [mtr_pos (show ¬ r = 0 by omega)]
    exact va_iald X.1 X.2.1 X.2.2.2.2.2.1.1 hR.1 (r - 8) 0 hw rfl hi hd (k H locs cells slots lsA hR hL)
  · have h6 := mwf_24 hR.2.2.1 (by omega : 24 ≤ kd h r)
    obtain ⟨e1, e2, e3, -⟩ := hR.2.2.1.2.1 r h6
    have hr : ¬ r = 0 := fun q => by
      have := X.2.2.2.2.2.1.2.2.2.2.1.1
      rw [q] at e1 hk
      omega
    have e4 : mad G r = G.E r := if_pos h6
    rw [mtr_pos hr, e4]
    have kk := k H locs cells slots lsA hR hL
    rw [List.map_cons, e3] at kk
    rw [e2] at hi
    exact va_ti X.1 X.2.1 (X.2.2.2.2.2.1.2.2.2.2.2.1 r h6 (by omega)) hR.2.1 hi rfl hd kk
theorem mv_alen (X : mCx G p R s m args c own cc nL h0) {r : Nat} (hd : decode cc pc = .ok (.arraylength, 1)) (hk : 20 ≤ kd h r ∧ ¬ kd h r = 25 ∧ kd h r ≤ 26) (k : mV p l e R s m args below meth c Q G nL h0 hF (pc + 1) ls (.int (nI (ln h r)) :: st) h) : mV p l e R s m args below meth c Q G nL h0 hF pc ls (.ref r :: st) h := by
  intro H locs cells slots lsA hR hL
  rw [List.map_cons]
  have kk := k H locs cells slots lsA hR hL
  rw [List.map_cons] at kk
  by_cases h24 : 24 ≤ kd h r
  · have h6 := mwf_24 hR.2.2.1 h24
    obtain ⟨e1, e2, e3, -⟩ := hR.2.2.1.2.1 r h6
    have hr : ¬ r = 0 := fun q => by
      have := X.2.2.2.2.2.1.2.2.2.2.1.1
      rw [q] at e1 h24
      omega
    have e4 : mad G r = G.E r := if_pos h6
    rw [mtr_pos hr, e4]
    rw [e2] at kk
    by_cases h5 : kd h r = 24
    · exact va_tlen X.1 X.2.1 (X.2.2.2.2.2.1.2.2.2.2.2.1 r h6 (by omega)) hR.2.1 rfl hd kk
    · exact va_tlen X.1 X.2.1 (X.2.2.2.2.2.1.2.2.2.2.2.2.1 r h6 (by omega)) hR.2.1 rfl hd kk
  · obtain ⟨h6, hn⟩ := mcx_lo X hR (by omega) (by omega : kd h r < 24)
    have hw := mws_get (G := G) h6 hn
    rw [mtr_pos (show ¬ r = 0 by omega)]
    rcases (show kd h r = 20 ∨ kd h r = 21 ∨ kd h r = 22 ∨ kd h r = 23 by omega) with q | q | q | q
    · rw [ment_20 q] at hw
      exact va_alen X.1 X.2.1 X.2.2.2.2.2.1.1 hR.1 (r - 8) 0 hw rfl rfl hd kk
    · rw [ment_21 q] at hw
      exact va_alen X.1 X.2.1 X.2.2.2.2.2.1.1 hR.1 (r - 8) 1 hw rfl rfl hd kk
    · rw [ment_22 q] at hw
      exact va_alen X.1 X.2.1 X.2.2.2.2.2.1.1 hR.1 (r - 8) 2 hw rfl rfl hd kk
    · rw [ment_23 q] at hw
      exact va_alen X.1 X.2.1 X.2.2.2.2.2.1.1 hR.1 (r - 8) 3 hw rfl rfl hd kk
theorem mv_lald (X : mCx G p R s m args c own cc nL h0) {i : Int32} {r : Nat} (hd : decode cc pc = .ok (.laload, 1)) (hk : kd h r = 21) (hi : ib i (ln h r)) (k : mV p l e R s m args below meth c Q G nL h0 hF (pc + 1) ls (.long (gL h r (ix i)) :: st) h) : mV p l e R s m args below meth c Q G nL h0 hF pc ls (.int i :: .ref r :: st) h := by
  intro H locs cells slots lsA hR hL
  rw [List.map_cons, List.map_cons]
  obtain ⟨h6, hn⟩ := mcx_lo X hR (by omega) (by omega : kd h r < 24)
  have hw := mws_get (G := G) h6 hn
  rw [ment_21 hk] at hw
  rw [mtr_pos (show ¬ r = 0 by omega)]
  exact va_lald X.1 X.2.1 X.2.2.2.2.2.1.1 hR.1 (r - 8) 1 hw rfl hi hd (k H locs cells slots lsA hR hL)
theorem mv_zald (X : mCx G p R s m args c own cc nL h0) {i : Int32} {r : Nat} (hd : decode cc pc = .ok (.baload, 1)) (hk : kd h r = 22 ∨ kd h r = 26) (hi : ib i (ln h r)) (k : mV p l e R s m args below meth c Q G nL h0 hF (pc + 1) ls (.int (gI h r (ix i)) :: st) h) : mV p l e R s m args below meth c Q G nL h0 hF pc ls (.int i :: .ref r :: st) h := by
  intro H locs cells slots lsA hR hL
  rw [List.map_cons, List.map_cons]
  rcases hk with hk | hk
  · obtain ⟨h6, hn⟩ := mcx_lo X hR (by omega) (by omega : kd h r < 24)
    have hw := mws_get (G := G) h6 hn
    rw [ment_22 hk] at hw
    rw [mtr_pos (show ¬ r = 0 by omega)]
    exact va_zald X.1 X.2.1 X.2.2.2.2.2.1.1 hR.1 (r - 8) 2 hw rfl hi hd (k H locs cells slots lsA hR hL)
  · have h6 := mwf_24 hR.2.2.1 (by omega : 24 ≤ kd h r)
    obtain ⟨e1, e2, e3, -⟩ := hR.2.2.1.2.1 r h6
    have hr : ¬ r = 0 := fun q => by
      have := X.2.2.2.2.2.1.2.2.2.2.1.1
      rw [q] at e1 hk
      omega
    have e4 : mad G r = G.E r := if_pos h6
    rw [mtr_pos hr, e4]
    have kk := k H locs cells slots lsA hR hL
    rw [List.map_cons, e3] at kk
    rw [e2] at hi
    exact va_tb X.1 X.2.1 (X.2.2.2.2.2.1.2.2.2.2.2.2.1 r h6 (by omega)) hR.2.1 hi rfl hd kk
theorem mv_aald (X : mCx G p R s m args c own cc nL h0) {i : Int32} {r : Nat} (hd : decode cc pc = .ok (.aaload, 1)) (hk : kd h r = 23) (hi : ib i (ln h r)) (k : mV p l e R s m args below meth c Q G nL h0 hF (pc + 1) ls (.ref (gR h r (ix i)) :: st) h) : mV p l e R s m args below meth c Q G nL h0 hF pc ls (.int i :: .ref r :: st) h := by
  intro H locs cells slots lsA hR hL
  rw [List.map_cons, List.map_cons]
  obtain ⟨h6, hn⟩ := mcx_lo X hR (by omega) (by omega : kd h r < 24)
  have hw := mws_get (G := G) h6 hn
  rw [ment_23 hk] at hw
  rw [mtr_pos (show ¬ r = 0 by omega)]
  exact va_aldq X.1 X.2.1 X.2.2.2.2.2.1.1 hR.1 (r - 8) 3 hw rfl hi hd (k H locs cells slots lsA hR hL)
/-- behind a store -/
theorem mR_rI (hR0 : mwf G h) {H1 : Heap} {locs1 : List Loc} {cells slots r : Nat} {f : Nat → Int32} {e1 : va_E} (h6 : 8 ≤ r) (hn : r < mN h) (he : ment G (rI h r f) r = e1) (hP1 : va_P G.D vwCl ((mws G h).set (r - 8) (mad G r, e1)) H1) (hS1 : va_S G.A s.heap H1 locs1) (c1 : mN h = mN h0 + cells) (c2 : mS h = mS h0 + slots) : mR G s h0 (rI h r f) H1 locs1 cells slots := by
  rw [mws_set h6 hn (rfl : mN (rI h r f) = mN h) he (fun b hb => ment_rI hb)] at hP1
  exact ⟨hP1, hS1, mwf_rI hR0 h6 f, c1, c2⟩
theorem upd_up (f : Nat → Int32) (k : Nat) (v : Int32) : upd f k v = va_up f k v := rfl
theorem updL_up (f : Nat → Int64) (k : Nat) (v : Int64) : vp_updL f k v = va_up f k v := rfl
theorem mv_iast (X : mCx G p R s m args c own cc nL h0) {i v : Int32} {r : Nat} (hd : decode cc pc = .ok (.iastore, 1)) (hk : kd h r = 20) (hi : ib i (ln h r)) (k : mV p l e R s m args below meth c Q G nL h0 hF (pc + 1) ls st (sI h r (ix i) v)) : mV p l e R s m args below meth c Q G nL h0 hF pc ls (.int v :: .int i :: .ref r :: st) h := by
  intro H locs cells slots lsA hR hL
  rw [List.map_cons, List.map_cons, List.map_cons]
  obtain ⟨h6, hn⟩ := mcx_lo X hR (by omega) (by omega : kd h r < 24)
  have hw := mws_get (G := G) h6 hn
  rw [ment_20 hk] at hw
  rw [mtr_pos (show ¬ r = 0 by omega)]
  refine va_iast X.1 X.2.1 X.2.2.2.2.2.1.1 hR.1 (mws_D G h) hR.2.1 (r - 8) 0 hw rfl hi hd fun H1 locs1 hP1 _ hS1 => ?_
  exact k H1 locs1 cells slots lsA (mR_rI hR.2.2.1 h6 hn (by rw [ment_20 (by rw [kd_rI]; exact hk), ln_rI, gI_rI, if_pos rfl]; rfl) hP1 hS1 hR.2.2.2.1 hR.2.2.2.2) hL
theorem mv_zast (X : mCx G p R s m args c own cc nL h0) {i v : Int32} {r : Nat} (hd : decode cc pc = .ok (.bastore, 1)) (hk : kd h r = 22) (hi : ib i (ln h r)) (hv : v = 0 ∨ v = 1) (k : mV p l e R s m args below meth c Q G nL h0 hF (pc + 1) ls st (sI h r (ix i) v)) : mV p l e R s m args below meth c Q G nL h0 hF pc ls (.int v :: .int i :: .ref r :: st) h := by
  intro H locs cells slots lsA hR hL
  rw [List.map_cons, List.map_cons, List.map_cons]
  obtain ⟨h6, hn⟩ := mcx_lo X hR (by omega) (by omega : kd h r < 24)
  have hw := mws_get (G := G) h6 hn
  rw [ment_22 hk] at hw
  rw [mtr_pos (show ¬ r = 0 by omega)]
  refine va_zast X.1 X.2.1 X.2.2.2.2.2.1.1 hR.1 (mws_D G h) hR.2.1 (r - 8) 2 hw rfl hi hd fun H1 locs1 hP1 _ hS1 => ?_
  have ev : vp_nar .boolean v = v := by rcases hv with rfl | rfl <;> decide +kernel
  rw [ev] at hP1
  exact k H1 locs1 cells slots lsA (mR_rI hR.2.2.1 h6 hn (by rw [ment_22 (by rw [kd_rI]; exact hk), ln_rI, gI_rI, if_pos rfl]; rfl) hP1 hS1 hR.2.2.2.1 hR.2.2.2.2) hL
theorem mv_last (X : mCx G p R s m args c own cc nL h0) {i : Int32} {v : Int64} {r : Nat} (hd : decode cc pc = .ok (.lastore, 1)) (hk : kd h r = 21) (hi : ib i (ln h r)) (k : mV p l e R s m args below meth c Q G nL h0 hF (pc + 1) ls st (sL h r (ix i) v)) : mV p l e R s m args below meth c Q G nL h0 hF pc ls (.long v :: .int i :: .ref r :: st) h := by
  intro H locs cells slots lsA hR hL
  rw [List.map_cons, List.map_cons, List.map_cons]
  obtain ⟨h6, hn⟩ := mcx_lo X hR (by omega) (by omega : kd h r < 24)
  have hw := mws_get (G := G) h6 hn
  rw [ment_21 hk] at hw
  rw [mtr_pos (show ¬ r = 0 by omega)]
  refine va_last X.1 X.2.1 X.2.2.2.2.2.1.1 hR.1 (mws_D G h) hR.2.1 (r - 8) 1 hw rfl hi hd fun H1 locs1 hP1 _ hS1 => ?_
  have e1 : ment G (sL h r (ix i) v) r = .inl (G.cL, ln h r, .inr (.inl (vp_updL (gL h r) (ix i) v))) := by
    rw [ment_21 (show kd (sL h r (ix i) v) r = 21 from hk)]
    unfold sL
    rw [gL_rL, if_pos rfl]
    rfl
  rw [mws_set h6 hn (rfl : mN (sL h r (ix i) v) = mN h) e1 (fun b hb => ment_rL hb)] at hP1
  exact k H1 locs1 cells slots lsA ⟨hP1, hS1, mwf_rL hR.2.2.1 _, hR.2.2.2.1, hR.2.2.2.2⟩ hL
theorem mv_aast (X : mCx G p R s m args c own cc nL h0) {i : Int32} {v r : Nat} (hd : decode cc pc = .ok (.aastore, 1)) (hk : kd h r = 23) (hi : ib i (ln h r)) (hv : v = 0 ∨ kd h v = 8 + 1) (k : mV p l e R s m args below meth c Q G nL h0 hF (pc + 1) ls st (sR h r (ix i) v)) : mV p l e R s m args below meth c Q G nL h0 hF pc ls (.ref v :: .int i :: .ref r :: st) h := by
  intro H locs cells slots lsA hR hL
  rw [List.map_cons, List.map_cons, List.map_cons]
  obtain ⟨h6, hn⟩ := mcx_lo X hR (by omega) (by omega : kd h r < 24)
  have hw := mws_get (G := G) h6 hn
  rw [ment_23 hk] at hw
  rw [mtr_pos (show ¬ r = 0 by omega)]
  have fin : ∀ (H1 : Heap) (locs1 : List Loc), va_P G.D vwCl ((mws G h).set (r - 8) (mad G r, .inl (G.cT, ln h r, .inr (.inr (.inr (.inr (va_up (fun j => morf G (gR h r j)) (ix i) (morf G v)))))))) H1 → va_S G.A s.heap H1 locs1 → W p l e R s m args below meth c H1 locs1 cells slots (Q (mN hF - mN h0) (mS hF - mS h0)) (F0 m (pc + 1) lsA (st.map (mtr G))) := by
    intro H1 locs1 hP1 hS1
    have e1 : ment G (sR h r (ix i) v) r = .inl (G.cT, ln h r, .inr (.inr (.inr (.inr (va_up (fun j => morf G (gR h r j)) (ix i) (morf G v)))))) := by
      rw [ment_23 (show kd (sR h r (ix i) v) r = 23 from hk)]
      have e2 : (fun j => morf G (gR (sR h r (ix i) v) r j)) = va_up (fun j => morf G (gR h r j)) (ix i) (morf G v) := by
        funext j
        unfold sR
        rw [gR_rR, if_pos rfl]
        unfold va_up
        split <;> rfl
      rw [e2]
      rfl
    rw [mws_set h6 hn (rfl : mN (sR h r (ix i) v) = mN h) e1 (fun b hb => ment_rR hb)] at hP1
    exact k H1 locs1 cells slots lsA ⟨hP1, hS1, mwf_rR hR.2.2.1 h6 _, hR.2.2.2.1, hR.2.2.2.2⟩ hL
  by_cases hv0 : v = 0
  · subst hv0
    exact va_astqN X.1 X.2.1 X.2.2.2.2.2.1.1 hR.1 (mws_D G h) hR.2.1 (r - 8) 3 hw rfl hi hd fun H1 locs1 hP1 _ hS1 => fin H1 locs1 hP1 hS1
  · have hkv : kd h v = 8 + 1 := hv.resolve_left hv0
    obtain ⟨v6, vn⟩ := mcx_lo X hR (by omega) (by omega : kd h v < 24)
    have hwv := mws_get (G := G) v6 vn
    rw [ment_obj hkv (by omega)] at hwv
    rw [mtr_pos hv0]
    have em : morf G v = some (mad G v) := by simp [morf, hv0]
    rw [em] at fin
    exact va_astq X.1 X.2.1 X.2.2.2.2.2.1.1 hR.1 (mws_D G h) hR.2.1 (r - 8) 3 (v - 8) 8 hw rfl hwv rfl hi hd fun H1 locs1 hP1 _ hS1 => fin H1 locs1 hP1 hS1
theorem mv_copy (X : mCx G p R s m args c own cc nL h0) {idx : Nat} {n dp sp : Int32} {d r : Nat} (hd : decode cc pc = .ok (.invokestatic idx, 3)) (hl : Cond.methodLink own idx arraycopyName ∈ lw_tbl) (hnt : Cond.native arraycopyName ∈ lw_tbl) (hst : Cond.static arraycopyName ∈ lw_tbl) (hin : Cond.initialized "java/lang/System" ∈ lw_tbl) (hw8 : Nat.ble (words st) 8 = true)
    (hk : kd h r = 20 ∧ kd h d = 20 ∧ ¬ sp < 0 ∧ ¬ dp < 0 ∧ ¬ n < 0 ∧ ix sp + ix n ≤ ln h r ∧ ix dp + ix n ≤ ln h d) (k : mV p l e R s m args below meth c Q G nL h0 hF (pc + 3) ls st (rI h d (va_cpy (gI h r) (gI h d) (ix sp) (ix dp) (ix n)))) : mV p l e R s m args below meth c Q G nL h0 hF pc ls (.int n :: .int dp :: .ref d :: .int sp :: .ref r :: st) h := by
  intro H locs cells slots lsA hR hL
  obtain ⟨k1, k2, n1, n2, n3, n4, n5⟩ := hk
  obtain ⟨h6, hn⟩ := mcx_lo X hR (by omega) (by omega : kd h r < 24)
  obtain ⟨d6, dn⟩ := mcx_lo X hR (by omega) (by omega : kd h d < 24)
  have hw := mws_get (G := G) h6 hn
  rw [ment_20 k1] at hw
  have hw2 := mws_get (G := G) d6 dn
  rw [ment_20 k2] at hw2
  simp only [List.map_cons]
  rw [mtr_pos (show ¬ r = 0 by omega), mtr_pos (show ¬ d = 0 by omega)]
  have hloc : ((st.map (mtr G)).map fun v => v.category).sum + (nativeFrameWords "java/lang/System" "arraycopy" 5 + 11) ≤ R.locals := by
    have e5 : nativeFrameWords "java/lang/System" "arraycopy" 5 = 7 := by decide +kernel
    have h8 := Nat.le_of_ble_eq_true hw8
    have h64 := X.2.2.2.2.2.2.2.2.2
    rw [mwords, e5]
    omega
  refine va_copyi (ty := .int) X.1 X.2.1 (by rw [X.2.2.1, hL.2.1]) X.2.2.2.1 (X.2.2.2.2.1 _ (mgw_of hl rfl)) (X.2.2.2.2.1 _ (mgw_of hnt rfl)) (X.2.2.2.2.1 _ (mgw_of hst rfl)) (X.2.2.2.2.1 _ (mgw_of hin rfl)) X.2.2.2.2.2.1.1 hR.1 (mws_D G h) hR.2.1 (r - 8) (d - 8) 0 0 hw hw2 rfl rfl rfl n1 n2 n3 n4 n5 (fun _ _ => rfl) X.2.2.2.2.2.2.2.2.1 hloc hd fun H1 locs1 hP1 _ hS1 => ?_
  exact k H1 locs1 cells slots lsA (mR_rI hR.2.2.1 d6 dn (by rw [ment_20 (by rw [kd_rI]; exact k2), ln_rI, gI_rI, if_pos rfl]) hP1 hS1 hR.2.2.2.1 hR.2.2.2.2) hL
theorem mv_objInit (X : mCx G p R s m args c own cc nL h0) {idx r : Nat} (hd : decode cc pc = .ok (.invokespecial idx, 3)) (hl : Cond.methodLink own idx objectInit ∈ lw_tbl) (hi : Cond.instanceMethod objectInit ∈ lw_tbl) (hc : Cond.code objectInit ⟨#[0xb1]⟩ 1 none ∈ lw_tbl) (hw8 : Nat.ble (words st) 8 = true) (hr : ¬ r = 0) (k : mV p l e R s m args below meth c Q G nL h0 hF (pc + 3) ls st h) : mV p l e R s m args below meth c Q G nL h0 hF pc ls (.ref r :: st) h := by
  intro H locs cells slots lsA hR hL
  rw [List.map_cons, mtr_pos hr]
  refine W.objInit X.1 X.2.1 X.2.2.2.1 (X.2.2.2.2.1 _ (mgw_of hl rfl)) (X.2.2.2.2.1 _ (mgw_of hi rfl)) (X.2.2.2.2.1 _ (mgw_of hc rfl)) rfl (by rw [X.2.2.1]; exact hL.2.1) rfl hd X.2.2.2.2.2.2.2.2.1 (by show 2 * 0 + _ + 12 ≤ _; rw [mwords]; have := Nat.le_of_ble_eq_true hw8; have h64 := X.2.2.2.2.2.2.2.2.2; omega) ?_
  exact k H locs cells slots lsA hR hL
theorem mW_size {H : Heap} {locs : List Loc} {cells slots : Nat} {Qw : State → Prop} {g : JFrame} (k : H.size ≤ s.heap.size + cells → W p l e R s m args below meth c H locs cells slots Qw g) : W p l e R s m args below meth c H locs cells slots Qw g := by
  intro T hT X
  have h1 := X.heapSize
  rw [hT] at h1
  exact k h1 T hT X
theorem mR_size (X : mCx G p R s m args c own cc nL h0) {H : Heap} {locs : List Loc} {cells slots : Nat} (hR : mR G s h0 h H locs cells slots) (hs : H.size ≤ s.heap.size + cells) : H.size = G.b + (mN h - 8) := by
  have h1 := X.2.2.2.2.2.2.1
  have h2 := X.2.2.2.2.2.2.2.1
  have h3 := hR.2.2.2.1
  have h4 : G.b + (mN h - 8) ≤ H.size := by
    by_cases h6 : mN h = 8
    · have := hR.2.1.1
      omega
    · have h7 := hR.2.2.1.2.2.1
      have hw := mws_get (G := G) (h := h) (a := mN h - 1) (by omega) (by omega)
      have hlt := (hR.1 _ _ hw).lt
      have e1 : mad G (mN h - 1) = G.b + (mN h - 1 - 8) := if_neg (by omega)
      have hlt : mad G (mN h - 1) < H.size := hlt
      rw [e1] at hlt
      omega
  omega
theorem mad_mN {G : MG} {h : MH} (h6 : 8 ≤ mN h) : mtr G (.ref (mN h)) = .ref (G.b + (mN h - 8)) := by
  rw [mtr_pos (by omega)]
  have e1 : mad G (mN h) = G.b + (mN h - 8) := if_neg (by omega)
  rw [e1]
theorem mR_new (hR0 : mwf G h) {H H1 : Heap} {locs : List Loc} {cells slots kn n : Nat} {e1 : va_E} (hP : va_P G.D vwCl (mws G h) H) (hS : va_S G.A s.heap H locs) (hz : H.size = G.b + (mN h - 8)) (o1 : ∀ q, q < H.size → H1[q]? = H[q]?) (z1 : H1.size = H.size + 1) (hk : kn < 24) (he : ment G (mA h kn n) (mN h) = e1) (ha : va_at G.D vwCl (H.size, e1) H1) (c1 : mN h = mN h0 + cells) (c2 : mS h = mS h0 + slots) : mR G s h0 (mA h kn n) H1 locs (cells + 1) (slots + n) := by
  have h6 := hR0.2.2.1
  refine ⟨?_, ⟨Nat.le_trans hS.1 (by omega), fun q h1 h2 => (o1 q (Nat.lt_of_lt_of_le h1 hS.1)).trans (hS.2.1 q h1 h2), hS.2.2⟩, mwf_mA hR0 hk, by show mN h + 1 = _; omega, by show mS h + n = _; omega⟩
  rw [← mws_new h6 he (fun b hb => ment_mA hb)]
  refine (hP.kept fun k x hx => o1 x.1 ((hP k x hx).lt)).app fun k x hx => ?_
  have hz1 : k < 1 := (List.getElem?_eq_some_iff.mp hx).1
  rw [show k = 0 by omega] at hx
  cases hx
  rw [hz] at ha
  exact ha
theorem mv_newa (X : mCx G p R s m args c own cc nL h0) {at_ : ArrayType} {kn : Nat} {n : Int32} (hd : decode cc pc = .ok (.newarray at_, 2)) (hat : (at_ = .int ∧ kn = 20) ∨ (at_ = .long ∧ kn = 21) ∨ (at_ = .boolean ∧ kn = 22)) (ha : Cond.arrayClass (newarray.typeOf at_) ∈ lw_tbl) (hn : ¬ n < 0 ∧ ix n ≤ 1000000) (hr : mN (mA h kn (ix n)) ≤ mN h0 + R.cells ∧ mS (mA h kn (ix n)) ≤ mS h0 + R.slots) (k : mV p l e R s m args below meth c Q G nL h0 hF (pc + 2) ls (.ref (mN h) :: st) (mA h kn (ix n))) : mV p l e R s m args below meth c Q G nL h0 hF pc ls (.int n :: st) h := by
  intro H locs cells slots lsA hR hL
  rw [List.map_cons]
  refine mW_size fun hsz => ?_
  have hz := mR_size X hR hsz
  have h6 := hR.2.2.1.2.2.1
  have r1 : mN h + 1 ≤ mN h0 + R.cells := hr.1
  have r2 : mS h + n.toNatClampNeg ≤ mS h0 + R.slots := hr.2
  have c1 := hR.2.2.2.1
  have c2 := hR.2.2.2.2
  have hK := X.2.2.2.2.2.1.1
  have hw := X.2.2.2.2.1 _ (mgw_of ha rfl)
  have kk := fun H1 hR1 => k H1 locs (cells + 1) (slots + ix n) lsA hR1 hL
  rw [List.map_cons, mad_mN h6] at kk
  rcases hat with ⟨rfl, rfl⟩ | ⟨rfl, rfl⟩ | ⟨rfl, rfl⟩
  · refine va_newaK X.1 X.2.1 hw rfl hd rfl hn.1 rfl (Nat.le_trans (Nat.mul_le_mul_right _ hn.2) (by decide +kernel)) (by omega) (by omega) hz fun H1 cA g1 g2 g3 g4 g5 => kk H1 (mR_new hR.2.2.1 hR.1 hR.2.1 hz (by rw [hz]; exact g3) (by rw [hz]; exact g2) (by omega) (ment_20 (by rw [kd_mA, if_pos rfl])) ?_ c1 c2)
    rw [ln_mA, if_pos rfl, gI_mA, if_pos rfl, hz]
    have e1 : cA = G.cI := Option.some.inj (g5.symm.trans (hK.2 0 _ rfl).2)
    show H1[_]? = _
    rw [g1, e1]
    rfl
  · refine va_newaK X.1 X.2.1 hw rfl hd rfl hn.1 rfl (Nat.le_trans (Nat.mul_le_mul_right _ hn.2) (by decide +kernel)) (by omega) (by omega) hz fun H1 cA g1 g2 g3 g4 g5 => kk H1 (mR_new hR.2.2.1 hR.1 hR.2.1 hz (by rw [hz]; exact g3) (by rw [hz]; exact g2) (by omega) (ment_21 (by rw [kd_mA, if_pos rfl])) ?_ c1 c2)
    rw [ln_mA, if_pos rfl, gL_mA, if_pos rfl, hz]
    have e1 : cA = G.cL := Option.some.inj (g5.symm.trans (hK.2 1 _ rfl).2)
    show H1[_]? = _
    rw [g1, e1]
    rfl
  · refine va_newaK X.1 X.2.1 hw rfl hd rfl hn.1 rfl (Nat.le_trans (Nat.mul_le_mul_right _ hn.2) (by decide +kernel)) (by omega) (by omega) hz fun H1 cA g1 g2 g3 g4 g5 => kk H1 (mR_new hR.2.2.1 hR.1 hR.2.1 hz (by rw [hz]; exact g3) (by rw [hz]; exact g2) (by omega) (ment_22 (by rw [kd_mA, if_pos rfl])) ?_ c1 c2)
    rw [ln_mA, if_pos rfl, gI_mA, if_pos rfl, hz]
    have e1 : cA = G.cZ := Option.some.inj (g5.symm.trans (hK.2 2 _ rfl).2)
    show H1[_]? = _
    rw [g1, e1]
    rfl
theorem mv_anewa (X : mCx G p R s m args c own cc nL h0) {idx : Nat} {n : Int32} (hd : decode cc pc = .ok (.anewarray idx, 3)) (hl : Cond.classLink own idx RX8 ∈ lw_tbl) (hn : ¬ n < 0 ∧ ix n ≤ 1000000) (hr : mN (mA h 23 (ix n)) ≤ mN h0 + R.cells ∧ mS (mA h 23 (ix n)) ≤ mS h0 + R.slots) (k : mV p l e R s m args below meth c Q G nL h0 hF (pc + 3) ls (.ref (mN h) :: st) (mA h 23 (ix n))) : mV p l e R s m args below meth c Q G nL h0 hF pc ls (.int n :: st) h := by
  intro H locs cells slots lsA hR hL
  rw [List.map_cons]
  refine mW_size fun hsz => ?_
  have hz := mR_size X hR hsz
  have h6 := hR.2.2.1.2.2.1
  have r1 : mN h + 1 ≤ mN h0 + R.cells := hr.1
  have r2 : mS h + n.toNatClampNeg ≤ mS h0 + R.slots := hr.2
  have c1 := hR.2.2.2.1
  have c2 := hR.2.2.2.2
  have hK := X.2.2.2.2.2.1.1
  have kk := fun H1 hR1 => k H1 locs (cells + 1) (slots + ix n) lsA hR1 hL
  rw [List.map_cons, mad_mN h6] at kk
  refine W.anew X.1 X.2.1 X.2.2.2.1 (X.2.2.2.2.1 _ (mgw_of hl rfl)) (va_AO.use X.2.2.2.2.2.1.2.2.1) rfl hd rfl hn.1 (Nat.le_trans (Nat.mul_le_mul_right _ hn.2) (by decide +kernel)) (by omega) (by omega) fun cA kA comp f1 f2 f3 f4 => ?_
  obtain ⟨kA', comp', t1, t2, t3, t4⟩ := (hK.2 3 _ rfl).2
  have e1 : cA = G.cT := Option.some.inj (f1.symm.trans t4)
  have kq := kk (H.push { cls := cA, slots := Array.replicate n.toNatClampNeg .null, vm := .none }) (mR_new hR.2.2.1 hR.1 hR.2.1 hz (fun q hq => by rw [Array.getElem?_push, if_neg (Nat.ne_of_lt hq)]) (by rw [Array.size_push]) (by omega) (ment_23 (by rw [kd_mA, if_pos rfl])) (by
    rw [ln_mA, if_pos rfl, gR_mA, if_pos rfl]
    show (H.push _)[H.size]? = some (vp_cell _ _)
    rw [vp_cell_q, Array.getElem?_push_size, arrV_new, e1]
    rfl) c1 c2)
  rw [← hz] at kq
  exact kq
theorem mv_new (X : mCx G p R s m args c own cc nL h0) {idx ci n : Nat} {C : vw_C} (hd : decode cc pc = .ok (.new idx, 3)) (hC : vwCl[ci]? = some C) (hn : C.2.2 = n) (hl : Cond.classLink own idx C.1 ∈ lw_tbl) (hi : Cond.instantiable C.1 n ∈ lw_tbl) (hini : Cond.initialized C.1 ∈ lw_tbl) (hr : mN (mA h (ci + 1) n) ≤ mN h0 + R.cells ∧ mS (mA h (ci + 1) n) ≤ mS h0 + R.slots) (k : mV p l e R s m args below meth c Q G nL h0 hF (pc + 3) ls (.ref (mN h) :: st) (mA h (ci + 1) n)) : mV p l e R s m args below meth c Q G nL h0 hF pc ls st h := by
  intro H locs cells slots lsA hR hL
  refine mW_size fun hsz => ?_
  have hz := mR_size X hR hsz
  have h6 := hR.2.2.1.2.2.1
  have r1 : mN h + 1 ≤ mN h0 + R.cells := hr.1
  have r2 : mS h + n ≤ mS h0 + R.slots := hr.2
  have c1 := hR.2.2.2.1
  have c2 := hR.2.2.2.2
  have hK := X.2.2.2.2.2.1.1
  have hKn := hK.1 ci _ hC
  obtain ⟨⟨hin, ⟨ty0, hty0⟩, hnm, hfl⟩, hc12⟩ := mcls_at hC
  have kk := fun H1 hR1 => k H1 locs (cells + 1) (slots + n) lsA hR1 hL
  rw [List.map_cons, mad_mN h6] at kk
  refine W.newcK X.1 X.2.1 X.2.2.2.1 (X.2.2.2.2.1 _ (mgw_of hl rfl)) (X.2.2.2.2.1 _ (mgw_of hi rfl)) (X.2.2.2.2.1 _ (mgw_of hini rfl)) rfl hd (by omega) (by omega) hKn.2.1 hz fun H1 kC hkC g1 g2 g3 => kk H1 (mR_new hR.2.2.1 hR.1 hR.2.1 hz (by rw [hz]; exact g3) (by rw [hz]; exact g2) (by omega) (ment_obj (by rw [kd_mA, if_pos rfl]) hc12) ?_ c1 c2)
  rw [hz]
  refine ⟨_, hC, (u_born ty0 X.2.2.2.2.1 hin hKn hkC g1 hty0).to fun j hj => ?_⟩
  have e1 : (mfk ci)[j]? = some (mty (ty0 j)) := by
    unfold mfk
    rw [hC]
    dsimp only
    rw [List.getElem?_map, List.getElem?_range hj]
    simp only [Option.map_some, hty0 j hj]
  unfold vp_V
  rw [List.getD_eq_getElem?_getD, mfs_get, e1]
  simp only [Option.map_some, Option.getD_some]
  have hf := hfl j hj
  rw [hty0 j hj] at hf
  revert hf
  cases ty0 j <;> simp [mty, mtyok, fv, gI_mA, gL_mA, gR_mA, defaultValue, mtr, morf, va_rf]
theorem mv_clone (X : mCx G p R s m args c own cc nL h0) {idx r : Nat} (hd : decode cc pc = .ok (.invokevirtual idx, 3)) (hl : Cond.methodLink own idx ⟨"[I", "clone", "()Ljava/lang/Object;"⟩ ∈ lw_tbl) (hsm : Cond.sameMethod "[I" "java/lang/Object" "clone" "()Ljava/lang/Object;" ∈ lw_tbl) (hnt : Cond.native ⟨"java/lang/Object", "clone", "()Ljava/lang/Object;"⟩ ∈ lw_tbl) (hin : Cond.instanceMethod ⟨"java/lang/Object", "clone", "()Ljava/lang/Object;"⟩ ∈ lw_tbl) (hse : Cond.selects "[I" ⟨"[I", "clone", "()Ljava/lang/Object;"⟩ ⟨"java/lang/Object", "clone", "()Ljava/lang/Object;"⟩ ∈ lw_tbl) (hca : Cond.castable "[I" "java/lang/Cloneable" ∈ lw_tbl) (hw8 : Nat.ble (words st) 8 = true) (hk : kd h r = 20)
    (hr : mN (rI (mA h 20 (ln h r)) (mN h) (gI h r)) ≤ mN h0 + R.cells ∧ mS (rI (mA h 20 (ln h r)) (mN h) (gI h r)) ≤ mS h0 + R.slots) (k : mV p l e R s m args below meth c Q G nL h0 hF (pc + 3) ls (.ref (mN h) :: st) (rI (mA h 20 (ln h r)) (mN h) (gI h r))) : mV p l e R s m args below meth c Q G nL h0 hF pc ls (.ref r :: st) h := by
  intro H locs cells slots lsA hR hL
  obtain ⟨h6, hn⟩ := mcx_lo X hR (by omega) (by omega : kd h r < 24)
  have hw := mws_get (G := G) h6 hn
  rw [ment_20 hk] at hw
  rw [List.map_cons, mtr_pos (show ¬ r = 0 by omega)]
  have r1 : mN h + 1 ≤ mN h0 + R.cells := hr.1
  have r2 : mS h + ln h r ≤ mS h0 + R.slots := hr.2
  have c1 := hR.2.2.2.1
  have c2 := hR.2.2.2.2
  have n8 := hR.2.2.1.2.2.1
  have hsz0 := X.2.2.2.2.2.2.1
  have h08 := X.2.2.2.2.2.2.2.1
  have hK := X.2.2.2.2.2.1.1
  have hnm : s.vm.findClass "[I" = some G.cI := (hK.2 0 _ rfl).2
  have hloc : ((st.map (mtr G)).map fun v => v.category).sum + 14 ≤ R.locals := by
    have h8 := Nat.le_of_ble_eq_true hw8
    have h64 := X.2.2.2.2.2.2.2.2.2
    rw [mwords]
    omega
  refine va_clone X.1 X.2.1 (by rw [X.2.2.1, hL.2.1]) X.2.2.2.1 (X.2.2.2.2.1 _ (mgw_of hl rfl)) (X.2.2.2.2.1 _ (mgw_of hsm rfl)) (X.2.2.2.2.1 _ (mgw_of hnt rfl)) (X.2.2.2.2.1 _ (mgw_of hin rfl)) (X.2.2.2.2.1 _ (mgw_of hse rfl)) (X.2.2.2.2.2.1.2.1 _ (mnw_of hca rfl)) hK hR.1 (mws_D G h) hR.2.1 (fun q hq => by show G.b ≤ q; omega) (r - 8) 0 hw rfl hnm (fun i v hv => ?_) X.2.2.2.2.2.2.2.2.1 hloc (by omega) (by show slots + ln h r ≤ _; omega) hd fun q H1 _ hP1 hD1 hS1 => mW_size fun hsz => ?_
  · have hi : i < ln h r := by
      have := (Array.getElem?_eq_some_iff.mp hv).1
      have e2 : (vp_cell G.cI (ln h r, .inl (gI h r))).slots.size = ln h r := arrV_size _ _ _
      omega
    have e1 : (vp_cell G.cI (ln h r, .inl (gI h r))).slots[i]? = some (.int (gI h r i)) := arrV_read _ _ hi
    rw [e1] at hv
    cases hv
    rfl
  · have hqA : G.b ≤ q := hD1.2 (mN h - 8) (q, _) (by rw [List.getElem?_append_right (by rw [mws_len]; omega), mws_len, Nat.sub_self]; rfl)
    have hql : q < H1.size := (hP1 (mN h - 8) (q, _) (by rw [List.getElem?_append_right (by rw [mws_len]; omega), mws_len, Nat.sub_self]; rfl)).lt
    have hqe : q = G.b + (mN h - 8) := by
      rcases Nat.lt_or_ge q (G.b + (mN h - 8)) with z | z
      · exfalso
        have := hD1.1 (q - G.b) (mN h - 8) _ (q, _) (by rw [List.getElem?_append_left (by rw [mws_len]; omega), mws_at, if_pos (by omega)]) (by rw [List.getElem?_append_right (by rw [mws_len]; omega), mws_len, Nat.sub_self]; rfl) (by show G.b + (q - G.b) = q; omega)
        omega
      · omega
    subst hqe
    have hm : ment G (rI (mA h 20 (ln h r)) (mN h) (gI h r)) (mN h) = .inl (G.cI, ln h r, .inl (gI h r)) := by
      rw [ment_20 (by rw [kd_rI, kd_mA, if_pos rfl]), ln_rI, ln_mA, if_pos rfl, gI_rI, if_pos rfl]
    have hP2 : va_P G.D vwCl (mws G (rI (mA h 20 (ln h r)) (mN h) (gI h r))) H1 := by
      rw [← mws_new' (h1 := rI (mA h 20 (ln h r)) (mN h) (gI h r)) n8 rfl hm (fun b hb => by rw [ment_rI (by omega), ment_mA hb])]
      exact hP1
    have kk := k H1 locs (cells + 1) (slots + ln h r) lsA ⟨hP2, hS1, mwf_rI (mwf_mA hR.2.2.1 (by omega)) n8 _, by show mN h + 1 = _; omega, by show mS h + ln h r = _; omega⟩ hL
    rw [List.map_cons, mad_mN n8] at kk
    exact kk
theorem mv_cast (X : mCx G p R s m args c own cc nL h0) {idx r : Nat} (hd : decode cc pc = .ok (.checkcast idx, 3)) (hl : Cond.classLink own idx "[I" ∈ lw_tbl) (hk : kd h r = 20) (k : mV p l e R s m args below meth c Q G nL h0 hF (pc + 3) ls (.ref r :: st) h) : mV p l e R s m args below meth c Q G nL h0 hF pc ls (.ref r :: st) h := by
  intro H locs cells slots lsA hR hL
  obtain ⟨h6, hn⟩ := mcx_lo X hR (by omega) (by omega : kd h r < 24)
  have hw := mws_get (G := G) h6 hn
  rw [ment_20 hk] at hw
  have kk := k H locs cells slots lsA hR hL
  rw [List.map_cons, mtr_pos (show ¬ r = 0 by omega)] at kk ⊢
  exact va_castA X.1 X.2.1 X.2.2.2.1 (X.2.2.2.2.1 _ (mgw_of hl rfl)) hR.1 (r - 8) hw (X.2.2.2.2.2.1.1.2 0 _ rfl).2 hd kk
end MV4
