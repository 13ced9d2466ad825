/-! ROWS OF THE SMALL MACHINE, 3: fields, arrays, new cells -/
def mtyok : FieldType → Bool
  | .float => false
  | .double => false
  | _ => true
/-- what the names say of a class -/
def mcls (q : vw_C) : Prop := (∀ w ∈ u_ws q.1 q.2.1 q.2.2, w ∈ mgw) ∧ (∃ ty : Nat → FieldType, ∀ k, k < q.2.2 → parseFieldDescriptor (q.2.1 k).2.2.1 = some (ty k)) ∧ (∀ a, a < q.2.2 → ∀ b, b < q.2.2 → a ≠ b → (q.2.1 a).2.1 ≠ (q.2.1 b).2.1) ∧ ∀ k, k < q.2.2 → (parseFieldDescriptor (q.2.1 k).2.2.1).all mtyok = true
theorem mu_ws {C : String} {T : u_T} {N : Nat} (h : ∀ w ∈ u_ws C T N, w ∈ lw_tbl) : ∀ w ∈ u_ws C T N, w ∈ mgw := by
  intro w hw
  refine mgw_of (h w hw) ?_
  obtain ⟨k, -, rfl⟩ := List.mem_map.mp hw
  unfold u_lay
  split <;> rfl
theorem mcls0 : mcls (RX0, TX0, 9) := ⟨mu_ws (by decide +kernel), ⟨tyX0, tyX0_ok⟩, nmX0, by decide +kernel⟩
theorem mcls1 : mcls (RX1, TX1, 5) := ⟨mu_ws (by decide +kernel), ⟨tyX1, tyX1_ok⟩, nmX1, by decide +kernel⟩
theorem mcls2 : mcls (RX2, TX2, 4) := ⟨mu_ws (by decide +kernel), ⟨tyX2, tyX2_ok⟩, nmX2, by decide +kernel⟩
theorem mcls3 : mcls (RX3, TX3, 2) := ⟨mu_ws (by decide +kernel), ⟨tyX3, tyX3_ok⟩, nmX3, by decide +kernel⟩
theorem mcls4 : mcls (RX4, TX4, 13) := ⟨mu_ws (by decide +kernel), ⟨tyX4, tyX4_ok⟩, nmX4, by decide +kernel⟩
theorem mcls5 : mcls (RX5, TX5, 4) := ⟨mu_ws (by decide +kernel), ⟨tyX5, tyX5_ok⟩, nmX5, by decide +kernel⟩
theorem mcls6 : mcls (RX6, TX6, 3) := ⟨mu_ws (by decide +kernel), ⟨tyX6, tyX6_ok⟩, nmX6, by decide +kernel⟩
theorem mcls7 : mcls (RX7, TX7, 6) := ⟨mu_ws (by decide +kernel), ⟨tyX7, tyX7_ok⟩, nmX7, by decide +kernel⟩
theorem mcls8 : mcls (RX8, TX8, 5) := ⟨mu_ws (by decide +kernel), ⟨tyX8, tyX8_ok⟩, nmX8, by decide +kernel⟩
theorem mcls9 : mcls (RX9, TX9, 11) := ⟨mu_ws (by decide +kernel), ⟨tyX9, tyX9_ok⟩, nmX9, by decide +kernel⟩
theorem mcls10 : mcls (RX10, TX10, 7) := ⟨mu_ws (by decide +kernel), ⟨tyX10, tyX10_ok⟩, nmX10, by decide +kernel⟩
theorem mcls11 : mcls (RX11, TX11, 33) := ⟨mu_ws (by decide +kernel), ⟨tyX11, tyX11_ok⟩, nmX11, by decide +kernel⟩
theorem mcls_at {ci : Nat} {q : vw_C} (h : vwCl[ci]? = some q) : mcls q ∧ ci < 12 := by
  have hl : ci < 12 := (List.getElem?_eq_some_iff.mp h).1
  refine ⟨?_, hl⟩
  match ci, hl, h with
  | 0, _, h => cases h; exact mcls0
  | 1, _, h => cases h; exact mcls1
  | 2, _, h => cases h; exact mcls2
  | 3, _, h => cases h; exact mcls3
  | 4, _, h => cases h; exact mcls4
  | 5, _, h => cases h; exact mcls5
  | 6, _, h => cases h; exact mcls6
  | 7, _, h => cases h; exact mcls7
  | 8, _, h => cases h; exact mcls8
  | 9, _, h => cases h; exact mcls9
  | 10, _, h => cases h; exact mcls10
  | 11, _, h => cases h; exact mcls11
theorem ment_obj {G : MG} {h : MH} {r ci : Nat} (hk : kd h r = ci + 1) (hc : ci < 12) : ment G h r = .inr (ci, mfs G h r ci) := by
  unfold ment
  rw [if_neg (by omega), if_neg (by omega), if_neg (by omega), if_neg (by omega), hk, Nat.add_sub_cancel]
theorem ment_20 {G : MG} {h : MH} {r : Nat} (hk : kd h r = 20) : ment G h r = .inl (G.cI, ln h r, .inl (gI h r)) := by
  unfold ment; rw [if_pos hk]
theorem ment_21 {G : MG} {h : MH} {r : Nat} (hk : kd h r = 21) : ment G h r = .inl (G.cL, ln h r, .inr (.inl (gL h r))) := by
  unfold ment; rw [if_neg (by omega), if_pos hk]
theorem ment_22 {G : MG} {h : MH} {r : Nat} (hk : kd h r = 22) : ment G h r = .inl (G.cZ, ln h r, .inl (gI h r)) := by
  unfold ment; rw [if_neg (by omega), if_neg (by omega), if_pos hk]
theorem ment_23 {G : MG} {h : MH} {r : Nat} (hk : kd h r = 23) : ment G h r = .inl (G.cT, ln h r, .inr (.inr (.inr (.inr (fun j => morf G (gR h r j)))))) := by
  unfold ment; rw [if_neg (by omega), if_neg (by omega), if_neg (by omega), if_pos hk]
theorem mfs_sI {G : MG} {h : MH} {r ci b t : Nat} {v : Int32} (ht : (mfk ci)[b]? = some t) (h3 : t = 0 ∨ t = 3) : mfs G (sI h r b v) r ci = (mfs G h r ci).set b (.int v) := by
  apply List.ext_getElem?
  intro j
  have hb : b < (mfk ci).length := (List.getElem?_eq_some_iff.mp ht).1
  have e1 : ∀ i, gI (sI h r b v) r i = if i = b then v else gI h r i := fun i => by unfold sI; rw [gI_rI, if_pos rfl]; rfl
  by_cases hj : b = j
  · subst hj
    rw [List.getElem?_set_self (by rw [mfs_len]; exact hb), mfs_get, ht]
    rcases h3 with rfl | rfl <;> simp [fv, mtr, e1]
  · rw [List.getElem?_set_ne hj, mfs_get, mfs_get]
    congr 1
    funext t'
    unfold fv
    rw [e1, if_neg (fun q => hj q.symm)]
    rfl
theorem mfs_sL {G : MG} {h : MH} {r ci b : Nat} {v : Int64} (ht : (mfk ci)[b]? = some 1) : mfs G (sL h r b v) r ci = (mfs G h r ci).set b (.long v) := by
  apply List.ext_getElem?
  intro j
  have hb : b < (mfk ci).length := (List.getElem?_eq_some_iff.mp ht).1
  have e1 : ∀ i, gL (sL h r b v) r i = if i = b then v else gL h r i := fun i => by unfold sL; rw [gL_rL, if_pos rfl]; rfl
  by_cases hj : b = j
  · subst hj
    rw [List.getElem?_set_self (by rw [mfs_len]; exact hb), mfs_get, ht]
    simp [fv, mtr, e1]
  · rw [List.getElem?_set_ne hj, mfs_get, mfs_get]
    congr 1
    funext t'
    unfold fv
    rw [e1, if_neg (fun q => hj q.symm)]
    rfl
theorem mfs_sR {G : MG} {h : MH} {r ci b : Nat} {v : Nat} (ht : (mfk ci)[b]? = some 2) : mfs G (sR h r b v) r ci = (mfs G h r ci).set b (mtr G (.ref v)) := by
  apply List.ext_getElem?
  intro j
  have hb : b < (mfk ci).length := (List.getElem?_eq_some_iff.mp ht).1
  have e1 : ∀ i, gR (sR h r b v) r i = if i = b then v else gR h r i := fun i => by unfold sR; rw [gR_rR, if_pos rfl]; rfl
  by_cases hj : b = j
  · subst hj
    rw [List.getElem?_set_self (by rw [mfs_len]; exact hb), mfs_get, ht]
    simp [fv, e1]
  · rw [List.getElem?_set_ne hj, mfs_get, mfs_get]
    congr 1
    funext t'
    unfold fv
    rw [e1, if_neg (fun q => hj q.symm)]
    rfl
section MV3
variable {p : Program} {l : Launch} {e : Env} {R : Room} {s : State} {m : MethodId} {args : Array Value} {below : List Frame} {meth : Method} {c : Code} {Q : Nat → Nat → State → Prop}
variable {cc : ByteArray} {pc : Nat} {G : MG} {own : String} {nL : Nat} {h0 h hF : MH} {ls : ML} {st : List Value}
theorem mv_get (X : mCx G p R s m args c own cc nL h0) {idx ci b t r : Nat} {C : vw_C} (hd : decode cc pc = .ok (.getfield idx, 3)) (hC : vwCl[ci]? = some C) (hb : b < C.2.2) (ht : (mfk ci)[b]? = some t) (hl : Cond.fieldLink own idx (C.2.1 b).1 (C.2.1 b).2.1 (C.2.1 b).2.2.1 ∈ lw_tbl) (hk : kd h r = ci + 1) (k : mV p l e R s m args below meth c Q G nL h0 hF (pc + 3) ls (fv h r t b :: st) h) : mV p l e R s m args below meth c Q G nL h0 hF pc ls (.ref r :: st) h := by
  intro H locs cells slots lsA hR hL
  obtain ⟨⟨hin, -⟩, hc12⟩ := mcls_at hC
  obtain ⟨h6, hn⟩ := mwf_lo X.2.2.2.2.2.1.2.2.2.2.1 hR.2.2.1 (by omega) (by omega : kd h r < 24)
  have hw := mws_get (G := G) h6 hn
  rw [ment_obj hk hc12] at hw
  rw [List.map_cons, mtr_pos (by omega)]
  exact va_get X.1 X.2.1 X.2.2.2.2.1 hin X.2.2.2.1 X.2.2.2.2.2.1.1 hR.1 (r - 8) hw hC b hb (X.2.2.2.2.1 _ (mgw_of hl rfl)) (fun _ q => q) (by rw [mfs_get, ht]; rfl) hd (k H locs cells slots lsA hR hL)
theorem mv_put (X : mCx G p R s m args c own cc nL h0) {idx ci b r : Nat} {v : Value} {C : vw_C} {h1 : MH} (hd : decode cc pc = .ok (.putfield idx, 3)) (hC : vwCl[ci]? = some C) (hb : b < C.2.2) (hbk : b < (mfk ci).length) (hl : Cond.fieldLink own idx (C.2.1 b).1 (C.2.1 b).2.1 (C.2.1 b).2.2.1 ∈ lw_tbl)
    (hfi : (C.2.1 b).2.2.2 = false ∨ ((C.2.1 b).2.2.2 = true ∧ meth.name = "<init>" ∧ (C.2.1 b).1 = own)) {ty : FieldType} (hty : parseFieldDescriptor (C.2.1 b).2.2.1 = some ty) (hnr : narrow ty (mtr G v) = mtr G v) (hft : fits ty (mtr G v) = true) (hk : kd h r = ci + 1)
    (e1 : mN h1 = mN h) (e2 : mS h1 = mS h) (e3 : 8 ≤ r → mwf G h → mwf G h1) (e4 : ment G h1 r = .inr (ci, (mfs G h r ci).set b (mtr G v))) (e5 : ∀ q, q ≠ r → ment G h1 q = ment G h q)
    (k : mV p l e R s m args below meth c Q G nL h0 hF (pc + 3) ls st h1) : mV p l e R s m args below meth c Q G nL h0 hF pc ls (v :: .ref r :: st) h := by
  intro H locs cells slots lsA hR hL
  obtain ⟨⟨hin, ⟨ty0, hty0⟩, hnm, -⟩, hc12⟩ := mcls_at hC
  obtain ⟨h6, hn⟩ := mwf_lo X.2.2.2.2.2.1.2.2.2.2.1 hR.2.2.1 (by omega) (by omega : kd h r < 24)
  have hw := mws_get (G := G) h6 hn
  rw [ment_obj hk hc12] at hw
  rw [List.map_cons, List.map_cons, mtr_pos (show ¬ r = 0 by omega)]
  have fin : ∀ (H1 : Heap) (locs1 : List Loc), va_P G.D vwCl ((mws G h).set (r - 8) (mad G r, .inr (ci, (mfs G h r ci).set b (mtr G v)))) H1 → va_D G.A ((mws G h).set (r - 8) (mad G r, .inr (ci, (mfs G h r ci).set b (mtr G v)))) → va_S G.A s.heap H1 locs1 → W p l e R s m args below meth c H1 locs1 cells slots (Q (mN hF - mN h0) (mS hF - mS h0)) (F0 m (pc + 3) lsA (st.map (mtr G))) := by
    intro H1 locs1 hP1 _ hS1
    rw [mws_set h6 hn e1 e4 e5] at hP1
    exact k H1 locs1 cells slots lsA ⟨hP1, hS1, e3 h6 hR.2.2.1, by rw [e1]; exact hR.2.2.2.1, by rw [e2]; exact hR.2.2.2.2⟩ hL
  rcases hfi with hf | ⟨hf, hi, ho⟩
  · exact va_put X.1 X.2.1 X.2.2.2.2.1 hin ty0 hty0 hnm X.2.2.2.1 X.2.2.2.2.2.1.1 hR.1 (mws_D G h) hR.2.1 (r - 8) hw hC b hb (X.2.2.2.2.1 _ (mgw_of hl rfl)) (fun _ q => q) hf hty hnr hft (by rw [mfs_len]; exact hbk) hd fin
  · exact va_putF X.1 X.2.1 X.2.2.2.2.1 hin ty0 hty0 hnm X.2.2.2.1 X.2.2.2.2.2.1.1 hR.1 (mws_D G h) hR.2.1 (r - 8) hw hC b hb (X.2.2.2.2.1 _ (mgw_of hl rfl)) (fun _ q => q) hf hi ho hty hnr hft (by rw [mfs_len]; exact hbk) hd fin
end MV3
