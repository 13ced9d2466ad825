--deps:19.lay 21.facts 22.00.names 22.01.eq 22.02.eq 22.03.eq 22.04.eq 22.05.eq 22.06.eq 22.07.eq 22.08.eq 22.09.eq 22.10.eq 22.11.eq 22.12.eq 22.13.eq 22.14.eq 22.15.eq 22.16.eq 22.17.eq 22.18.eq 22.19.eq 22.20.eq 22.21.eq 22.22.eq 22.23.eq 23.num 24.town 25.evc 26.evm 27.law 28.says 29.inv 30.api1
/-! A TOWN COPIED into another -/
set_option linter.unusedSectionVars false
theorem gI_sIo (h : MH) (a k b : Nat) (v : Int32) (hb : ¬ b = a) : gI (sI h a k v) b = gI h b := by rw [gI_sI, if_neg hb]
theorem gI_sIs (h : MH) (a k : Nat) (v : Int32) : gI (sI h a k v) a = va_up (gI h a) k v := by rw [gI_sI, if_pos rfl]
theorem gR_sRo (h : MH) (a k b v : Nat) (hb : ¬ b = a) : gR (sR h a k v) b = gR h b := by rw [gR_sR, if_neg hb]
theorem gR_sRs (h : MH) (a k v : Nat) : gR (sR h a k v) a = va_up (gR h a) k v := by rw [gR_sR, if_pos rfl]
theorem up_s {α : Type} (f : Nat → α) (k : Nat) (v : α) : va_up f k v k = v := va_up_self f k v
theorem up_o {α : Type} (f : Nat → α) {k j : Nat} (v : α) (h : ¬ j = k) : va_up f k v j = f j := va_up_ne f v h
/-- the town q is as o was -/
def CPY (h h' : MH) (q o : Nat) : Prop := h'.1 = h.1 ∧ ((∀ a, ¬ a = q → gR h' a = gR h a) ∧ (∀ k, ¬ k = 9 → gR h' q k = gR h q k) ∧ gR h' q 9 = gR h o 9) ∧ (∀ a, ¬ a = q → ¬ a = q + 1 → ¬ a = q + 2 → ¬ a = q + 3 → ¬ a = q + 4 → ¬ a = q + 5 → gI h' a = gI h a) ∧ (gI h' q 0 = gI h o 0 ∧ gI h' q 5 = gI h o 5 ∧ gI h' q 6 = gI h o 6 ∧ gI h' q 8 = gI h o 8) ∧ ((∀ p, p < 4 → gI h' (q + 1) p = gI h (o + 1) p) ∧ (∀ p, p < 4 → gI h' (q + 2) p = gI h (o + 2) p) ∧ (∀ p, p < 4 → gI h' (q + 3) p = gI h (o + 3) p) ∧ (∀ p, p < 9 → gI h' (q + 4) p = gI h (o + 4) p) ∧ (∀ p, p < 30 → gI h' (q + 5) p = gI h (o + 5) p))
theorem cpy_v {α : Type} (f g : Nat → α) {n k : Nat} (h : k < n) : va_cpy f g 0 0 n k = f k := by
  rw [pk_cpy_in (Nat.zero_le k) (by omega)]
  congr 1
  omega
set_option maxHeartbeats 4000000 in
theorem c_copyFrom {h : MH} (L : lay h) (d : Nat) {q o : Nat} (T : tAt q) (T2 : tAt o) (hqo : ¬ q = o) : ∃ h', F_X9_copyFrom (d + 1) q o h = some (.int 0, h') ∧ CPY h h' q o := by
  have hd : ∀ i j, i ≤ 5 → j ≤ 5 → ¬ q + i = o + j := by
    intro i j hi hj
    rcases T with rfl | rfl | rfl <;> rcases T2 with rfl | rfl | rfl <;> first | omega | exact absurd rfl hqo
  have d1 : ¬ q + 1 = q := by omega
  rw [S_X9_copyFrom L d q o T T2]
  simp only [lt_def]
  refine ⟨_, rfl, ?_⟩
  have o0 : ∀ j, j ≤ 5 → ¬ o + j = q := fun j hj e => hd 0 j (by omega) hj (by omega)
  have q0 : ∀ j, j ≤ 5 → ¬ o = q + j := fun j hj e => hd j 0 hj (by omega) (by omega)
  have oj : ∀ i j, i ≤ 5 → j ≤ 5 → ¬ o + i = q + j := fun i j hi hj e => hd j i hj hi e.symm
  have p1 := o0 1 (by omega); have p2 := o0 2 (by omega); have p3 := o0 3 (by omega); have p4 := o0 4 (by omega); have p5 := o0 5 (by omega)
  have r1 := q0 1 (by omega); have r2 := q0 2 (by omega); have r3 := q0 3 (by omega); have r4 := q0 4 (by omega); have r5 := q0 5 (by omega); have r0 : ¬ o = q := fun e => hqo e.symm
  have a21 := oj 2 1 (by omega) (by omega)
  have a31 := oj 3 1 (by omega) (by omega); have a32 := oj 3 2 (by omega) (by omega)
  have a41 := oj 4 1 (by omega) (by omega); have a42 := oj 4 2 (by omega) (by omega); have a43 := oj 4 3 (by omega) (by omega)
  have a51 := oj 5 1 (by omega) (by omega); have a52 := oj 5 2 (by omega) (by omega); have a53 := oj 5 3 (by omega) (by omega); have a54 := oj 5 4 (by omega) (by omega)
  refine ⟨rfl, ⟨fun a ha => ?_, fun k hk => ?_, ?_⟩, fun a h0 h1 h2 h3 h4 h5 => ?_, ⟨?_, ?_, ?_, ?_⟩, fun p hp => ?_, fun p hp => ?_, fun p hp => ?_, fun p hp => ?_, fun p hp => ?_⟩
  · rw [gR_sRo _ _ _ _ _ ha]
    rfl
  · rw [gR_sRs, up_o _ _ hk]
    rfl
  · rw [gR_sRs, up_s]
    rfl
  · simp (disch := omega) only [gI_sR, gI_sIo, gI_rI']
  · simp (disch := omega) only [gI_sR, gI_sIo, gI_sIs, gI_rI', up_s, up_o]
  · simp (disch := omega) only [gI_sR, gI_sIo, gI_sIs, gI_rI', up_s, up_o]
  · simp (disch := omega) only [gI_sR, gI_sIo, gI_sIs, gI_rI', up_s, up_o]
  · simp (disch := omega) only [gI_sR, gI_sIo, gI_sIs, gI_rI', up_s, up_o]
  · simp (disch := omega) only [gI_sR, gI_sIo, gI_sIs, gI_rI', gI_rIs, cpy_v]
  · simp (disch := omega) only [gI_sR, gI_sIo, gI_sIs, gI_rI', gI_rIs, cpy_v]
  · simp (disch := omega) only [gI_sR, gI_sIo, gI_sIs, gI_rI', gI_rIs, cpy_v]
  · simp (disch := omega) only [gI_sR, gI_sIo, gI_sIs, gI_rI', gI_rIs, cpy_v]
  · simp (disch := omega) only [gI_sR, gI_sIo, gI_sIs, gI_rI', gI_rIs, cpy_v]
theorem CPY_sm {h h' : MH} {o : Nat} (C : CPY h h' 43 o) : sm SCR h h' := by
  obtain ⟨c1, ⟨c2, c3, c4⟩, c5, -⟩ := C
  refine ⟨c1, fun a ha => c2 a ?_, fun a ha _ => ?_⟩
  · rintro rfl
    rcases ha with ha | ha
    · exact ha (by decide)
    · omega
  · have hz : ∀ z, z ∈ SCR → z < 84 → ¬ a = z := fun z hz h84 e => by
      subst e
      rcases ha with ha | ha
      · exact ha hz
      · omega
    exact c5 a (hz 43 (by decide) (by decide)) (hz 44 (by decide) (by decide)) (hz 45 (by decide) (by decide)) (hz 46 (by decide) (by decide)) (hz 47 (by decide) (by decide)) (hz 48 (by decide) (by decide))
theorem CPY_twn {h h' : MH} {q o n : Nat} {W P SN : Nat → Nat} (C : CPY h h' q o) (t : twn h o n W P SN) : twn h' q n W P SN := by
  obtain ⟨-, -, -, ⟨c0, -⟩, c1, c2, -, c4, -⟩ := C
  obtain ⟨t0, t1, t2, t3, t4⟩ := t
  exact ⟨t0, by rw [c0]; exact t1, fun p hp => by rw [c1 p (by omega)]; exact t2 p hp, fun p hp => by rw [c2 p (by omega)]; exact t3 p hp, fun c hc => by rw [c4 c hc]; exact t4 c hc⟩
