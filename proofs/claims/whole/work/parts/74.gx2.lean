--deps:19.lay 21.facts 22.00.names 22.01.eq 22.02.eq 22.03.eq 22.04.eq 22.05.eq 22.06.eq 22.07.eq 22.08.eq 22.09.eq 22.10.eq 22.11.eq 22.12.eq 22.13.eq 22.14.eq 22.15.eq 22.16.eq 22.17.eq 22.18.eq 22.19.eq 22.20.eq 22.21.eq 22.22.eq 22.23.eq 23.num 24.town 25.evc 26.evm 27.law 28.says 29.inv 73.gx
/-! CODES PUT TOGETHER -/
set_option linter.unusedSectionVars false
def GC (n : Nat) (k : Nat → Nat → Nat) (need : Nat) (v : Den) : Prop := ∀ (c : Nat → Int32) (a : Nat), a + n ≤ 300 → (∀ j, j < n → c (a + j) = nI (k a j)) → EvC c a (a + n) need v
theorem crn_app {c nm : Nat → Int32} {ld : Int32 → Int32} {len : Nat} : ∀ {k1 k2 : Nat} {s s1 s2 : CS}, crn c nm ld len k1 s = some s1 → crn c nm ld len k2 s1 = some s2 → crn c nm ld len (k1 + k2) s = some s2 := by
  intro k1
  induction k1 with
  | zero => intro k2 s s1 s2 h1 h2; cases h1; rw [Nat.zero_add]; exact h2
  | succ k1 ih =>
    intro k2 s s1 s2 h1 h2
    rw [Nat.succ_add]
    rw [crn] at h1 ⊢
    cases h : cst c nm ld len s with
    | none => rw [h] at h1; cases h1
    | some t => rw [h] at h1; exact ih (h1 : crn c nm ld len k1 t = some s1) h2
theorem crn_1 {c nm : Nat → Int32} {ld : Int32 → Int32} {len : Nat} {s s1 : CS} (h : cst c nm ld len s = some s1) : crn c nm ld len 1 s = some s1 := by
  rw [crn, h]; rfl
section CST
variable {c nm : Nat → Int32} {ld : Int32 → Int32} {len a w top : Nat} {f : Nat → Int32}
theorem cst_num (e : c a = nI (w * 32)) (hw : w < 60000000) (ha : a < len) (ht : top < 64) : cst c nm ld len (a, top, f) = some (a + 1, top + 1, va_up f top (nI w)) := by
  have e1 := enc_and (op := 0) hw (by omega)
  have e2 := enc_shr (op := 0) hw (by omega)
  rw [Nat.add_zero] at e1 e2
  unfold cst
  simp only
  rw [if_pos ha, e, e1, e2, if_pos (by decide), if_pos ht]
theorem cst_nam (e : c a = nI (w * 32 + 1)) (hw : w < 7) (ha : a < len) (ht : top < 64) : cst c nm ld len (a, top, f) = some (a + 1, top + 1, va_up f top (nm w)) := by
  unfold cst
  simp only
  rw [if_pos ha, e, enc_and (by omega) (by omega), enc_shr (by omega) (by omega), if_neg (by decide), if_pos (by decide), if_pos ⟨ht, (ib_nIi (by omega)).mpr hw⟩, ix_nI (by omega)]
theorem cst_skip (e : c a = nI (w * 32 + 2)) (h1 : a + 1 < w) (h2 : w < 1000) (ha : a < len) : cst c nm ld len (a, top, f) = some (w, top, f) := by
  unfold cst
  simp only
  rw [if_pos ha, e, enc_and (by omega) (by omega), enc_shr (by omega) (by omega), if_neg (by decide), if_neg (by decide), if_pos (by decide), if_pos ⟨w, h1, h2, rfl⟩, ix_nI (by omega)]
theorem cst_unl (e : c a = nI (w * 32 + 3)) (h1 : a + 1 < w) (h2 : w < 1000) (ha : a < len) : cst c nm ld len (a, top + 1, f) = some (if f top = 0 then w else a + 1, top, f) := by
  unfold cst
  simp only
  rw [if_pos ha, e, enc_and (by omega) (by omega), enc_shr (by omega) (by omega), if_neg (by decide), if_neg (by decide), if_neg (by decide), if_pos (by decide), if_pos ⟨by omega, w, h1, h2, rfl⟩, ix_nI (by omega), Nat.add_sub_cancel]
theorem cst_load (e : c a = nI 6) (ha : a < len) : cst c nm ld len (a, top + 1, f) = some (a + 1, top + 1, va_up f top (ld (f top))) := by
  unfold cst
  simp only
  rw [if_pos ha, e, show nI 6 &&& 31 = nI 6 from enc_and (w := 0) (op := 6) (by omega) (by omega), if_neg (by decide), if_neg (by decide), if_neg (by decide), if_neg (by decide), if_pos (by decide), if_pos (by omega), Nat.add_sub_cancel]
theorem cst_one {op : Nat} (ho : op = 4 ∨ op = 5 ∨ op = 7) (e : c a = nI op) (ha : a < len) : cst c nm ld len (a, top + 1, f) = some (a + 1, top + 1, va_up f top (cOne (nI op) (f top))) := by
  have h1 := enc_and (w := 0) (op := op) (by omega) (by omega)
  rw [Nat.zero_mul, Nat.zero_add] at h1
  unfold cst
  simp only
  rw [if_pos ha, e, h1]
  rcases ho with rfl | rfl | rfl <;> rw [if_neg (by decide), if_neg (by decide), if_neg (by decide), if_neg (by decide), if_neg (by decide), if_pos (by decide), if_pos (by omega), Nat.add_sub_cancel]
theorem cst_two {op : Nat} (h1 : 8 ≤ op) (h2 : op < 20) (e : c a = nI op) (ha : a < len) : cst c nm ld len (a, top + 2, f) = some (a + 1, top + 1, va_up f top (cTwo (nI op) (f top) (f (top + 1)))) := by
  have h3 := enc_and (w := 0) (op := op) (by omega) (by omega)
  rw [Nat.zero_mul, Nat.zero_add] at h3
  unfold cst
  simp only
  rw [if_pos ha, e, h3]
  rw [if_neg (by rw [nIe (by omega) (by decide)]; show ¬ op = 0; omega), if_neg (by rw [nIe (by omega) (by decide)]; show ¬ op = 1; omega), if_neg (by rw [nIe (by omega) (by decide)]; show ¬ op = 2; omega), if_neg (by rw [nIe (by omega) (by decide)]; show ¬ op = 3; omega), if_neg (by rw [nIe (by omega) (by decide)]; show ¬ op = 6; omega), if_neg (by rw [nIl (by omega) (by decide)]; show ¬ op < 8; omega), if_pos (by omega), show top + 2 - 1 = top + 1 by omega, show top + 2 - 2 = top by omega]
end CST
theorem va_same {α : Type} (f : Nat → α) (k : Nat) (v : α) : va_up f k v k = v := if_pos rfl
theorem va_ne {α : Type} (f : Nat → α) {k j : Nat} (v : α) (h : ¬ j = k) : va_up f k v j = f j := if_neg h
theorem GC_mono {n : Nat} {k : Nat → Nat → Nat} {need need' : Nat} {v : Den} (G : GC n k need v) (h : need ≤ need') : GC n k need' v := fun c a ha hc len nm ld nmI ldi hb env top f ht => G c a ha hc len nm ld nmI ldi hb env top f (by omega)
theorem GC_num {w : Nat} (hw : w ≤ 9999) : GC 1 (fun _ _ => w * 32) 1 (fun _ _ => (w : Int)) := by
  intro c a ha hc len nm ld nmI ldi hb env top f ht
  refine ⟨1, va_up f top (nI w), by omega, crn_1 (cst_num (hc 0 (by omega)) (by omega) (by omega) (by omega)), fun j hj => va_ne _ _ (by omega), ?_⟩
  rw [va_same, nI_zI]
theorem GC_nam {w : Nat} (hw : w < 7) : GC 1 (fun _ _ => w * 32 + 1) 1 (fun nm _ => nm w) := by
  intro c a ha hc len nm ld nmI ldi hb env top f ht
  refine ⟨1, va_up f top (nmI w), by omega, crn_1 (cst_nam (hc 0 (by omega)) (by omega) (by omega) (by omega)), fun j hj => va_ne _ _ (by omega), ?_⟩
  rw [va_same, env.2.1 w hw]
def rgD (v : Den) : Prop := ∀ nm ld, envZ nm ld → rgZ (v nm ld)
def quD (v : Den) : Prop := ∀ nm ld, envZ nm ld → v nm ld = 0 ∨ v nm ld = 1
theorem qu_rg {v : Den} (h : quD v) : rgD v := fun nm ld e => by
  unfold rgZ
  rcases h nm ld e with h | h <;> rw [h] <;> omega
def sq1 (n : Nat) (k : Nat → Nat → Nat) (op : Nat) (a j : Nat) : Nat := if j < n then k a j else op
theorem GC_un {n : Nat} {k : Nat → Nat → Nat} {need : Nat} {v : Den} (G : GC n k need v) (rg : rgD v) {op : Nat} (ho : op = 5 ∨ op = 4 ∨ op = 2 ∨ op = 20) : GC (n + 1) (sq1 n k (uC op)) need (fun nm ld => uZ ld op (v nm ld)) := by
  intro c a ha hc len nm ld nmI ldi hb env top f ht
  obtain ⟨s, f', h1, h2, h3, h4⟩ := G c a (by omega) (fun j hj => by rw [hc j (by omega)]; unfold sq1; rw [if_pos hj]) len nm ld nmI ldi (by omega) env top f ht
  have ec : c (a + n) = nI (uC op) := by rw [hc n (by omega)]; unfold sq1; rw [if_neg (by omega)]
  have r := rg nm ld env.1
  by_cases h5 : op = 2
  · subst h5
    refine ⟨s + 1, va_up f' top (ldi (f' top)), by omega, crn_app h2 (crn_1 (cst_load ec (by omega))), fun j hj => ?_, ?_⟩
    · rw [va_ne _ _ (by omega)]; exact h3 j hj
    · rw [va_same, h4, env.2.2 _ r.1 r.2]; rfl
  · refine ⟨s + 1, va_up f' top (cOne (nI (uC op)) (f' top)), by omega, crn_app h2 (crn_1 (cst_one ?_ ec (by omega))), fun j hj => ?_, ?_⟩
    · rcases ho with rfl | rfl | rfl | rfl
      · exact Or.inl rfl
      · exact Or.inr (Or.inl rfl)
      · exact absurd rfl h5
      · exact Or.inr (Or.inr rfl)
    · rw [va_ne _ _ (by omega)]; exact h3 j hj
    · rw [va_same, h4]; exact c_un (by omega) r
def sq2 (n1 : Nat) (k1 : Nat → Nat → Nat) (n2 : Nat) (k2 : Nat → Nat → Nat) (op : Nat) (a j : Nat) : Nat := if j < n1 then k1 a j else if j < n1 + n2 then k2 (a + n1) (j - n1) else op
theorem bC_bd {op : Nat} (h : 6 ≤ op ∧ op ≤ 15 ∨ op = 21 ∨ op = 22) : 8 ≤ bC op ∧ bC op < 20 := by
  unfold bC
  split
  · omega
  · split <;> omega
theorem GC_bi {n1 n2 : Nat} {k1 k2 : Nat → Nat → Nat} {need : Nat} {v1 v2 : Den} (G1 : GC n1 k1 (need + 1) v1) (G2 : GC n2 k2 need v2) {op : Nat} (ho : 6 ≤ op ∧ op ≤ 15 ∧ rgD v1 ∧ rgD v2 ∨ (op = 21 ∨ op = 22) ∧ quD v1 ∧ quD v2) : GC (n1 + n2 + 1) (sq2 n1 k1 n2 k2 (bC op)) (need + 1) (fun nm ld => bZ op (v1 nm ld) (v2 nm ld)) := by
  intro c a ha hc len nm ld nmI ldi hb env top f ht
  obtain ⟨s1, f1, h1, h2, h3, h4⟩ := G1 c a (by omega) (fun j hj => by rw [hc j (by omega)]; unfold sq2; rw [if_pos hj]) len nm ld nmI ldi (by omega) env top f (by omega)
  obtain ⟨s2, f2, q1, q2, q3, q4⟩ := G2 c (a + n1) (by omega) (fun j hj => by rw [Nat.add_assoc, hc (n1 + j) (by omega)]; unfold sq2; rw [if_neg (by omega), if_pos (by omega), Nat.add_sub_cancel_left]) len nm ld nmI ldi (by omega) env (top + 1) f1 (by omega)
  have ec : c (a + n1 + n2) = nI (bC op) := by rw [Nat.add_assoc, hc (n1 + n2) (by omega)]; unfold sq2; rw [if_neg (by omega), if_neg (by omega)]
  have bb := bC_bd (op := op) (by omega)
  have st := crn_1 (cst_two (c := c) (nm := nmI) (ld := ldi) (len := len) (a := a + n1 + n2) (top := top) (f := f2) bb.1 bb.2 ec (by omega))
  rw [show a + (n1 + n2 + 1) = a + n1 + n2 + 1 by omega]
  refine ⟨s1 + (s2 + 1), va_up f2 top (cTwo (nI (bC op)) (f2 top) (f2 (top + 1))), by omega, crn_app h2 (crn_app q2 st), fun j hj => ?_, ?_⟩
  · rw [va_ne _ _ (by omega), q3 j (by omega), h3 j hj]
  · rw [va_same, q4, q3 top (by omega), h4]
    rcases ho with ⟨a1, a2, a3, a4⟩ | ⟨a1, a2, a3⟩
    · exact c_bi ⟨a1, a2⟩ (a3 nm ld env.1) (a4 nm ld env.1)
    · exact c_join a1 (a2 nm ld env.1) (a3 nm ld env.1)
def sqI (n1 : Nat) (k1 : Nat → Nat → Nat) (n2 : Nat) (k2 : Nat → Nat → Nat) (n3 : Nat) (k3 : Nat → Nat → Nat) (a j : Nat) : Nat := if j < n1 then k1 a j else if j = n1 then (a + n1 + n2 + 2) * 32 + 3 else if j < n1 + 1 + n2 then k2 (a + n1 + 1) (j - (n1 + 1)) else if j = n1 + 1 + n2 then (a + n1 + n2 + n3 + 2) * 32 + 2 else k3 (a + n1 + n2 + 2) (j - (n1 + n2 + 2))
theorem GC_ite {n1 n2 n3 : Nat} {k1 k2 k3 : Nat → Nat → Nat} {need : Nat} {v1 v2 v3 : Den} (G1 : GC n1 k1 need v1) (G2 : GC n2 k2 need v2) (G3 : GC n3 k3 need v3) (h3p : 0 < n3) (rg : rgD v1) : GC (n1 + n2 + n3 + 2) (sqI n1 k1 n2 k2 n3 k3) need (fun nm ld => if v1 nm ld = 0 then v3 nm ld else v2 nm ld) := by
  intro c a ha hc len nm ld nmI ldi hb env top f ht
  obtain ⟨s1, f1, h1, h2, h3, h4⟩ := G1 c a (by omega) (fun j hj => by rw [hc j (by omega)]; unfold sqI; rw [if_pos hj]) len nm ld nmI ldi (by omega) env top f ht
  have e1 : c (a + n1) = nI ((a + n1 + n2 + 2) * 32 + 3) := by rw [hc n1 (by omega)]; unfold sqI; rw [if_neg (by omega), if_pos rfl]
  have e2 : c (a + n1 + 1 + n2) = nI ((a + n1 + n2 + n3 + 2) * 32 + 2) := by rw [show a + n1 + 1 + n2 = a + (n1 + 1 + n2) by omega, hc (n1 + 1 + n2) (by omega)]; unfold sqI; rw [if_neg (by omega), if_neg (by omega), if_neg (by omega), if_pos rfl]
  have st := crn_1 (cst_unl (c := c) (nm := nmI) (ld := ldi) (len := len) (f := f1) (top := top) e1 (by omega) (by omega) (by omega))
  have r := rg nm ld env.1
  have e0 : (0 : Int32) = zI 0 := by decide +kernel
  unfold rgZ at r
  by_cases z : v1 nm ld = 0
  · rw [h4, z, if_pos (show zI 0 = 0 from e0.symm)] at st
    obtain ⟨s3, f3, q1, q2, q3, q4⟩ := G3 c (a + n1 + n2 + 2) (by omega) (fun j hj => by rw [show a + n1 + n2 + 2 + j = a + (n1 + n2 + 2 + j) by omega, hc (n1 + n2 + 2 + j) (by omega)]; unfold sqI; rw [if_neg (by omega), if_neg (by omega), if_neg (by omega), if_neg (by omega), Nat.add_sub_cancel_left]) len nm ld nmI ldi (by omega) env top f1 ht
    refine ⟨s1 + (1 + s3), f3, by omega, ?_, fun j hj => by rw [q3 j hj, h3 j hj], ?_⟩
    · rw [show a + (n1 + n2 + n3 + 2) = a + n1 + n2 + 2 + n3 by omega]
      exact crn_app h2 (crn_app st q2)
    · simp only
      rw [if_pos z]; exact q4
  · rw [h4, if_neg (by rw [e0, zI_inj (by omega) (by omega)]; exact z)] at st
    obtain ⟨s3, f3, q1, q2, q3, q4⟩ := G2 c (a + n1 + 1) (by omega) (fun j hj => by rw [show a + n1 + 1 + j = a + (n1 + 1 + j) by omega, hc (n1 + 1 + j) (by omega)]; unfold sqI; rw [if_neg (by omega), if_neg (by omega), if_pos (by omega), Nat.add_sub_cancel_left]) len nm ld nmI ldi (by omega) env top f1 ht
    have sk2 := crn_1 (cst_skip (c := c) (nm := nmI) (ld := ldi) (len := len) (f := f3) (top := top + 1) e2 (by omega) (by omega) (by omega))
    refine ⟨s1 + (1 + (s3 + 1)), f3, by omega, ?_, fun j hj => by rw [q3 j hj, h3 j hj], ?_⟩
    · rw [show a + (n1 + n2 + n3 + 2) = a + n1 + n2 + n3 + 2 by omega]
      exact crn_app h2 (crn_app st (crn_app q2 sk2))
    · simp only
      rw [if_neg z]; exact q4
