--deps:19.lay 21.facts 22.00.names 22.01.eq 22.02.eq 22.03.eq 22.04.eq 22.05.eq 22.06.eq 22.07.eq 22.08.eq 22.09.eq 22.10.eq 22.11.eq 22.12.eq 22.13.eq 22.14.eq 22.15.eq 22.16.eq 22.17.eq 22.18.eq 22.19.eq 22.20.eq 22.21.eq 22.22.eq 22.23.eq 23.num 24.town 25.evc 26.evm
/-! WHAT A LAW SAYS: values as whole numbers; both sides' tipsNow and slides -/
set_option linter.unusedSectionVars false
def zL (z : Int) : Int64 := Int64.ofInt z
theorem zL_add (a b : Int) : zL a + zL b = zL (a + b) := (Int64.ofInt_add a b).symm
theorem zL_mul (a b : Int) : zL a * zL b = zL (a * b) := (Int64.ofInt_mul a b).symm
theorem zL_neg (a : Int) : -zL a = zL (-a) := (Int64.ofInt_neg a).symm
theorem zL_sub (a b : Int) : zL a - zL b = zL (a - b) := (Int64.ofInt_sub a b).symm
theorem zL_toInt {a : Int} (h1 : -9223372036854775808 ≤ a) (h2 : a < 9223372036854775808) : (zL a).toInt = a := Int64.toInt_ofInt_of_le h1 h2
theorem zL_lt {a b : Int} (ha : -9223372036854775808 ≤ a ∧ a < 9223372036854775808) (hb : -9223372036854775808 ≤ b ∧ b < 9223372036854775808) : zL a < zL b ↔ a < b := by
  rw [Int64.lt_iff_toInt_lt, zL_toInt ha.1 ha.2, zL_toInt hb.1 hb.2]
theorem zL_le {a b : Int} (ha : -9223372036854775808 ≤ a ∧ a < 9223372036854775808) (hb : -9223372036854775808 ≤ b ∧ b < 9223372036854775808) : zL a ≤ zL b ↔ a ≤ b := by
  rw [Int64.le_iff_toInt_le, zL_toInt ha.1 ha.2, zL_toInt hb.1 hb.2]
theorem zL_inj {a b : Int} (ha : -9223372036854775808 ≤ a ∧ a < 9223372036854775808) (hb : -9223372036854775808 ≤ b ∧ b < 9223372036854775808) : zL a = zL b ↔ a = b := by
  rw [← Int64.toInt_inj, zL_toInt ha.1 ha.2, zL_toInt hb.1 hb.2]
theorem zI_L {a : Int} (h1 : -2147483648 ≤ a) (h2 : a < 2147483648) : (zI a).toInt64 = zL a := by
  apply Int64.toInt_inj.mp
  rw [Int32.toInt_toInt64, zI_toInt h1 h2, zL_toInt (by omega) (by omega)]
theorem zL_I {a : Int} (h1 : -2147483648 ≤ a) (h2 : a < 2147483648) : (zL a).toInt32 = zI a := by
  rw [← zI_L h1 h2]
  simp
/-- what an expression says, by names and loads -/
abbrev Den : Type := (Nat → Int) → (Int → Int) → Int
def envZ (nm : Nat → Int) (ld : Int → Int) : Prop := (∀ k, -1000000 ≤ nm k ∧ nm k ≤ 1000000) ∧ (∀ z, 0 ≤ ld z ∧ ld z ≤ 1000000)
def okD (v : Den) : Prop := ∀ nm ld, envZ nm ld → -1000000 ≤ v nm ld ∧ v nm ld ≤ 1000000
def envI (nm : Nat → Int) (ld : Int → Int) (nmI : Nat → Int32) (ldi : Int32 → Int32) : Prop := envZ nm ld ∧ (∀ k, k < 7 → nmI k = zI (nm k)) ∧ (∀ z, -1000000 ≤ z → z ≤ 1000000 → ldi (zI z) = zI (ld z))
def envL (nm : Nat → Int) (ld : Int → Int) (N : Nat) (nmI : Nat → Int32) (ldl : Int64 → Int64) : Prop := envZ nm ld ∧ (∀ k, k < N → nmI k = zI (nm k)) ∧ (∀ z, -1000000 ≤ z → z ≤ 1000000 → ldl (zL z) = zL (ld z))
/-- the class's code from a to b puts v on the stack -/
def EvC (c : Nat → Int32) (a b need : Nat) (v : Den) : Prop := ∀ (len : Nat) (nm : Nat → Int) (ld : Int → Int) (nmI : Nat → Int32) (ldi : Int32 → Int32), b ≤ len → envI nm ld nmI ldi → ∀ (top : Nat) (f : Nat → Int32), top + need ≤ 64 → ∃ (k : Nat) (f' : Nat → Int32), k ≤ b - a ∧ crn c nmI ldi len k (a, top, f) = some (b, top + 1, f') ∧ (∀ j, j < top → f' j = f j) ∧ f' top = zI (v nm ld)
/-- the reference's code from a to b puts v on the values; the names below N serve -/
def EvM (t : Nat → Int32) (cb a b N : Nat) (v : Den) : Prop := ∀ (nm : Nat → Int) (ld : Int → Int) (nmI : Nat → Int32) (ldl : Int64 → Int64), envL nm ld N nmI ldl → ∀ (n tr : Nat) (vals : Nat → Int64) (tru : Nat → Int32), n + (b - a) ≤ 330 → tr + (b - a) ≤ 330 → ∃ (vals' : Nat → Int64) (tru' : Nat → Int32), mvr t cb nmI ldl (b - a) (a, n, tr, vals, tru) = some (b, n + 1, tr, vals', tru') ∧ (∀ j, j < n → vals' j = vals j) ∧ (∀ j, j < tr → tru' j = tru j) ∧ vals' n = zL (v nm ld)
/-- heaps that differ in scratch alone -/
def stk (h : MH) (a : Nat) : Prop := 84 ≤ a ∧ ∃ l, 84 ≤ l ∧ kd h l = 4 ∧ gR h l 1 = a
def sm (Z : List Nat) (h h' : MH) : Prop := h'.1 = h.1 ∧ (∀ a, (¬ a ∈ Z ∨ 84 ≤ a) → gR h' a = gR h a) ∧ (∀ a, (¬ a ∈ Z ∨ 84 ≤ a) → ¬ stk h a → gI h' a = gI h a)
theorem sm_refl (Z : List Nat) (h : MH) : sm Z h h := ⟨rfl, fun _ _ => rfl, fun _ _ _ => rfl⟩
theorem sm_kd {Z : List Nat} {h h' : MH} (s : sm Z h h') (a : Nat) : kd h' a = kd h a := by unfold kd; rw [s.1]
theorem sm_ln {Z : List Nat} {h h' : MH} (s : sm Z h h') (a : Nat) : ln h' a = ln h a := by unfold ln; rw [s.1]
theorem sm_stk {Z : List Nat} {h h' : MH} (s : sm Z h h') (a : Nat) : stk h' a ↔ stk h a := by
  constructor
  · rintro ⟨h1, l, h2, h3, h4⟩
    exact ⟨h1, l, h2, (sm_kd s l) ▸ h3, by rw [← s.2.1 l (Or.inr h2)]; exact h4⟩
  · rintro ⟨h1, l, h2, h3, h4⟩
    exact ⟨h1, l, h2, (sm_kd s l).trans h3, by rw [s.2.1 l (Or.inr h2)]; exact h4⟩
theorem sm_trans {Z : List Nat} {h1 h2 h3 : MH} (s : sm Z h1 h2) (u : sm Z h2 h3) : sm Z h1 h3 :=
  ⟨u.1.trans s.1, fun a ha => (u.2.1 a ha).trans (s.2.1 a ha), fun a ha hk => (u.2.2 a ha (fun q => hk ((sm_stk s a).mp q))).trans (s.2.2 a ha hk)⟩
theorem sm_mono {Z Z' : List Nat} {h h' : MH} (s : sm Z h h') (hz : ∀ a, a ∈ Z → a ∈ Z') : sm Z' h h' :=
  ⟨s.1, fun a ha => s.2.1 a (ha.imp (fun q w => q (hz a w)) id), fun a ha hk => s.2.2 a (ha.imp (fun q w => q (hz a w)) id) hk⟩
theorem sm_gI {Z : List Nat} {h h' : MH} (s : sm Z h h') {a : Nat} (ha : ¬ a ∈ Z) (h84 : a < 84) : gI h' a = gI h a := s.2.2 a (Or.inl ha) (fun q => by have := q.1; omega)
theorem sm_gR {Z : List Nat} {h h' : MH} (s : sm Z h h') {a : Nat} (ha : ¬ a ∈ Z ∨ 84 ≤ a) : gR h' a = gR h a := s.2.1 a ha
theorem sm_rI {Z : List Nat} {h : MH} {a : Nat} {f : Nat → Int32} (ha : a ∈ Z ∧ a < 84 ∨ stk h a) : sm Z h (rI h a f) := by
  refine ⟨rfl, fun _ _ => rfl, fun b hb hk => ?_⟩
  rw [gI_rI, if_neg]
  rintro rfl
  rcases ha with ha | ha
  · rcases hb with hb | hb
    · exact hb ha.1
    · omega
  · exact hk ha
theorem sm_rL {Z : List Nat} {h : MH} {a : Nat} {f : Nat → Int64} : sm Z h (rL h a f) := ⟨rfl, fun _ _ => rfl, fun _ _ _ => rfl⟩
theorem sm_lay {Z : List Nat} {h h' : MH} (s : sm Z h h') (L : lay h) (hz : (Z.all fun a => cRF.all (fun q => !(Nat.beq q.1 a)) && (Nat.blt 7 a)) = true) : lay h' := by
  obtain ⟨l1, l2, l3, l4, l5, l6, l7, l8, l9, l10⟩ := L
  have hn : ∀ a, a ∈ Z → 7 < a ∧ ∀ q ∈ cRF, ¬ q.1 = a := by
    intro a ha
    have := List.all_eq_true.mp hz a ha
    rw [Bool.and_eq_true] at this
    refine ⟨Nat.ble_eq.mp this.2, fun q hq e => ?_⟩
    have := List.all_eq_true.mp this.1 q hq
    rw [e, Nat.beq_refl] at this
    cases this
  have g : ∀ a, a < 8 → gI h' a = gI h a := fun a ha => sm_gI s (fun q => by have := (hn a q).1; omega) (by omega)
  refine ⟨by unfold mN; rw [s.1]; exact l1, fun a ha => (sm_kd s a).trans (l2 a ha), fun a h1 ha => (sm_ln s a).trans (l3 a h1 ha), fun q hq => ?_, ?_⟩
  · rw [s.2.1 q.1 (Or.inl fun w => (hn _ w).2 q hq rfl)]
    exact l4 q hq
  · rw [g 2 (by decide), g 3 (by decide), g 6 (by decide), g 7 (by decide), g 4 (by decide), g 5 (by decide)]
    exact ⟨l5, l6, l7, l8, l9, l10⟩
theorem twn_sm {Z : List Nat} {h h' : MH} (s : sm Z h h') {q n : Nat} {W P SN : Nat → Nat} (T : tAt q) (hz : ¬ q ∈ Z ∧ ¬ q + 1 ∈ Z ∧ ¬ q + 2 ∈ Z ∧ ¬ q + 4 ∈ Z) (t : twn h q n W P SN) : twn h' q n W P SN := by
  have hT := tAt_lt T
  unfold twn
  rw [sm_gI s hz.1 (by omega), sm_gI s hz.2.1 (by omega), sm_gI s hz.2.2.1 (by omega), sm_gI s hz.2.2.2 (by omega)]
  exact t
theorem mdl_sm {Z : List Nat} {h h' : MH} (s : sm Z h h') {n : Nat} {W P SN : Nat → Nat} (hz : ¬ 68 ∈ Z) (t : mdl h n W P SN) : mdl h' n W P SN := by
  unfold mdl
  rw [sm_gI s hz (by omega)]
  exact t
/-- the tip is small -/
theorem tip_bd {n : Nat} {W P SN : Nat → Nat} (hn : n ≤ 4) (hW : ∀ p, p < n → W p ≤ 9) (hP : ∀ p, p < n → P p ≤ 8) (hS : ∀ c, c < 9 → SN c ≤ 9) : -468 ≤ tipZ n W P SN ∧ tipZ n W P SN ≤ 468 := by
  have mb : ∀ w p : Nat, w ≤ 9 → p ≤ 8 → -36 ≤ (w : Int) * ((p : Int) - 4) ∧ (w : Int) * ((p : Int) - 4) ≤ 36 := by
    have : ∀ w : Nat, w < 10 → ∀ p : Nat, p < 9 → -36 ≤ (w : Int) * ((p : Int) - 4) ∧ (w : Int) * ((p : Int) - 4) ≤ 36 := by decide +kernel
    intro w p hw hp
    exact this w (by omega) p (by omega)
  have b1 := sumZ_bd (f := fun p => (W p : Int) * ((P p : Int) - 4)) (n := n) (lo := -36) (hi := 36) (fun i hi => mb _ _ (hW i hi) (hP i hi))
  have b2 := sumZ_bd (f := fun c => (SN c : Int) * ((c : Int) - 4)) (n := 9) (lo := -36) (hi := 36) (fun i hi => mb _ _ (hS i hi) (by omega))
  unfold tipZ
  omega
theorem twn_b {h : MH} {q n : Nat} {W P SN : Nat → Nat} (t : twn h q n W P SN) : -468 ≤ tipZ n W P SN ∧ tipZ n W P SN ≤ 468 := tip_bd t.1 (fun p hp => (t.2.2.1 p hp).2) (fun p hp => (t.2.2.2.1 p hp).2) (fun c hc => (t.2.2.2.2 c hc).2)
theorem mdl_b {h : MH} {n : Nat} {W P SN : Nat → Nat} (t : mdl h n W P SN) : -468 ≤ tipZ n W P SN ∧ tipZ n W P SN ≤ 468 := tip_bd t.1 (fun p hp => (t.2.2.1 p hp).2) (fun p hp => (t.2.2.2.1 p hp).2) (fun c hc => (t.2.2.2.2 c hc).2)
/-- what the names say -/
def nmZ (n : Nat) (W P SN : Nat → Nat) (H : Nat) (who : Option Nat) (k : Nat) : Int := match k with
  | 0 => H
  | 1 => tipZ n W P SN
  | 2 => (sumN W n + sumN SN 9 : Nat)
  | 3 => (sumN SN 9 : Nat)
  | 4 => match who with
    | some p => p
    | none => 0
  | 5 => match who with
    | some p => W p
    | none => 0
  | 6 => match who with
    | some p => P p
    | none => 0
  | _ => 0
def ldZ (n : Nat) (W P SN : Nat → Nat) (z : Int) : Int := if 0 ≤ z ∧ z < 9 then (ldN n W P SN z.toNat : Nat) else 0
/-- bounds alone -/
def tbd (n : Nat) (W P SN : Nat → Nat) : Prop := n ≤ 4 ∧ (∀ p, p < n → W p ≤ 9) ∧ (∀ p, p < n → P p ≤ 8) ∧ (∀ c, c < 9 → SN c ≤ 9)
theorem twn_tbd {h : MH} {q n : Nat} {W P SN : Nat → Nat} (t : twn h q n W P SN) : tbd n W P SN := ⟨t.1, fun p hp => (t.2.2.1 p hp).2, fun p hp => (t.2.2.2.1 p hp).2, fun c hc => (t.2.2.2.2 c hc).2⟩
theorem mdl_tbd {h : MH} {n : Nat} {W P SN : Nat → Nat} (t : mdl h n W P SN) : tbd n W P SN := ⟨t.1, fun p hp => (t.2.2.1 p hp).2, fun p hp => (t.2.2.2.1 p hp).2, fun c hc => (t.2.2.2.2 c hc).2⟩
theorem env_ok {n : Nat} {W P SN : Nat → Nat} (b : tbd n W P SN) {H : Nat} (hH : H ≤ 9999) {who : Option Nat} (hw : ∀ p, who = some p → p < n) : envZ (nmZ n W P SN H who) (ldZ n W P SN) := by
  obtain ⟨hn, hW, hP, hS⟩ := b
  have s1 := sumN_le (f := W) (n := n) (b := 9) hW
  have s2 := sumN_le (f := SN) (n := 9) (b := 9) hS
  have tb := tip_bd hn hW hP hS
  constructor
  · intro k
    match k with
    | 0 => show -1000000 ≤ (H : Int) ∧ (H : Int) ≤ 1000000; omega
    | 1 => show -1000000 ≤ tipZ n W P SN ∧ tipZ n W P SN ≤ 1000000; omega
    | 2 => show -1000000 ≤ ((sumN W n + sumN SN 9 : Nat) : Int) ∧ ((sumN W n + sumN SN 9 : Nat) : Int) ≤ 1000000; omega
    | 3 => show -1000000 ≤ ((sumN SN 9 : Nat) : Int) ∧ ((sumN SN 9 : Nat) : Int) ≤ 1000000; omega
    | 4 =>
      match who, hw with
      | some p, hw => have := hw p rfl; show -1000000 ≤ (p : Int) ∧ (p : Int) ≤ 1000000; omega
      | none, _ => show -1000000 ≤ (0 : Int) ∧ (0 : Int) ≤ 1000000; omega
    | 5 =>
      match who, hw with
      | some p, hw => have := hW p (hw p rfl); show -1000000 ≤ (W p : Int) ∧ (W p : Int) ≤ 1000000; omega
      | none, _ => show -1000000 ≤ (0 : Int) ∧ (0 : Int) ≤ 1000000; omega
    | 6 =>
      match who, hw with
      | some p, hw => have := hP p (hw p rfl); show -1000000 ≤ (P p : Int) ∧ (P p : Int) ≤ 1000000; omega
      | none, _ => show -1000000 ≤ (0 : Int) ∧ (0 : Int) ≤ 1000000; omega
    | k + 7 => show -1000000 ≤ (0 : Int) ∧ (0 : Int) ≤ 1000000; omega
  · intro z
    unfold ldZ
    split
    · rename_i hz
      have h1 := hS z.toNat (by omega)
      have h2 := sumN_le (f := fun p => if P p = z.toNat then W p else 0) (n := n) (b := 9) (fun i hi => by
        have := hW i hi
        split <;> omega)
      unfold ldN
      omega
    · omega
theorem ldI_z (n : Nat) (W P SN : Nat → Nat) (z : Int) (h1 : -1000000 ≤ z) (h2 : z ≤ 1000000) : ldI n W P SN (zI z) = zI (ldZ n W P SN z) := by
  unfold ldI ldZ
  have e : ib (zI z) 9 ↔ (0 ≤ z ∧ z < 9) := by
    unfold ib
    rw [vp_in_iff, zI_toInt (by omega) (by omega)]
    omega
  by_cases c : 0 ≤ z ∧ z < 9
  · rw [if_pos (e.mpr c), if_pos c]
    obtain ⟨k, rfl⟩ : ∃ k : Nat, z = (k : Int) := ⟨z.toNat, by omega⟩
    rw [← nI_zI, ix_nI (by omega), nI_zI]
    rfl
  · rw [if_neg (fun q => c (e.mp q)), if_neg c]
    rfl
theorem ldL_z {n : Nat} {W P SN : Nat → Nat} (b : tbd n W P SN) (z : Int) (h1 : -1000000 ≤ z) (h2 : z ≤ 1000000) : ldL n W P SN (zL z) = zL (ldZ n W P SN z) := by
  have bd := (env_ok b (H := 0) (by omega) (who := none) (fun _ q => by cases q)).2 z
  have e0 : (0 : Int64) = zL 0 := by decide +kernel
  have e9 : (9 : Int64) = zL 9 := by decide +kernel
  unfold ldL
  by_cases c0 : z < 0
  · rw [if_pos ((lg_cmp_lt _ _).mpr (by rw [e0, zL_lt (by omega) (by omega)]; exact c0))]
    unfold ldZ
    rw [if_neg (by omega)]
    exact e0
  rw [if_neg (fun q => c0 ((by have := (lg_cmp_lt _ _).mp q; rw [e0, zL_lt (by omega) (by omega)] at this; exact this)))]
  by_cases c9 : z < 9
  · rw [if_pos ((lg_cmp_lt _ _).mpr (by rw [e9, zL_lt (by omega) (by omega)]; exact c9)), zL_I (by omega) (by omega), ldI_z n W P SN z h1 h2, zI_L (by omega) (by omega)]
  · rw [if_neg (fun q => c9 ((by have := (lg_cmp_lt _ _).mp q; rw [e9, zL_lt (by omega) (by omega)] at this; exact this)))]
    unfold ldZ
    rw [if_neg (by omega)]
    exact e0
