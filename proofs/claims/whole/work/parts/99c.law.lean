--deps:19.lay 21.facts 22.00.names 22.01.eq 22.02.eq 22.03.eq 22.04.eq 22.05.eq 22.06.eq 22.07.eq 22.08.eq 22.09.eq 22.10.eq 22.11.eq 22.12.eq 22.13.eq 22.14.eq 22.15.eq 22.16.eq 22.17.eq 22.18.eq 22.19.eq 22.20.eq 22.21.eq 22.22.eq 22.23.eq 23.num 24.town 25.evc 26.evm 27.law 28.says 29.inv 30.api1 31.copy 49.image 66.script 67.law 68.inits 69.init2 70.init3 97.text 98.text2 99.init4 99b.start
/-! THE LAW HOLDS -/
set_option linter.unusedSectionVars false
theorem mN_rIx (h : MH) (a : Nat) (f : Nat → Int32) : mN (rI h a f) = mN h := rfl
theorem mS_rIx (h : MH) (a : Nat) (f : Nat → Int32) : mS (rI h a f) = mS h := rfl
theorem gR_rIx (h : MH) (a : Nat) (f : Nat → Int32) (b : Nat) : gR (rI h a f) b = gR h b := rfl
theorem kd_rIx (h : MH) (a : Nat) (f : Nat → Int32) (b : Nat) : kd (rI h a f) b = kd h b := rfl
theorem ln_rIx (h : MH) (a : Nat) (f : Nat → Int32) (b : Nat) : ln (rI h a f) b = ln h b := rfl
section LW
variable (L : Nat) (xs : Nat → Int32)
def hS (L : Nat) (xs : Nat → Int32) : MH := opsH (mh0 L xs) l1
def hT (L : Nat) (xs : Nat → Int32) : MH := rI (hS L xs) 69 (cpR (gI (hS L xs) 68) (gI (hS L xs) 69) 1498)
theorem t_I {a : Nat} (ha : ¬ a = 69) : gI (hT L xs) a = gI (hS L xs) a := gI_rI' _ _ _ _ ha
theorem t_68 {k : Nat} (hk : k < 1498) : gI (hT L xs) 68 k = if k = 7 then 349 else if k = 3 ∨ 30 ≤ k ∧ k < 34 then -1 else 0 := by
  rw [t_I L xs (by decide)]
  unfold hS
  rw [s_I]
  exact q_68 k hk
theorem t_69 {k : Nat} (hk : k < 1498) : gI (hT L xs) 69 k = if k = 7 then 349 else if k = 3 ∨ 30 ≤ k ∧ k < 34 then -1 else 0 := by
  unfold hT
  rw [gI_rIs]
  show (if k < 1498 then gI (hS L xs) 68 k else gI (hS L xs) 69 k) = _
  rw [if_pos hk]
  unfold hS
  rw [s_I]
  exact q_68 k hk
theorem t_r {r : Nat} (hr : r = 68 ∨ r = 69) {k : Nat} (hk : k < 1498) : gI (hT L xs) r k = if k = 7 then 349 else if k = 3 ∨ 30 ≤ k ∧ k < 34 then -1 else 0 := by
  rcases hr with rfl | rfl
  · exact t_68 L xs hk
  · exact t_69 L xs hk
theorem t_0 {r : Nat} (hr : r = 68 ∨ r = 69) {k : Nat} (hk : k < 1498) (h7 : ¬ k = 7) (h3 : ¬ (k = 3 ∨ 30 ≤ k ∧ k < 34)) : gI (hT L xs) r k = 0 := by
  rw [t_r L xs hr hk, if_neg h7, if_neg h3]
theorem t_z {a : Nat} (ha : ¬ a = 69) (h : noW a l1 = true) (h2 : (alL 8 l1 a).isSome = true) (k : Nat) : gI (hT L xs) a k = 0 := by
  rw [t_I L xs ha]
  unfold hS
  exact s_zero L xs h h2 k
theorem t_v (a k : Nat) (ha : ¬ a = 69) (h0 : x0v xs a k = 0) {v : Int32} (e : rdI 8 l1 a k 0 = v) : gI (hT L xs) a k = v := by
  rw [t_I L xs ha]
  unfold hS
  rw [s_I, h0]
  exact e
theorem t_R (a k : Nat) (h0 : x0r a k = 0) {v : Nat} (e : rdR 8 l1 a k 0 = v) : gR (hT L xs) a k = v := by
  unfold hT
  rw [gR_rIx]
  unfold hS
  rw [s_R, h0]
  exact e
/-- a borough as it is made -/
theorem t_B {b r : Nat} (hr : b = 9 ∧ r = 68 ∨ b = 26 ∧ r = 69) : BOR (hT L xs) b r 0 (fun _ => 0) (fun _ => 0) (fun _ => 0) 0 349 0 0 := by
  have hr' : r = 68 ∨ r = 69 := by omega
  have z : ∀ {k : Nat}, k < 1498 → ¬ k = 7 → ¬ (k = 3 ∨ 30 ≤ k ∧ k < 34) → gI (hT L xs) r k = nI 0 := fun h1 h2 h3 => t_0 L xs hr' h1 h2 h3
  have zz : ∀ j, j = 2 ∨ j = 3 ∨ j = 5 ∨ j = 6 → ∀ k, gI (hT L xs) (b + j) k = nI 0 := by
    intro j hj k
    rcases hr with ⟨rfl, rfl⟩ | ⟨rfl, rfl⟩ <;> rcases hj with rfl | rfl | rfl | rfl
    · exact t_z L xs (a := 11) (by decide) (by decide +kernel) (by decide +kernel) k
    · exact t_z L xs (a := 12) (by decide) (by decide +kernel) (by decide +kernel) k
    · exact t_z L xs (a := 14) (by decide) (by decide +kernel) (by decide +kernel) k
    · exact t_z L xs (a := 15) (by decide) (by decide +kernel) (by decide +kernel) k
    · exact t_z L xs (a := 28) (by decide) (by decide +kernel) (by decide +kernel) k
    · exact t_z L xs (a := 29) (by decide) (by decide +kernel) (by decide +kernel) k
    · exact t_z L xs (a := 31) (by decide) (by decide +kernel) (by decide +kernel) k
    · exact t_z L xs (a := 32) (by decide) (by decide +kernel) (by decide +kernel) k
  have w : (gI (hT L xs) (b + 1) 0 = 0 ∧ gI (hT L xs) (b + 1) 5 = 0 ∧ gI (hT L xs) (b + 1) 6 = 349 ∧ gI (hT L xs) (b + 1) 8 = 0) ∧ (gI (hT L xs) (b + 10) 3 = 0 ∧ gI (hT L xs) b 4 = 0 ∧ gI (hT L xs) b 5 = -1 ∧ gI (hT L xs) b 8 = 0 ∧ gI (hT L xs) (b + 8) 1 = 0 ∧ gI (hT L xs) (b + 8) 2 = 0) ∧ gR (hT L xs) (b + 1) 9 = 0 := by
    rcases hr with ⟨rfl, rfl⟩ | ⟨rfl, rfl⟩
    · exact ⟨⟨t_v L xs 10 0 (by decide) rfl (by decide +kernel), t_v L xs 10 5 (by decide) rfl (by decide +kernel), t_v L xs 10 6 (by decide) rfl (by decide +kernel), t_v L xs 10 8 (by decide) rfl (by decide +kernel)⟩, ⟨t_v L xs 19 3 (by decide) rfl (by decide +kernel), t_v L xs 9 4 (by decide) rfl (by decide +kernel), t_v L xs 9 5 (by decide) rfl (by decide +kernel), t_v L xs 9 8 (by decide) rfl (by decide +kernel), t_v L xs 17 1 (by decide) rfl (by decide +kernel), t_v L xs 17 2 (by decide) rfl (by decide +kernel)⟩, t_R L xs 10 9 rfl (by decide +kernel)⟩
    · exact ⟨⟨t_v L xs 27 0 (by decide) rfl (by decide +kernel), t_v L xs 27 5 (by decide) rfl (by decide +kernel), t_v L xs 27 6 (by decide) rfl (by decide +kernel), t_v L xs 27 8 (by decide) rfl (by decide +kernel)⟩, ⟨t_v L xs 36 3 (by decide) rfl (by decide +kernel), t_v L xs 26 4 (by decide) rfl (by decide +kernel), t_v L xs 26 5 (by decide) rfl (by decide +kernel), t_v L xs 26 8 (by decide) rfl (by decide +kernel), t_v L xs 34 1 (by decide) rfl (by decide +kernel), t_v L xs 34 2 (by decide) rfl (by decide +kernel)⟩, t_R L xs 27 9 rfl (by decide +kernel)⟩
  obtain ⟨⟨w1, w2, w3, w4⟩, ⟨w5, w6, w7, w8, w9, w10⟩, w11⟩ := w
  have e7 : gI (hT L xs) r 7 = nI 349 := by rw [t_r L xs hr' (by omega), if_pos rfl]; rfl
  have e3 : ∀ k, k = 3 ∨ 30 ≤ k ∧ k < 34 → gI (hT L xs) r k = -1 := fun k hk => by rw [t_r L xs hr' (by omega), if_neg (by omega), if_pos hk]
  refine ⟨⟨by omega, w1, z (by omega) (by omega) (by omega), fun p hp => ⟨zz 2 (by omega) p, z (by omega) (by omega) (by omega), Nat.zero_le 9, fun q => by omega⟩, fun p hp => ⟨zz 3 (by omega) p, z (by omega) (by omega) (by omega), Nat.zero_le 8, fun _ => rfl⟩, fun c hc => ⟨zz 5 (by omega) c, z (by omega) (by omega) (by omega), Nat.zero_le 9⟩⟩, ⟨⟨w2, z (by omega) (by omega) (by omega), by omega⟩, ⟨w3, e7, by omega⟩, ⟨w4, z (by omega) (by omega) (by omega), by omega⟩⟩, fun k hk => ?_, ⟨fun p hp => by omega, fun p _ hp => e3 _ (by omega)⟩, ⟨0, fun _ => 0, fun _ => 0, by omega, w5, z (by omega) (by omega) (by omega), fun k hk => by omega⟩, ⟨by omega, w6, z (by omega) (by omega) (by omega), Or.inl ⟨w7, e3 3 (by omega), w11⟩⟩, ⟨0, by omega, w8, z (by omega) (by omega) (by omega), fun k hk => by omega⟩, ⟨0, 0, fun _ => 0, ⟨by omega, by omega, w9, w10, z (by omega) (by omega) (by omega)⟩, fun k hk => by omega, fun k hk => by omega, fun k hk => by omega, fun k hk => by omega, fun p hp => by omega⟩⟩
  rw [zz 6 (by omega) k, z (by omega) (by omega) (by omega)]
theorem tt_lay : lay (hT L xs) := by
  unfold hT
  refine lay_rI ?_ (by decide)
  unfold hS
  exact s_lay L xs
theorem t_INV : INV 0 (hT L xs) := by
  refine ⟨tt_lay L xs, ⟨0, fun _ => 0, fun _ => 0, fun _ => 0, 0, 349, 0, 0, ⟨t_B L xs (Or.inl ⟨rfl, rfl⟩), fun t ht => by omega⟩, ⟨0, fun _ => 0, fun _ => 0, fun _ => 0, 0, 349, 0, 0, t_B L xs (Or.inr ⟨rfl, rfl⟩), by omega, fun t ht => by omega, fun i hi => ⟨Or.inl ?_, Or.inl ?_⟩⟩⟩, ⟨⟨0, by omega, t_v L xs 50 1 (by decide) rfl (by decide +kernel), t_v L xs 67 4 (by decide) rfl (by decide +kernel)⟩, fun k hk => ?_, ?_, ?_, t_v L xs 67 23 (by decide) rfl (by decide +kernel)⟩, ?_, ?_⟩
  · have : i = 0 ∨ i = 1 ∨ i = 2 ∨ i = 3 := by omega
    rcases this with rfl | rfl | rfl | rfl <;> exact t_R L xs 23 _ rfl (by decide +kernel)
  · have : i = 0 ∨ i = 1 ∨ i = 2 ∨ i = 3 := by omega
    rcases this with rfl | rfl | rfl | rfl <;> exact t_R L xs 40 _ rfl (by decide +kernel)
  · rw [t_z L xs (a := 51) (by decide) (by decide +kernel) (by decide +kernel) k, t_z L xs (a := 71) (by decide) (by decide +kernel) (by decide +kernel) k]
    exact ⟨rfl, 0, by omega, rfl⟩
  · rw [t_v L xs 55 11 (by decide) rfl (v := -1) (by decide +kernel), t_v L xs 67 5 (by decide) rfl (v := -1) (by decide +kernel)]
  · rw [t_v L xs 55 12 (by decide) rfl (v := -1) (by decide +kernel), t_v L xs 67 6 (by decide) rfl (v := -1) (by decide +kernel)]
  · unfold hT
    rw [mN_rIx]
    unfold hS
    rw [mN_ops, q_cn.1, show mN (mh0 L xs) = 8 from rfl]
    omega
  · unfold hT
    rw [mS_rIx]
    unfold hS
    rw [mS_ops, show mS (mh0 L xs) = 0 from rfl]
    have := q_cn.2
    omega
end LW
