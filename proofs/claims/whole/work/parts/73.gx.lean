--deps:19.lay 21.facts 22.00.names 22.01.eq 22.02.eq 22.03.eq 22.04.eq 22.05.eq 22.06.eq 22.07.eq 22.08.eq 22.09.eq 22.10.eq 22.11.eq 22.12.eq 22.13.eq 22.14.eq 22.15.eq 22.16.eq 22.17.eq 22.18.eq 22.19.eq 22.20.eq 22.21.eq 22.22.eq 22.23.eq 23.num 24.town 25.evc 26.evm 27.law 28.says 29.inv
/-! WHAT A PART OF A SUM SAYS: codes that say it on both sides, put together -/
set_option linter.unusedSectionVars false
def clipZ (z : Int) : Int := if 1000000 < z then 1000000 else if z < -1000000 then -1000000 else z
def uZ (ld : Int → Int) (op : Nat) (z : Int) : Int := if op = 5 then -z else if op = 4 then (if 0 < z then 1 else if z < 0 then -1 else 0) else if op = 2 then ld z else (if z = 0 then 1 else 0)
def bZ (op : Nat) (x y : Int) : Int :=
  if op = 6 then clipZ (x + y) else if op = 7 then clipZ (x - y) else if op = 8 then clipZ (x * y) else if op = 9 then (if y = 0 then 0 else clipZ (x.tdiv y))
  else if op = 10 then (if x < y then 1 else 0) else if op = 11 then (if x ≤ y then 1 else 0) else if op = 12 then (if x ≤ y then 0 else 1) else if op = 13 then (if x < y then 0 else 1) else if op = 14 then (if x = y then 1 else 0) else if op = 15 then (if x = y then 0 else 1)
  else if op = 21 then (if x = 0 then 0 else if y = 0 then 0 else 1) else (if x = 0 then (if y = 0 then 0 else 1) else 1)
def uC (op : Nat) : Nat := if op = 5 then 4 else if op = 4 then 5 else if op = 2 then 6 else 7
def bC (op : Nat) : Nat := if op = 21 then 19 else if op = 22 then 18 else op + 2
theorem ltI_lit {a b : Int} (ha : -2147483648 ≤ a ∧ a < 2147483648) (hb : -2147483648 ≤ b ∧ b < 2147483648) : (zI a ≤ zI b) = (a ≤ b) := propext (zI_le ha hb)
theorem clip_c {z : Int} (h : -1000000000000000 ≤ z ∧ z ≤ 1000000000000000) : cCl (zL z) = zI (clipZ z) := by
  have e1 : (1000000 : Int64) = zL 1000000 := by decide +kernel
  have e2 : (-1000000 : Int64) = zL (-1000000) := by decide +kernel
  unfold cCl clipZ
  rw [e2, e1]
  by_cases c1 : 1000000 < z
  · rw [if_pos c1, if_neg (by rw [lg_cmp_le, zL_le (by omega) (by omega)]; omega)]
    decide +kernel
  · rw [if_neg c1, if_pos (by rw [lg_cmp_le, zL_le (by omega) (by omega)]; omega)]
    by_cases c2 : z < -1000000
    · rw [if_pos c2, if_pos (by rw [lg_cmp_lt, zL_lt (by omega) (by omega)]; omega)]
      decide +kernel
    · rw [if_neg c2, if_neg (by rw [lg_cmp_lt, zL_lt (by omega) (by omega)]; omega), zL_I (by omega) (by omega)]
theorem clip_m {z : Int} (h : -1000000000000000 ≤ z ∧ z ≤ 1000000000000000) : mCl (zL z) = zL (clipZ z) := by
  have e1 : (1000000 : Int64) = zL 1000000 := by decide +kernel
  have e2 : (-1000000 : Int64) = zL (-1000000) := by decide +kernel
  unfold mCl clipZ
  rw [e2, e1]
  by_cases c1 : 1000000 < z
  · rw [if_pos c1, if_neg (by rw [lg_cmp_le, zL_le (by omega) (by omega)]; omega)]
  · rw [if_neg c1, if_pos (by rw [lg_cmp_le, zL_le (by omega) (by omega)]; omega)]
    by_cases c2 : z < -1000000
    · rw [if_pos c2, if_pos (by rw [lg_cmp_lt, zL_lt (by omega) (by omega)]; omega)]
    · rw [if_neg c2, if_neg (by rw [lg_cmp_lt, zL_lt (by omega) (by omega)]; omega)]
theorem clip_bd (z : Int) : -1000000 ≤ clipZ z ∧ clipZ z ≤ 1000000 := by
  unfold clipZ
  split
  · omega
  · split <;> omega
def rgZ (z : Int) : Prop := -1000000 ≤ z ∧ z ≤ 1000000
theorem mul_bd {x y : Int} (hx : rgZ x) (hy : rgZ y) : -1000000000000000 ≤ x * y ∧ x * y ≤ 1000000000000000 := by
  have h1 : (x * y).natAbs ≤ 1000000 * 1000000 := by
    rw [Int.natAbs_mul]
    exact Nat.mul_le_mul (by unfold rgZ at hx; omega) (by unfold rgZ at hy; omega)
  omega
theorem tdiv_bd {x y : Int} (hx : rgZ x) : rgZ (x.tdiv y) := by
  have h1 : (x.tdiv y).natAbs ≤ x.natAbs := by
    rw [Int.natAbs_tdiv]
    exact Nat.div_le_self _ _
  unfold rgZ at *
  omega
theorem zI_tdiv {x y : Int} (hx : rgZ x) (hy : rgZ y) : zI x / zI y = zI (x.tdiv y) := by
  unfold rgZ at *
  have m1 : Int32.minValue.toInt = -2147483648 := by decide
  have m2 : Int32.maxValue.toInt = 2147483647 := by decide
  exact (Int32.ofInt_tdiv (by omega) (by omega) (by omega) (by omega)).symm
theorem zL_tdiv {x y : Int} (hx : rgZ x) (hy : rgZ y) : zL x / zL y = zL (x.tdiv y) := by
  unfold rgZ at *
  have m1 : Int64.minValue.toInt = -9223372036854775808 := by decide
  have m2 : Int64.maxValue.toInt = 9223372036854775807 := by decide
  exact (Int64.ofInt_tdiv (by omega) (by omega) (by omega) (by omega)).symm
/-- the operations' bounds -/
theorem uZ_bd {ld : Int → Int} (hld : ∀ z, 0 ≤ ld z ∧ ld z ≤ 1000000) {op : Nat} {z : Int} (hz : rgZ z) : rgZ (uZ ld op z) := by
  unfold rgZ uZ at *
  have := hld z
  split
  · omega
  · split
    · split
      · omega
      · split <;> omega
    · split
      · omega
      · split <;> omega
theorem ite_rg {c : Prop} [Decidable c] {a b : Int} (h1 : rgZ a) (h2 : rgZ b) : rgZ (if c then a else b) := by
  split
  · exact h1
  · exact h2
theorem bZ_bd (op : Nat) {x y : Int} : rgZ (bZ op x y) := by
  have c : ∀ z, rgZ (clipZ z) := clip_bd
  have r0 : rgZ 0 := by unfold rgZ; omega
  have r1 : rgZ 1 := by unfold rgZ; omega
  unfold bZ
  repeat' (first | exact c _ | exact r0 | exact r1 | apply ite_rg)
theorem b01 (op : Nat) (h : 10 ≤ op) (x y : Int) : bZ op x y = 0 ∨ bZ op x y = 1 := by
  unfold bZ
  rw [if_neg (by omega), if_neg (by omega), if_neg (by omega), if_neg (by omega)]
  repeat' split
  all_goals first | exact Or.inl rfl | exact Or.inr rfl
/-- the operations in the class's code -/
theorem c_un {ld : Int → Int} {op : Nat} (h : op = 5 ∨ op = 4 ∨ op = 20) {z : Int} (hz : rgZ z) : cOne (nI (uC op)) (zI z) = zI (uZ ld op z) := by
  unfold rgZ at hz
  have e0 : (0 : Int32) = zI 0 := by decide +kernel
  rcases h with rfl | rfl | rfl
  · show -zI z = zI (-z)
    rw [zI_neg]
  · show (if zI z ≤ 0 then (if zI z < 0 then -1 else 0) else 1) = zI (if 0 < z then 1 else if z < 0 then -1 else 0)
    by_cases c1 : 0 < z
    · rw [if_pos c1, if_neg (by rw [e0, zI_le (by omega) (by omega)]; omega)]
      decide +kernel
    · rw [if_neg c1, if_pos (by rw [e0, zI_le (by omega) (by omega)]; omega)]
      by_cases c2 : z < 0
      · rw [if_pos c2, if_pos (by rw [e0, zI_lt (by omega) (by omega)]; omega)]
        decide +kernel
      · rw [if_neg c2, if_neg (by rw [e0, zI_lt (by omega) (by omega)]; omega)]
        exact e0
  · show (if zI z = 0 then 1 else 0) = zI (if z = 0 then 1 else 0)
    by_cases c1 : z = 0
    · rw [if_pos c1, if_pos (by rw [c1]; exact e0.symm)]
      decide +kernel
    · rw [if_neg c1, if_neg (by rw [e0, zI_inj (by omega) (by omega)]; omega)]
      exact e0
theorem bool_zI {c c' : Prop} [Decidable c] [Decidable c'] (h : c ↔ c') : (if c then (1 : Int32) else 0) = zI (if c' then 1 else 0) := by
  by_cases k : c
  · rw [if_pos k, if_pos (h.mp k)]; decide +kernel
  · rw [if_neg k, if_neg (fun q => k (h.mpr q))]; decide +kernel
theorem bool_zI' {c c' : Prop} [Decidable c] [Decidable c'] (h : c ↔ c') : (if c then (0 : Int32) else 1) = zI (if c' then 0 else 1) := by
  by_cases k : c
  · rw [if_pos k, if_pos (h.mp k)]; decide +kernel
  · rw [if_neg k, if_neg (fun q => k (h.mpr q))]; decide +kernel
theorem c_bi6 {x y : Int} (hx : rgZ x) (hy : rgZ y) : cTwo (nI 8) (zI x) (zI y) = zI (clipZ (x + y)) := by
  unfold rgZ at hx hy
  unfold cTwo
  rw [if_neg (by decide), if_neg (by decide), if_neg (by decide), if_neg (by decide), if_neg (by decide), if_neg (by decide), if_neg (by decide), if_neg (by decide), if_pos (by decide), zI_L (by omega) (by omega), zI_L (by omega) (by omega), zL_add, clip_c (by omega)]
theorem c_bi7 {x y : Int} (hx : rgZ x) (hy : rgZ y) : cTwo (nI 9) (zI x) (zI y) = zI (clipZ (x - y)) := by
  unfold rgZ at hx hy
  unfold cTwo
  rw [if_neg (by decide), if_neg (by decide), if_neg (by decide), if_neg (by decide), if_neg (by decide), if_neg (by decide), if_neg (by decide), if_neg (by decide), if_neg (by decide), if_pos (by decide), zI_L (by omega) (by omega), zI_L (by omega) (by omega), zL_sub, clip_c (by omega)]
theorem c_bi8 {x y : Int} (hx : rgZ x) (hy : rgZ y) : cTwo (nI 10) (zI x) (zI y) = zI (clipZ (x * y)) := by
  have mb := mul_bd hx hy
  unfold rgZ at hx hy
  unfold cTwo
  rw [if_neg (by decide), if_neg (by decide), if_neg (by decide), if_neg (by decide), if_neg (by decide), if_neg (by decide), if_neg (by decide), if_neg (by decide), if_neg (by decide), if_neg (by decide), if_pos (by decide), zI_L (by omega) (by omega), zI_L (by omega) (by omega), zL_mul, clip_c mb]
theorem c_bi9 {x y : Int} (hx : rgZ x) (hy : rgZ y) : cTwo (nI 11) (zI x) (zI y) = zI (if y = 0 then 0 else clipZ (x.tdiv y)) := by
  have db := tdiv_bd (y := y) hx
  have tdv := zI_tdiv hx hy
  unfold rgZ at hx hy db
  have e0 : (0 : Int32) = zI 0 := by decide +kernel
  have ec : cCl 0 = zI 0 := by
    have := clip_c (z := 0) (by omega)
    exact this
  unfold cTwo
  rw [if_neg (by decide), if_neg (by decide), if_neg (by decide), if_neg (by decide), if_neg (by decide), if_neg (by decide), if_neg (by decide), if_neg (by decide), if_neg (by decide), if_neg (by decide), if_neg (by decide)]
  by_cases c : y = 0
  · rw [if_pos c, if_pos (by rw [c]; exact e0.symm), ec]
  · rw [if_neg c, if_neg (by rw [e0, zI_inj (by omega) (by omega)]; exact c), tdv, zI_L (by omega) (by omega), clip_c (by omega)]
theorem bZ6 (x y : Int) : bZ 6 x y = clipZ (x + y) ∧ bZ 7 x y = clipZ (x - y) ∧ bZ 8 x y = clipZ (x * y) ∧ bZ 9 x y = (if y = 0 then 0 else clipZ (x.tdiv y)) := by
  unfold bZ
  exact ⟨if_pos rfl, by rw [if_neg (by decide), if_pos (by decide)], by rw [if_neg (by decide), if_neg (by decide), if_pos (by decide)], by rw [if_neg (by decide), if_neg (by decide), if_neg (by decide), if_pos (by decide)]⟩
theorem c_bi {op : Nat} (h : 6 ≤ op ∧ op ≤ 15) {x y : Int} (hx : rgZ x) (hy : rgZ y) : cTwo (nI (bC op)) (zI x) (zI y) = zI (bZ op x y) := by
  have h6 := c_bi6 hx hy
  have h7 := c_bi7 hx hy
  have h8 := c_bi8 hx hy
  have h9 := c_bi9 hx hy
  obtain ⟨b6, b7, b8, b9⟩ := bZ6 x y
  unfold rgZ at hx hy
  have : op = 6 ∨ op = 7 ∨ op = 8 ∨ op = 9 ∨ op = 10 ∨ op = 11 ∨ op = 12 ∨ op = 13 ∨ op = 14 ∨ op = 15 := by omega
  rcases this with rfl | rfl | rfl | rfl | rfl | rfl | rfl | rfl | rfl | rfl
  · rw [b6]; exact h6
  · rw [b7]; exact h7
  · rw [b8]; exact h8
  · rw [b9]; exact h9
  · exact bool_zI (zI_lt (by omega) (by omega))
  · exact bool_zI (zI_le (by omega) (by omega))
  · exact bool_zI' (zI_le (by omega) (by omega))
  · exact bool_zI' (zI_lt (by omega) (by omega))
  · exact bool_zI (zI_inj (by omega) (by omega))
  · exact bool_zI' (zI_inj (by omega) (by omega))
theorem c_join {op : Nat} (h : op = 21 ∨ op = 22) {x y : Int} (hx : x = 0 ∨ x = 1) (hy : y = 0 ∨ y = 1) : cTwo (nI (bC op)) (zI x) (zI y) = zI (bZ op x y) := by
  rcases h with rfl | rfl <;> rcases hx with rfl | rfl <;> rcases hy with rfl | rfl <;> decide +kernel
theorem m_un {ldl : Int64 → Int64} {ld : Int → Int} (hl : ∀ z, -1000000 ≤ z → z ≤ 1000000 → ldl (zL z) = zL (ld z)) {op : Nat} (h : op = 5 ∨ op = 4 ∨ op = 2) {z : Int} (hz : rgZ z) : mOneF ldl (nI op) (zL z) = zL (uZ ld op z) := by
  unfold rgZ at hz
  have e0 : (0 : Int64) = zL 0 := by decide +kernel
  rcases h with rfl | rfl | rfl
  · show -zL z = zL (-z)
    rw [zL_neg]
  · show (if lg_cmp (zL z) 0 ≤ 0 then (if lg_cmp (zL z) 0 < 0 then -1 else 0) else 1) = zL (if 0 < z then 1 else if z < 0 then -1 else 0)
    by_cases c1 : 0 < z
    · rw [if_pos c1, if_neg (by rw [lg_cmp_le, e0, zL_le (by omega) (by omega)]; omega)]
      decide +kernel
    · rw [if_neg c1, if_pos (by rw [lg_cmp_le, e0, zL_le (by omega) (by omega)]; omega)]
      by_cases c2 : z < 0
      · rw [if_pos c2, if_pos (by rw [lg_cmp_lt, e0, zL_lt (by omega) (by omega)]; omega)]
        decide +kernel
      · rw [if_neg c2, if_neg (by rw [lg_cmp_lt, e0, zL_lt (by omega) (by omega)]; omega)]
        exact e0
  · show ldl (zL z) = zL (ld z)
    exact hl z hz.1 hz.2
theorem m_ari {op : Nat} (h : 6 ≤ op ∧ op ≤ 9) {x y : Int} (hx : rgZ x) (hy : rgZ y) : mTwoF (nI op) (zL x) (zL y) = zL (bZ op x y) := by
  have mb := mul_bd hx hy
  have db := tdiv_bd (y := y) hx
  have tdv := zL_tdiv hx hy
  obtain ⟨b6, b7, b8, b9⟩ := bZ6 x y
  unfold rgZ at hx hy db
  have e0' : (0 : Int64) = zL 0 := by decide +kernel
  have : op = 6 ∨ op = 7 ∨ op = 8 ∨ op = 9 := by omega
  unfold mTwoF
  rcases this with rfl | rfl | rfl | rfl
  · rw [b6, if_pos (by decide), zL_add, clip_m (by omega)]
  · rw [b7, if_neg (by decide), if_pos (by decide), zL_sub, clip_m (by omega)]
  · rw [b8, if_neg (by decide), if_neg (by decide), if_pos (by decide), zL_mul, clip_m mb]
  · rw [b9, if_neg (by decide), if_neg (by decide), if_neg (by decide)]
    by_cases c : y = 0
    · rw [if_pos c, if_pos (by rw [lg_cmp_eq, c]; exact e0'.symm)]
      exact e0'
    · rw [if_neg c, if_neg (by rw [lg_cmp_eq, e0', zL_inj (by omega) (by omega)]; exact c), tdv, clip_m (by omega)]
theorem m_cmp {op : Nat} (h : 10 ≤ op ∧ op ≤ 15) {x y : Int} (hx : rgZ x) (hy : rgZ y) : mAskF (nI op) (zL x) (zL y) = zI (bZ op x y) := by
  unfold rgZ at hx hy
  have : op = 10 ∨ op = 11 ∨ op = 12 ∨ op = 13 ∨ op = 14 ∨ op = 15 := by omega
  rcases this with rfl | rfl | rfl | rfl | rfl | rfl
  · exact bool_zI (by rw [lg_cmp_lt, zL_lt (by omega) (by omega)])
  · exact bool_zI (by rw [lg_cmp_le, zL_le (by omega) (by omega)])
  · exact bool_zI' (by rw [lg_cmp_le, zL_le (by omega) (by omega)])
  · exact bool_zI' (by rw [lg_cmp_lt, zL_lt (by omega) (by omega)])
  · exact bool_zI (by rw [lg_cmp_eq, zL_inj (by omega) (by omega)])
  · exact bool_zI' (by rw [lg_cmp_eq, zL_inj (by omega) (by omega)])
theorem m_join {op : Nat} (h : op = 21 ∨ op = 22) {x y : Int} (hx : x = 0 ∨ x = 1) (hy : y = 0 ∨ y = 1) : mJoinF (nI op) (zI x) (zI y) = zI (bZ op x y) := by
  rcases h with rfl | rfl <;> rcases hx with rfl | rfl <;> rcases hy with rfl | rfl <;> decide +kernel
/-- an element of the code -/
theorem enc_and {w op : Nat} (hw : w < 60000000) (ho : op < 32) : nI (w * 32 + op) &&& 31 = nI op := by
  rw [show (31 : Int32) = nI 31 from rfl, and_nI (by omega) (by omega)]
  congr 1
  rw [show (31 : Nat) = 2 ^ 5 - 1 from rfl, Nat.and_two_pow_sub_one_eq_mod]
  omega
theorem enc_shr {w op : Nat} (hw : w < 60000000) (ho : op < 32) : nI (w * 32 + op) >>> (5 &&& 31) = nI w := by
  rw [show (5 : Int32) = nI 5 from rfl, shr_nI (by omega) (by omega)]
  congr 1
  omega
theorem enc_mk {w op : Nat} (hw : w < 60000000) (ho : op < 32) : (nI w <<< (5 &&& 31)) ||| nI op = nI (w * 32 + op) := by
  rw [show (5 : Int32) = nI 5 from rfl, shl_nI (by omega) (by omega), or_nI (by omega) (by omega)]
  congr 1
  have := Nat.shiftLeft_add_eq_or_of_lt (a := w) (b := op) (i := 5) (by omega)
  rw [Nat.shiftLeft_eq] at this
  rw [← this]
