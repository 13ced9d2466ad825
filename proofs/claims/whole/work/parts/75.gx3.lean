--deps:19.lay 21.facts 22.00.names 22.01.eq 22.02.eq 22.03.eq 22.04.eq 22.05.eq 22.06.eq 22.07.eq 22.08.eq 22.09.eq 22.10.eq 22.11.eq 22.12.eq 22.13.eq 22.14.eq 22.15.eq 22.16.eq 22.17.eq 22.18.eq 22.19.eq 22.20.eq 22.21.eq 22.22.eq 22.23.eq 23.num 24.town 25.evc 26.evm 27.law 28.says 29.inv 73.gx 74.gx2
/-! CODES PUT TOGETHER: the reference's -/
set_option linter.unusedSectionVars false
def atM (t : Nat → Int32) (cb a : Nat) (m : List (Nat × Nat)) : Prop := ∀ j, j < m.length → t (cb + 2 * (a + j)) = nI (m.getD j (0, 0)).1 ∧ t (cb + 2 * (a + j) + 1) = nI (m.getD j (0, 0)).2
theorem gd_l {m1 m2 : List (Nat × Nat)} {j : Nat} (hj : j < m1.length) : (m1 ++ m2).getD j (0, 0) = m1.getD j (0, 0) := by
  rw [List.getD_eq_getElem?_getD, List.getD_eq_getElem?_getD, List.getElem?_append_left hj]
theorem gd_r {m1 m2 : List (Nat × Nat)} (j : Nat) : (m1 ++ m2).getD (m1.length + j) (0, 0) = m2.getD j (0, 0) := by
  rw [List.getD_eq_getElem?_getD, List.getD_eq_getElem?_getD, List.getElem?_append_right (by omega), Nat.add_sub_cancel_left]
theorem atM_l {t : Nat → Int32} {cb a : Nat} {m1 m2 : List (Nat × Nat)} (h : atM t cb a (m1 ++ m2)) : atM t cb a m1 := by
  intro j hj
  have := h j (by rw [List.length_append]; omega)
  rwa [gd_l hj] at this
theorem atM_r {t : Nat → Int32} {cb a : Nat} {m1 m2 : List (Nat × Nat)} (h : atM t cb a (m1 ++ m2)) : atM t cb (a + m1.length) m2 := by
  intro j hj
  have := h (m1.length + j) (by rw [List.length_append]; omega)
  rw [gd_r] at this
  rw [Nat.add_assoc a m1.length j]
  exact this
theorem atM_1 {t : Nat → Int32} {cb a x y : Nat} (h : atM t cb a [(x, y)]) : t (cb + 2 * a) = nI x ∧ t (cb + 2 * a + 1) = nI y := h 0 (Nat.zero_lt_one)
def EvQ (t : Nat → Int32) (cb a b N : Nat) (v : Den) : Prop := ∀ (nm : Nat → Int) (ld : Int → Int) (nmI : Nat → Int32) (ldl : Int64 → Int64), envL nm ld N nmI ldl → ∀ (n tr : Nat) (vals : Nat → Int64) (tru : Nat → Int32), n + (b - a) ≤ 330 → tr + (b - a) ≤ 330 → ∃ (vals' : Nat → Int64) (tru' : Nat → Int32), mvr t cb nmI ldl (b - a) (a, n, tr, vals, tru) = some (b, n, tr + 1, vals', tru') ∧ (∀ j, j < n → vals' j = vals j) ∧ (∀ j, j < tr → tru' j = tru j) ∧ tru' tr = zI (v nm ld)
def GV (m : List (Nat × Nat)) (N : Nat) (v : Den) : Prop := ∀ t cb a, atM t cb a m → EvM t cb a (a + m.length) N v
def GQ (m : List (Nat × Nat)) (N : Nat) (v : Den) : Prop := ∀ t cb a, atM t cb a m → EvQ t cb a (a + m.length) N v
theorem mvr_app {t : Nat → Int32} {cb : Nat} {nm : Nat → Int32} {ld : Int64 → Int64} : ∀ {k1 k2 : Nat} {s s1 s2 : MS}, mvr t cb nm ld k1 s = some s1 → mvr t cb nm ld k2 s1 = some s2 → mvr t cb nm ld (k1 + k2) s = some s2 := by
  intro k1
  induction k1 with
  | zero => intro k2 s s1 s2 h1 h2; cases h1; rw [Nat.zero_add]; exact h2
  | succ k1 ih =>
    intro k2 s s1 s2 h1 h2
    rw [Nat.succ_add]
    rw [mvr] at h1 ⊢
    cases h : mvs t cb nm ld s with
    | none => rw [h] at h1; cases h1
    | some r => rw [h] at h1; exact ih (h1 : mvr t cb nm ld k1 r = some s1) h2
theorem mvr_1 {t : Nat → Int32} {cb : Nat} {nm : Nat → Int32} {ld : Int64 → Int64} {s s1 : MS} (h : mvs t cb nm ld s = some s1) : mvr t cb nm ld 1 s = some s1 := by
  rw [mvr, h]; rfl
section MVS
variable {t : Nat → Int32} {cb : Nat} {nm : Nat → Int32} {ld : Int64 → Int64} {a n tr w op : Nat} {vals : Nat → Int64} {tru : Nat → Int32}
theorem mvs_num (e0 : t (cb + 2 * a) = nI 0) (e1 : t (cb + 2 * a + 1) = nI w) (hn : n < 330) : mvs t cb nm ld (a, n, tr, vals, tru) = some (a + 1, n + 1, tr, va_up vals n (nI w).toInt64, tru) := by
  unfold mvs
  simp only
  rw [e0, if_pos (by decide), if_pos hn, e1]
theorem mvs_nam (e0 : t (cb + 2 * a) = nI 1) (e1 : t (cb + 2 * a + 1) = nI w) (hw : w < 7) (hn : n < 330) : mvs t cb nm ld (a, n, tr, vals, tru) = some (a + 1, n + 1, tr, va_up vals n (nm w).toInt64, tru) := by
  unfold mvs
  simp only
  rw [e0, if_neg (by decide), if_pos (by decide), e1, if_pos ⟨hn, (ib_nIi (by omega)).mpr hw⟩, ix_nI (by omega)]
theorem mvs_sel (e0 : t (cb + 2 * a) = nI 3) (hn : n + 2 ≤ 330) (ht : tr + 1 ≤ 330) : mvs t cb nm ld (a, n + 2, tr + 1, vals, tru) = some (a + 1, n + 1, tr, if tru tr = 0 then va_up vals n (vals (n + 1)) else vals, tru) := by
  unfold mvs
  simp only
  rw [e0, if_neg (by decide), if_neg (by decide), if_pos (by decide), if_pos (by omega), show n + 2 - 1 = n + 1 by omega, show n + 2 - 2 = n by omega, Nat.add_sub_cancel]
theorem mvs_un (ho : op = 5 ∨ op = 4 ∨ op = 2) (e0 : t (cb + 2 * a) = nI op) (hn : n + 1 ≤ 330) : mvs t cb nm ld (a, n + 1, tr, vals, tru) = some (a + 1, n + 1, tr, va_up vals n (mOneF ld (nI op) (vals n)), tru) := by
  unfold mvs
  simp only
  rw [e0]
  rcases ho with rfl | rfl | rfl <;> rw [if_neg (by decide), if_neg (by decide), if_neg (by decide), if_pos (by decide), if_pos (by omega), Nat.add_sub_cancel]
theorem mvs_ari (h1 : 6 ≤ op) (h2 : op ≤ 9) (e0 : t (cb + 2 * a) = nI op) (hn : n + 2 ≤ 330) : mvs t cb nm ld (a, n + 2, tr, vals, tru) = some (a + 1, n + 1, tr, va_up vals n (mTwoF (nI op) (vals n) (vals (n + 1))), tru) := by
  unfold mvs
  simp only
  rw [e0]
  have : op = 6 ∨ op = 7 ∨ op = 8 ∨ op = 9 := by omega
  rcases this with rfl | rfl | rfl | rfl <;> rw [if_neg (by decide), if_neg (by decide), if_neg (by decide), if_neg (by decide), if_pos (by decide), if_pos (by omega), show n + 2 - 1 = n + 1 by omega, show n + 2 - 2 = n by omega]
theorem mvs_cmp (h1 : 10 ≤ op) (h2 : op ≤ 15) (e0 : t (cb + 2 * a) = nI op) (hn : n + 2 ≤ 330) (ht : tr < 330) : mvs t cb nm ld (a, n + 2, tr, vals, tru) = some (a + 1, n, tr + 1, vals, va_up tru tr (mAskF (nI op) (vals n) (vals (n + 1)))) := by
  unfold mvs
  simp only
  rw [e0]
  have : op = 10 ∨ op = 11 ∨ op = 12 ∨ op = 13 ∨ op = 14 ∨ op = 15 := by omega
  rcases this with rfl | rfl | rfl | rfl | rfl | rfl <;> rw [if_neg (by decide), if_neg (by decide), if_neg (by decide), if_neg (by decide), if_neg (by decide), if_pos (by decide), if_pos (by omega), show n + 2 - 1 = n + 1 by omega, show n + 2 - 2 = n by omega]
theorem mvs_not (e0 : t (cb + 2 * a) = nI 20) (ht : tr + 1 ≤ 330) : mvs t cb nm ld (a, n, tr + 1, vals, tru) = some (a + 1, n, tr + 1, vals, va_up tru tr (if tru tr = 0 then 1 else 0)) := by
  unfold mvs
  simp only
  rw [e0, if_neg (by decide), if_neg (by decide), if_neg (by decide), if_neg (by decide), if_neg (by decide), if_neg (by decide), if_pos (by decide), if_pos (by omega), Nat.add_sub_cancel]
theorem mvs_join (ho : op = 21 ∨ op = 22) (e0 : t (cb + 2 * a) = nI op) (ht : tr + 2 ≤ 330) : mvs t cb nm ld (a, n, tr + 2, vals, tru) = some (a + 1, n, tr + 1, vals, va_up tru tr (mJoinF (nI op) (tru tr) (tru (tr + 1)))) := by
  unfold mvs
  simp only
  rw [e0]
  rcases ho with rfl | rfl <;> rw [if_neg (by decide), if_neg (by decide), if_neg (by decide), if_neg (by decide), if_neg (by decide), if_neg (by decide), if_neg (by decide), if_pos (by decide), if_pos (by omega), show tr + 2 - 1 = tr + 1 by omega, show tr + 2 - 2 = tr by omega]
end MVS
theorem ab_1 (a n : Nat) : a + n - a = n := by omega
theorem GV_num {w N : Nat} (hw : w ≤ 9999) : GV [(0, w)] N (fun _ _ => (w : Int)) := by
  intro t cb a hm nm ld nmI ldl env n tr vals tru hn ht
  rw [ab_1] at hn ht ⊢
  have e := atM_1 hm
  refine ⟨va_up vals n (nI w).toInt64, tru, mvr_1 (mvs_num e.1 e.2 (by simp only [List.length_singleton] at hn; omega)), fun j hj => va_ne _ _ (by omega), fun _ _ => rfl, ?_⟩
  rw [va_same, nI_zI, zI_L (by omega) (by omega)]
theorem GV_nam {w N : Nat} (hw : w < N) (hN : N ≤ 7) : GV [(1, w)] N (fun nm _ => nm w) := by
  intro t cb a hm nm ld nmI ldl env n tr vals tru hn ht
  rw [ab_1] at hn ht ⊢
  have e := atM_1 hm
  have b := env.1.1 w
  refine ⟨va_up vals n (nmI w).toInt64, tru, mvr_1 (mvs_nam e.1 e.2 (by omega) (by simp only [List.length_singleton] at hn; omega)), fun j hj => va_ne _ _ (by omega), fun _ _ => rfl, ?_⟩
  rw [va_same, env.2.1 w hw, zI_L (by omega) (by omega)]
theorem GV_un {m : List (Nat × Nat)} {N : Nat} {v : Den} (G : GV m N v) (rg : rgD v) {op : Nat} (ho : op = 5 ∨ op = 4 ∨ op = 2) : GV (m ++ [(op, 0)]) N (fun nm ld => uZ ld op (v nm ld)) := by
  intro t cb a hm nm ld nmI ldl env n tr vals tru hn ht
  rw [ab_1] at hn ht ⊢
  rw [List.length_append, List.length_singleton] at hn ht ⊢
  obtain ⟨vals1, tru1, h1, h2, h3, h4⟩ := G t cb a (atM_l hm) nm ld nmI ldl env n tr vals tru (by rw [ab_1]; omega) (by rw [ab_1]; omega)
  rw [ab_1] at h1
  have e := atM_1 (atM_r hm)
  have r := rg nm ld env.1
  refine ⟨va_up vals1 n (mOneF ldl (nI op) (vals1 n)), tru1, mvr_app h1 (mvr_1 (mvs_un ho e.1 (by omega))), fun j hj => ?_, h3, ?_⟩
  · rw [va_ne _ _ (by omega)]; exact h2 j hj
  · rw [va_same, h4]; exact m_un env.2.2 ho r
theorem GQ_not {m : List (Nat × Nat)} {N : Nat} {v : Den} (G : GQ m N v) (rg : quD v) : GQ (m ++ [(20, 0)]) N (fun nm ld => uZ ld 20 (v nm ld)) := by
  intro t cb a hm nm ld nmI ldl env n tr vals tru hn ht
  rw [ab_1] at hn ht ⊢
  rw [List.length_append, List.length_singleton] at hn ht ⊢
  obtain ⟨vals1, tru1, h1, h2, h3, h4⟩ := G t cb a (atM_l hm) nm ld nmI ldl env n tr vals tru (by rw [ab_1]; omega) (by rw [ab_1]; omega)
  rw [ab_1] at h1
  have e := atM_1 (atM_r hm)
  refine ⟨vals1, va_up tru1 tr (if tru1 tr = 0 then 1 else 0), mvr_app h1 (mvr_1 (mvs_not e.1 (by omega))), h2, fun j hj => ?_, ?_⟩
  · rw [va_ne _ _ (by omega)]; exact h3 j hj
  · have e : uZ ld 20 (v nm ld) = if v nm ld = 0 then 1 else 0 := by unfold uZ; rw [if_neg (by decide), if_neg (by decide), if_neg (by decide)]
    show _ = zI (uZ ld 20 (v nm ld))
    rw [va_same, h4, e]
    rcases rg nm ld env.1 with r | r <;> rw [r] <;> decide +kernel
theorem GV_ari {m1 m2 : List (Nat × Nat)} {N : Nat} {v1 v2 : Den} (G1 : GV m1 N v1) (G2 : GV m2 N v2) (r1 : rgD v1) (r2 : rgD v2) {op : Nat} (ho : 6 ≤ op ∧ op ≤ 9) : GV (m1 ++ m2 ++ [(op, 0)]) N (fun nm ld => bZ op (v1 nm ld) (v2 nm ld)) := by
  intro t cb a hm nm ld nmI ldl env n tr vals tru hn ht
  rw [ab_1] at hn ht ⊢
  rw [List.length_append, List.length_append, List.length_singleton] at hn ht ⊢
  obtain ⟨vals1, tru1, h1, h2, h3, h4⟩ := G1 t cb a (atM_l (atM_l hm)) nm ld nmI ldl env n tr vals tru (by rw [ab_1]; omega) (by rw [ab_1]; omega)
  rw [ab_1] at h1
  have l1 : 1 ≤ m1.length := by
    cases m1 with
    | nil => cases h1
    | cons x y => exact Nat.succ_le_succ (Nat.zero_le _)
  obtain ⟨vals2, tru2, q1, q2, q3, q4⟩ := G2 t cb (a + m1.length) (atM_r (atM_l hm)) nm ld nmI ldl env (n + 1) tr vals1 tru1 (by rw [ab_1]; omega) (by rw [ab_1]; omega)
  rw [ab_1] at q1
  have e := atM_1 (atM_r hm)
  rw [List.length_append, ← Nat.add_assoc] at e
  rw [show a + (m1.length + m2.length + 1) = a + m1.length + m2.length + 1 by omega]
  refine ⟨va_up vals2 n (mTwoF (nI op) (vals2 n) (vals2 (n + 1))), tru2, mvr_app (mvr_app h1 q1) (mvr_1 (mvs_ari ho.1 ho.2 e.1 (by omega))), fun j hj => ?_, fun j hj => ?_, ?_⟩
  · rw [va_ne _ _ (by omega), q2 j (by omega), h2 j hj]
  · rw [q3 j hj, h3 j hj]
  · rw [va_same, q4, q2 n (by omega), h4]; exact m_ari ho (r1 nm ld env.1) (r2 nm ld env.1)
theorem GQ_cmp {m1 m2 : List (Nat × Nat)} {N : Nat} {v1 v2 : Den} (G1 : GV m1 N v1) (G2 : GV m2 N v2) (r1 : rgD v1) (r2 : rgD v2) {op : Nat} (ho : 10 ≤ op ∧ op ≤ 15) : GQ (m1 ++ m2 ++ [(op, 0)]) N (fun nm ld => bZ op (v1 nm ld) (v2 nm ld)) := by
  intro t cb a hm nm ld nmI ldl env n tr vals tru hn ht
  rw [ab_1] at hn ht ⊢
  rw [List.length_append, List.length_append, List.length_singleton] at hn ht ⊢
  obtain ⟨vals1, tru1, h1, h2, h3, h4⟩ := G1 t cb a (atM_l (atM_l hm)) nm ld nmI ldl env n tr vals tru (by rw [ab_1]; omega) (by rw [ab_1]; omega)
  rw [ab_1] at h1
  have l1 : 1 ≤ m1.length := by
    cases m1 with
    | nil => cases h1
    | cons x y => exact Nat.succ_le_succ (Nat.zero_le _)
  obtain ⟨vals2, tru2, q1, q2, q3, q4⟩ := G2 t cb (a + m1.length) (atM_r (atM_l hm)) nm ld nmI ldl env (n + 1) tr vals1 tru1 (by rw [ab_1]; omega) (by rw [ab_1]; omega)
  rw [ab_1] at q1
  have e := atM_1 (atM_r hm)
  rw [List.length_append, ← Nat.add_assoc] at e
  rw [show a + (m1.length + m2.length + 1) = a + m1.length + m2.length + 1 by omega]
  refine ⟨vals2, va_up tru2 tr (mAskF (nI op) (vals2 n) (vals2 (n + 1))), mvr_app (mvr_app h1 q1) (mvr_1 (mvs_cmp ho.1 ho.2 e.1 (by omega) (by omega))), fun j hj => ?_, fun j hj => ?_, ?_⟩
  · rw [q2 j (by omega), h2 j hj]
  · rw [va_ne _ _ (by omega), q3 j hj, h3 j hj]
  · rw [va_same, q4, q2 n (by omega), h4]; exact m_cmp ho (r1 nm ld env.1) (r2 nm ld env.1)
theorem GQ_join {m1 m2 : List (Nat × Nat)} {N : Nat} {v1 v2 : Den} (G1 : GQ m1 N v1) (G2 : GQ m2 N v2) (r1 : quD v1) (r2 : quD v2) {op : Nat} (ho : op = 21 ∨ op = 22) : GQ (m1 ++ m2 ++ [(op, 0)]) N (fun nm ld => bZ op (v1 nm ld) (v2 nm ld)) := by
  intro t cb a hm nm ld nmI ldl env n tr vals tru hn ht
  rw [ab_1] at hn ht ⊢
  rw [List.length_append, List.length_append, List.length_singleton] at hn ht ⊢
  obtain ⟨vals1, tru1, h1, h2, h3, h4⟩ := G1 t cb a (atM_l (atM_l hm)) nm ld nmI ldl env n tr vals tru (by rw [ab_1]; omega) (by rw [ab_1]; omega)
  rw [ab_1] at h1
  have l1 : 1 ≤ m1.length := by
    cases m1 with
    | nil => cases h1
    | cons x y => exact Nat.succ_le_succ (Nat.zero_le _)
  obtain ⟨vals2, tru2, q1, q2, q3, q4⟩ := G2 t cb (a + m1.length) (atM_r (atM_l hm)) nm ld nmI ldl env n (tr + 1) vals1 tru1 (by rw [ab_1]; omega) (by rw [ab_1]; omega)
  rw [ab_1] at q1
  have e := atM_1 (atM_r hm)
  rw [List.length_append, ← Nat.add_assoc] at e
  rw [show a + (m1.length + m2.length + 1) = a + m1.length + m2.length + 1 by omega]
  refine ⟨vals2, va_up tru2 tr (mJoinF (nI op) (tru2 tr) (tru2 (tr + 1))), mvr_app (mvr_app h1 q1) (mvr_1 (mvs_join ho e.1 (by omega))), fun j hj => ?_, fun j hj => ?_, ?_⟩
  · rw [q2 j (by omega), h2 j hj]
  · rw [va_ne _ _ (by omega), q3 j (by omega), h3 j hj]
  · rw [va_same, q4, q3 tr (by omega), h4]; exact m_join ho (r1 nm ld env.1) (r2 nm ld env.1)
theorem GV_ite {m1 m2 m3 : List (Nat × Nat)} {N : Nat} {v1 v2 v3 : Den} (G1 : GQ m1 N v1) (G2 : GV m2 N v2) (G3 : GV m3 N v3) (r1 : quD v1) : GV (m1 ++ m2 ++ m3 ++ [(3, 0)]) N (fun nm ld => if v1 nm ld = 0 then v3 nm ld else v2 nm ld) := by
  intro t cb a hm nm ld nmI ldl env n tr vals tru hn ht
  rw [ab_1] at hn ht ⊢
  rw [List.length_append, List.length_append, List.length_append, List.length_singleton] at hn ht ⊢
  obtain ⟨vals1, tru1, h1, h2, h3, h4⟩ := G1 t cb a (atM_l (atM_l (atM_l hm))) nm ld nmI ldl env n tr vals tru (by rw [ab_1]; omega) (by rw [ab_1]; omega)
  rw [ab_1] at h1
  have l1 : 1 ≤ m1.length := by
    cases m1 with
    | nil => cases h1
    | cons x y => exact Nat.succ_le_succ (Nat.zero_le _)
  obtain ⟨vals2, tru2, q1, q2, q3, q4⟩ := G2 t cb (a + m1.length) (atM_r (atM_l (atM_l hm))) nm ld nmI ldl env n (tr + 1) vals1 tru1 (by rw [ab_1]; omega) (by rw [ab_1]; omega)
  rw [ab_1] at q1
  have l2 : 1 ≤ m2.length := by
    cases m2 with
    | nil => cases q1
    | cons x y => exact Nat.succ_le_succ (Nat.zero_le _)
  have a3 := atM_r (atM_l hm)
  rw [List.length_append, ← Nat.add_assoc] at a3
  obtain ⟨vals3, tru3, s1, s2, s3, s4⟩ := G3 t cb (a + m1.length + m2.length) a3 nm ld nmI ldl env (n + 1) (tr + 1) vals2 tru2 (by rw [ab_1]; omega) (by rw [ab_1]; omega)
  rw [ab_1] at s1
  have e := atM_1 (atM_r hm)
  rw [List.length_append, List.length_append, ← Nat.add_assoc, ← Nat.add_assoc] at e
  have st := mvr_1 (mvs_sel (nm := nmI) (ld := ldl) (vals := vals3) (tru := tru3) (n := n) (tr := tr) e.1 (by omega) (by omega))
  have e0 : (0 : Int32) = zI 0 := by decide +kernel
  have et : tru3 tr = zI (v1 nm ld) := by rw [s3 tr (by omega), q3 tr (by omega), h4]
  rw [show a + (m1.length + m2.length + m3.length + 1) = a + m1.length + m2.length + m3.length + 1 by omega]
  refine ⟨_, tru3, mvr_app (mvr_app (mvr_app h1 q1) s1) st, fun j hj => ?_, fun j hj => ?_, ?_⟩
  · split
    · rw [va_ne _ _ (by omega), s2 j (by omega), q2 j (by omega), h2 j hj]
    · rw [s2 j (by omega), q2 j (by omega), h2 j hj]
  · rw [s3 j (by omega), q3 j (by omega), h3 j hj]
  · simp only
    rw [et]
    rcases r1 nm ld env.1 with z | z
    · rw [z, if_pos (show zI 0 = 0 from e0.symm), if_pos rfl, va_same, s4]
    · rw [z, if_neg (by decide +kernel), if_neg (by decide), s2 n (by omega), q4]
/-- a part of a sum in both codes: a value, or a question -/
def GX (ty : Bool) (N need n : Nat) (k : Nat → Nat → Nat) (m : List (Nat × Nat)) (v : Den) : Prop := GC n k need v ∧ 1 ≤ n ∧ (if ty = true then GQ m N v ∧ quD v else GV m N v ∧ rgD v)
theorem GX_mono {ty : Bool} {N need need' n : Nat} {k : Nat → Nat → Nat} {m : List (Nat × Nat)} {v : Den} (G : GX ty N need n k m v) (h : need ≤ need') : GX ty N need' n k m v := ⟨GC_mono G.1 h, G.2⟩
theorem GX_num {w N : Nat} (hw : w ≤ 9999) : GX false N 1 1 (fun _ _ => w * 32) [(0, w)] (fun _ _ => (w : Int)) := ⟨GC_num hw, Nat.le_refl _, GV_num hw, fun _ _ _ => by show -1000000 ≤ (w : Int) ∧ (w : Int) ≤ 1000000; omega⟩
theorem GX_nam {w N : Nat} (hw : w < N) (hN : N ≤ 7) : GX false N 1 1 (fun _ _ => w * 32 + 1) [(1, w)] (fun nm _ => nm w) := ⟨GC_nam (by omega), Nat.le_refl _, GV_nam hw hN, fun _ _ e => e.1 w⟩
theorem GX_un {N need n op : Nat} {k : Nat → Nat → Nat} {m : List (Nat × Nat)} {v : Den} (G : GX false N need n k m v) (ho : op = 5 ∨ op = 4 ∨ op = 2) : GX false N need (n + 1) (sq1 n k (uC op)) (m ++ [(op, 0)]) (fun nm ld => uZ ld op (v nm ld)) :=
  ⟨GC_un G.1 G.2.2.2 (by omega), by omega, GV_un G.2.2.1 G.2.2.2 ho, fun nm ld e => uZ_bd e.2 (G.2.2.2 nm ld e)⟩
theorem GX_not {N need n : Nat} {k : Nat → Nat → Nat} {m : List (Nat × Nat)} {v : Den} (G : GX true N need n k m v) : GX true N need (n + 1) (sq1 n k (uC 20)) (m ++ [(20, 0)]) (fun nm ld => uZ ld 20 (v nm ld)) :=
  ⟨GC_un G.1 (qu_rg G.2.2.2) (by omega), by omega, GQ_not G.2.2.1 G.2.2.2, fun nm ld e => by
    have e : uZ ld 20 (v nm ld) = if v nm ld = 0 then 1 else 0 := by unfold uZ; rw [if_neg (by decide), if_neg (by decide), if_neg (by decide)]
    show uZ ld 20 (v nm ld) = 0 ∨ uZ ld 20 (v nm ld) = 1
    rw [e]
    split
    · exact Or.inr rfl
    · exact Or.inl rfl⟩
theorem GX_ari {N need n1 n2 op : Nat} {k1 k2 : Nat → Nat → Nat} {m1 m2 : List (Nat × Nat)} {v1 v2 : Den} (G1 : GX false N (need + 1) n1 k1 m1 v1) (G2 : GX false N need n2 k2 m2 v2) (ho : 6 ≤ op ∧ op ≤ 9) : GX false N (need + 1) (n1 + n2 + 1) (sq2 n1 k1 n2 k2 (bC op)) (m1 ++ m2 ++ [(op, 0)]) (fun nm ld => bZ op (v1 nm ld) (v2 nm ld)) :=
  ⟨GC_bi G1.1 G2.1 (Or.inl ⟨by omega, by omega, G1.2.2.2, G2.2.2.2⟩), by omega, GV_ari G1.2.2.1 G2.2.2.1 G1.2.2.2 G2.2.2.2 ho, fun nm ld e => bZ_bd op⟩
theorem GX_cmp {N need n1 n2 op : Nat} {k1 k2 : Nat → Nat → Nat} {m1 m2 : List (Nat × Nat)} {v1 v2 : Den} (G1 : GX false N (need + 1) n1 k1 m1 v1) (G2 : GX false N need n2 k2 m2 v2) (ho : 10 ≤ op ∧ op ≤ 15) : GX true N (need + 1) (n1 + n2 + 1) (sq2 n1 k1 n2 k2 (bC op)) (m1 ++ m2 ++ [(op, 0)]) (fun nm ld => bZ op (v1 nm ld) (v2 nm ld)) :=
  ⟨GC_bi G1.1 G2.1 (Or.inl ⟨by omega, by omega, G1.2.2.2, G2.2.2.2⟩), by omega, GQ_cmp G1.2.2.1 G2.2.2.1 G1.2.2.2 G2.2.2.2 ho, fun nm ld e => b01 op ho.1 _ _⟩
theorem GX_join {N need n1 n2 op : Nat} {k1 k2 : Nat → Nat → Nat} {m1 m2 : List (Nat × Nat)} {v1 v2 : Den} (G1 : GX true N (need + 1) n1 k1 m1 v1) (G2 : GX true N need n2 k2 m2 v2) (ho : op = 21 ∨ op = 22) : GX true N (need + 1) (n1 + n2 + 1) (sq2 n1 k1 n2 k2 (bC op)) (m1 ++ m2 ++ [(op, 0)]) (fun nm ld => bZ op (v1 nm ld) (v2 nm ld)) :=
  ⟨GC_bi G1.1 G2.1 (Or.inr ⟨ho, G1.2.2.2, G2.2.2.2⟩), by omega, GQ_join G1.2.2.1 G2.2.2.1 G1.2.2.2 G2.2.2.2 ho, fun nm ld e => b01 op (by omega) _ _⟩
theorem GX_ite {N need n1 n2 n3 : Nat} {k1 k2 k3 : Nat → Nat → Nat} {m1 m2 m3 : List (Nat × Nat)} {v1 v2 v3 : Den} (G1 : GX true N need n1 k1 m1 v1) (G2 : GX false N need n2 k2 m2 v2) (G3 : GX false N need n3 k3 m3 v3) : GX false N need (n1 + n2 + n3 + 2) (sqI n1 k1 n2 k2 n3 k3) (m1 ++ m2 ++ m3 ++ [(3, 0)]) (fun nm ld => if v1 nm ld = 0 then v3 nm ld else v2 nm ld) :=
  ⟨GC_ite G1.1 G2.1 G3.1 G3.2.1 (qu_rg G1.2.2.2), by omega, GV_ite G1.2.2.1 G2.2.2.1 G3.2.2.1 G1.2.2.2, fun nm ld e => by
    show rgZ (if v1 nm ld = 0 then v3 nm ld else v2 nm ld)
    split
    · exact G3.2.2.2 nm ld e
    · exact G2.2.2.2 nm ld e⟩
