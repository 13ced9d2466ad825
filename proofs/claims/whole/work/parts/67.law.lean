--deps:19.lay 21.facts 22.00.names 22.01.eq 22.02.eq 22.03.eq 22.04.eq 22.05.eq 22.06.eq 22.07.eq 22.08.eq 22.09.eq 22.10.eq 22.11.eq 22.12.eq 22.13.eq 22.14.eq 22.15.eq 22.16.eq 22.17.eq 22.18.eq 22.19.eq 22.20.eq 22.21.eq 22.22.eq 22.23.eq 23.num 24.town 25.evc 26.evm 27.law 28.says 29.inv 30.api1 31.copy 32.api2 33.api3 34.api4 35.api5 36.deeds 37.hours 38.mdeeds 39.mhours 40.hist 41.full 42.acts 43.acts2 44.played 45.undo 46.trial 47.sets 48.sets2 49.image 50.ask 51.swap 52.level 53.crowd 54.crowd2 55.crowd3 56.share 57.hands 58.paid 59.paid2 60.bfs 61.seek 62.explore 63.where 64.errands 65.errands2 66.script
/-! THE LAW, call by call -/
set_option linter.unusedSectionVars false
theorem SF {xs : Nat → Int32} {n i : Nat} {h : MH} (s : sk xs n h) (hi : 6 * i + 6 ≤ n) (hn : n ≤ 384) : (kd h 8 = 11) = True ∧ (kd h 67 = 12) = True ∧ ((((kd h 1 = 20 ∨ kd h 1 = 24) ∧ ib (nI (6 * i) + 1) (ln h 1)) = True ∧ gI h 1 (ix (nI (6 * i) + 1)) = xs (6 * i + 1)) ∧ (((kd h 1 = 20 ∨ kd h 1 = 24) ∧ ib (nI (6 * i) + 2) (ln h 1)) = True ∧ gI h 1 (ix (nI (6 * i) + 2)) = xs (6 * i + 2)) ∧ (((kd h 1 = 20 ∨ kd h 1 = 24) ∧ ib (nI (6 * i) + 3) (ln h 1)) = True ∧ gI h 1 (ix (nI (6 * i) + 3)) = xs (6 * i + 3)) ∧ (((kd h 1 = 20 ∨ kd h 1 = 24) ∧ ib (nI (6 * i) + 4) (ln h 1)) = True ∧ gI h 1 (ix (nI (6 * i) + 4)) = xs (6 * i + 4)) ∧ (((kd h 1 = 20 ∨ kd h 1 = 24) ∧ ib (nI (6 * i) + 5) (ln h 1)) = True ∧ gI h 1 (ix (nI (6 * i) + 5)) = xs (6 * i + 5))) := by
  have k1 : kd h 1 = 24 := s.1.2.1 1 (by decide)
  have key : ∀ j, j < 6 → ((kd h 1 = 20 ∨ kd h 1 = 24) ∧ ib (nI (6 * i + j)) (ln h 1)) = True ∧ gI h 1 (ix (nI (6 * i + j))) = xs (6 * i + j) := by
    intro j hj
    refine ⟨eq_true ⟨Or.inr k1, ?_⟩, ?_⟩
    · rw [s.2.1]; exact ib_nI (by omega) (by omega)
    · rw [s.2.2.1, ix_nI (by omega)]
  refine ⟨eq_true (s.1.2.1 8 (by decide)), eq_true (s.1.2.1 67 (by decide)), ?_, ?_, ?_, ?_, ?_⟩
  · exact (nIb (6 * i) 1).symm ▸ key 1 (by omega)
  · exact (nIb (6 * i) 2).symm ▸ key 2 (by omega)
  · exact (nIb (6 * i) 3).symm ▸ key 3 (by omega)
  · exact (nIb (6 * i) 4).symm ▸ key 4 (by omega)
  · exact (nIb (6 * i) 5).symm ▸ key 5 (by omega)
theorem lg_refl (x : Int64) : lg_cmp x x = 0 := by
  unfold lg_cmp
  rw [if_neg (Int64.lt_irrefl (a := x)), if_pos rfl]
def LCG (c n : Nat) (xs : Nat → Int32) (i d k : Nat) (h : MH) : Prop := ∃ h', mX (mE mtab (d + 13)) KL_law k [some (.ref 1), some (.ref 8), some (.ref 67), some (.int (nI (6 * i)))] [] h = mX (mE mtab (d + 13)) KL_law 1008 [some (.ref 1), some (.ref 8), some (.ref 67), some (.int (nI (6 * i)))] [] h' ∧ INV c h' ∧ sk xs n h'
def TXT (d : Nat) : Prop := ∀ c h xs n, c < 64 → INV c h → sk xs n h → ∃ v h1 h2, F_X10_text (d + 13) h = some (.int v, h1) ∧ F_X11_text (d + 13) h1 = some (.int v, h2) ∧ INV (c + 1) h2 ∧ sk xs n h1
theorem INV_up {c : Nat} {h : MH} (I : INV c h) : INV (c + 1) h := by
  obtain ⟨a, b, e, r1, r2⟩ := I
  exact ⟨a, b, e, by omega, by omega⟩
theorem LC_22 {c n i : Nat} {xs : Nat → Int32} {h : MH} (I : INV c h) (s : sk xs n h) (hi : 6 * i + 6 ≤ n) (hn : n ≤ 384) (d : Nat) : LCG c n xs i d 22 h := by
  obtain ⟨v, h1, h2, e1, e2, I2⟩ := A_person I (d + 10) (xs (6 * i + 1)) (xs (6 * i + 2))
  have e1' : mE mtab (d + 13) 13 [.ref 8, .int (xs (6 * i + 1)), .int (xs (6 * i + 2))] h = some (.int v, h1) := e1
  have e2' : mE mtab (d + 13) 16 [.ref 67, .int (xs (6 * i + 1)), .int (xs (6 * i + 2))] h1 = some (.int v, h2) := e2
  have s1 := sk_callm (d + 13) _ _ _ _ _ rfl e1' s
  have s2 := sk_callm (d + 13) _ _ _ _ _ rfl e2' s1
  obtain ⟨p8, p67, ⟨p1, q1⟩, ⟨p2, q2⟩, ⟨p3, q3⟩, ⟨p4, q4⟩, ⟨p5, q5⟩⟩ := SF s hi hn
  obtain ⟨r8, r67, ⟨r1, t1⟩, ⟨r2, t2⟩, ⟨r3, t3⟩, ⟨r4, t4⟩, ⟨r5, t5⟩⟩ := SF s1 hi hn
  refine ⟨h2, ?_, I2, s2⟩
  simp only [D_L_law_22, p8, p67, p1, p2, p3, p4, p5, q1, q2, q3, q4, q5, r8, r67, r1, r2, r3, r4, r5, t1, t2, t3, t4, t5, ck_true, cI_some, cL_some, e1', e2', lg_refl, if_true, if_false]
theorem LC_49 {c n i : Nat} {xs : Nat → Int32} {h : MH} (I : INV c h) (s : sk xs n h) (hi : 6 * i + 6 ≤ n) (hn : n ≤ 384) (d : Nat) : LCG c n xs i d 49 h := by
  obtain ⟨v, h1, h2, e1, e2, I2⟩ := A_goal I (d + 9) (xs (6 * i + 1)) (xs (6 * i + 2))
  have e1' : mE mtab (d + 13) 19 [.ref 8, .int (xs (6 * i + 1)), .int (xs (6 * i + 2))] h = some (.int v, h1) := e1
  have e2' : mE mtab (d + 13) 21 [.ref 67, .int (xs (6 * i + 1)), .int (xs (6 * i + 2))] h1 = some (.int v, h2) := e2
  have s1 := sk_callm (d + 13) _ _ _ _ _ rfl e1' s
  have s2 := sk_callm (d + 13) _ _ _ _ _ rfl e2' s1
  obtain ⟨p8, p67, ⟨p1, q1⟩, ⟨p2, q2⟩, ⟨p3, q3⟩, ⟨p4, q4⟩, ⟨p5, q5⟩⟩ := SF s hi hn
  obtain ⟨r8, r67, ⟨r1, t1⟩, ⟨r2, t2⟩, ⟨r3, t3⟩, ⟨r4, t4⟩, ⟨r5, t5⟩⟩ := SF s1 hi hn
  refine ⟨h2, ?_, I2, s2⟩
  simp only [D_L_law_49, p8, p67, p1, p2, p3, p4, p5, q1, q2, q3, q4, q5, r8, r67, r1, r2, r3, r4, r5, t1, t2, t3, t4, t5, ck_true, cI_some, cL_some, e1', e2', lg_refl, if_true, if_false]
theorem LC_76 {c n i : Nat} {xs : Nat → Int32} {h : MH} (I : INV c h) (s : sk xs n h) (hi : 6 * i + 6 ≤ n) (hn : n ≤ 384) (d : Nat) : LCG c n xs i d 76 h := by
  obtain ⟨v, h1, h2, e1, e2, I2⟩ := A_hand I (d + 11) (xs (6 * i + 1)) (xs (6 * i + 2))
  have e1' : mE mtab (d + 13) 23 [.ref 8, .int (xs (6 * i + 1)), .int (xs (6 * i + 2))] h = some (.int v, h1) := e1
  have e2' : mE mtab (d + 13) 24 [.ref 67, .int (xs (6 * i + 1)), .int (xs (6 * i + 2))] h1 = some (.int v, h2) := e2
  have s1 := sk_callm (d + 13) _ _ _ _ _ rfl e1' s
  have s2 := sk_callm (d + 13) _ _ _ _ _ rfl e2' s1
  obtain ⟨p8, p67, ⟨p1, q1⟩, ⟨p2, q2⟩, ⟨p3, q3⟩, ⟨p4, q4⟩, ⟨p5, q5⟩⟩ := SF s hi hn
  obtain ⟨r8, r67, ⟨r1, t1⟩, ⟨r2, t2⟩, ⟨r3, t3⟩, ⟨r4, t4⟩, ⟨r5, t5⟩⟩ := SF s1 hi hn
  refine ⟨h2, ?_, I2, s2⟩
  simp only [D_L_law_76, p8, p67, p1, p2, p3, p4, p5, q1, q2, q3, q4, q5, r8, r67, r1, r2, r3, r4, r5, t1, t2, t3, t4, t5, ck_true, cI_some, cL_some, e1', e2', lg_refl, if_true, if_false]
theorem LC_103 {c n i : Nat} {xs : Nat → Int32} {h : MH} (I : INV c h) (s : sk xs n h) (hi : 6 * i + 6 ≤ n) (hn : n ≤ 384) (d : Nat) : LCG c n xs i d 103 h := by
  obtain ⟨v, h1, h2, e1, e2, I2⟩ := A_feed I (d + 11) (xs (6 * i + 1)) (xs (6 * i + 2)) (xs (6 * i + 3)) (xs (6 * i + 4)) (xs (6 * i + 5))
  have e1' : mE mtab (d + 13) 26 [.ref 8, .int (xs (6 * i + 1)), .int (xs (6 * i + 2)), .int (xs (6 * i + 3)), .int (xs (6 * i + 4)), .int (xs (6 * i + 5))] h = some (.int v, h1) := e1
  have e2' : mE mtab (d + 13) 28 [.ref 67, .int (xs (6 * i + 1)), .int (xs (6 * i + 2)), .int (xs (6 * i + 3)), .int (xs (6 * i + 4)), .int (xs (6 * i + 5))] h1 = some (.int v, h2) := e2
  have s1 := sk_callm (d + 13) _ _ _ _ _ rfl e1' s
  have s2 := sk_callm (d + 13) _ _ _ _ _ rfl e2' s1
  obtain ⟨p8, p67, ⟨p1, q1⟩, ⟨p2, q2⟩, ⟨p3, q3⟩, ⟨p4, q4⟩, ⟨p5, q5⟩⟩ := SF s hi hn
  obtain ⟨r8, r67, ⟨r1, t1⟩, ⟨r2, t2⟩, ⟨r3, t3⟩, ⟨r4, t4⟩, ⟨r5, t5⟩⟩ := SF s1 hi hn
  refine ⟨h2, ?_, I2, s2⟩
  simp only [D_L_law_103, p8, p67, p1, p2, p3, p4, p5, q1, q2, q3, q4, q5, r8, r67, r1, r2, r3, r4, r5, t1, t2, t3, t4, t5, ck_true, cI_some, cL_some, e1', e2', lg_refl, if_true, if_false]
theorem LC_160 {c n i : Nat} {xs : Nat → Int32} {h : MH} (I : INV c h) (s : sk xs n h) (hi : 6 * i + 6 ≤ n) (hn : n ≤ 384) (d : Nat) : LCG c n xs i d 160 h := by
  obtain ⟨v, h1, h2, e1, e2, I2⟩ := A_end I (d + 11) (xs (6 * i + 1))
  have e1' : mE mtab (d + 13) 29 [.ref 8, .int (xs (6 * i + 1))] h = some (.int v, h1) := e1
  have e2' : mE mtab (d + 13) 30 [.ref 67, .int (xs (6 * i + 1))] h1 = some (.int v, h2) := e2
  have s1 := sk_callm (d + 13) _ _ _ _ _ rfl e1' s
  have s2 := sk_callm (d + 13) _ _ _ _ _ rfl e2' s1
  obtain ⟨p8, p67, ⟨p1, q1⟩, ⟨p2, q2⟩, ⟨p3, q3⟩, ⟨p4, q4⟩, ⟨p5, q5⟩⟩ := SF s hi hn
  obtain ⟨r8, r67, ⟨r1, t1⟩, ⟨r2, t2⟩, ⟨r3, t3⟩, ⟨r4, t4⟩, ⟨r5, t5⟩⟩ := SF s1 hi hn
  refine ⟨h2, ?_, I2, s2⟩
  simp only [D_L_law_160, p8, p67, p1, p2, p3, p4, p5, q1, q2, q3, q4, q5, r8, r67, r1, r2, r3, r4, r5, t1, t2, t3, t4, t5, ck_true, cI_some, cL_some, e1', e2', lg_refl, if_true, if_false]
theorem LC_177 {c n i : Nat} {xs : Nat → Int32} {h : MH} (I : INV c h) (s : sk xs n h) (hi : 6 * i + 6 ≤ n) (hn : n ≤ 384) (d : Nat) (hc : c < 64) (T : TXT d) : LCG (c + 1) n xs i d 177 h := by
  obtain ⟨v, h1, h2, e1, e2, I2, s1⟩ := T c h xs n hc I s
  have e1' : mE mtab (d + 13) 95 [.ref 8] h = some (.int v, h1) := e1
  have e2' : mE mtab (d + 13) 130 [.ref 67] h1 = some (.int v, h2) := e2
  have s2 := sk_callm (d + 13) _ _ _ _ _ rfl e2' s1
  obtain ⟨p8, p67, ⟨p1, q1⟩, ⟨p2, q2⟩, ⟨p3, q3⟩, ⟨p4, q4⟩, ⟨p5, q5⟩⟩ := SF s hi hn
  obtain ⟨r8, r67, ⟨r1, t1⟩, ⟨r2, t2⟩, ⟨r3, t3⟩, ⟨r4, t4⟩, ⟨r5, t5⟩⟩ := SF s1 hi hn
  refine ⟨h2, ?_, I2, s2⟩
  simp only [D_L_law_177, p8, p67, p1, p2, p3, p4, p5, q1, q2, q3, q4, q5, r8, r67, r1, r2, r3, r4, r5, t1, t2, t3, t4, t5, ck_true, cI_some, cL_some, e1', e2', lg_refl, if_true, if_false]
theorem LC_184 {c n i : Nat} {xs : Nat → Int32} {h : MH} (I : INV c h) (s : sk xs n h) (hi : 6 * i + 6 ≤ n) (hn : n ≤ 384) (d : Nat) : LCG c n xs i d 184 h := by
  obtain ⟨v, h1, h2, e1, e2, I2⟩ := A_fault I (d + 12) (xs (6 * i + 1))
  have e1' : mE mtab (d + 13) 131 [.ref 8, .int (xs (6 * i + 1))] h = some (.int v, h1) := e1
  have e2' : mE mtab (d + 13) 132 [.ref 67, .int (xs (6 * i + 1))] h1 = some (.int v, h2) := e2
  have s1 := sk_callm (d + 13) _ _ _ _ _ rfl e1' s
  have s2 := sk_callm (d + 13) _ _ _ _ _ rfl e2' s1
  obtain ⟨p8, p67, ⟨p1, q1⟩, ⟨p2, q2⟩, ⟨p3, q3⟩, ⟨p4, q4⟩, ⟨p5, q5⟩⟩ := SF s hi hn
  obtain ⟨r8, r67, ⟨r1, t1⟩, ⟨r2, t2⟩, ⟨r3, t3⟩, ⟨r4, t4⟩, ⟨r5, t5⟩⟩ := SF s1 hi hn
  refine ⟨h2, ?_, I2, s2⟩
  simp only [D_L_law_184, p8, p67, p1, p2, p3, p4, p5, q1, q2, q3, q4, q5, r8, r67, r1, r2, r3, r4, r5, t1, t2, t3, t4, t5, ck_true, cI_some, cL_some, e1', e2', lg_refl, if_true, if_false]
theorem LC_201 {c n i : Nat} {xs : Nat → Int32} {h : MH} (I : INV c h) (s : sk xs n h) (hi : 6 * i + 6 ≤ n) (hn : n ≤ 384) (d : Nat) : LCG c n xs i d 201 h := by
  obtain ⟨v, h1, h2, e1, e2, I2⟩ := A_by I (d + 9) (xs (6 * i + 1))
  have e1' : mE mtab (d + 13) 135 [.ref 8, .int (xs (6 * i + 1))] h = some (.int v, h1) := e1
  have e2' : mE mtab (d + 13) 136 [.ref 67, .int (xs (6 * i + 1))] h1 = some (.int v, h2) := e2
  have s1 := sk_callm (d + 13) _ _ _ _ _ rfl e1' s
  have s2 := sk_callm (d + 13) _ _ _ _ _ rfl e2' s1
  obtain ⟨p8, p67, ⟨p1, q1⟩, ⟨p2, q2⟩, ⟨p3, q3⟩, ⟨p4, q4⟩, ⟨p5, q5⟩⟩ := SF s hi hn
  obtain ⟨r8, r67, ⟨r1, t1⟩, ⟨r2, t2⟩, ⟨r3, t3⟩, ⟨r4, t4⟩, ⟨r5, t5⟩⟩ := SF s1 hi hn
  refine ⟨h2, ?_, I2, s2⟩
  simp only [D_L_law_201, p8, p67, p1, p2, p3, p4, p5, q1, q2, q3, q4, q5, r8, r67, r1, r2, r3, r4, r5, t1, t2, t3, t4, t5, ck_true, cI_some, cL_some, e1', e2', lg_refl, if_true, if_false]
theorem LC_218 {c n i : Nat} {xs : Nat → Int32} {h : MH} (I : INV c h) (s : sk xs n h) (hi : 6 * i + 6 ≤ n) (hn : n ≤ 384) (d : Nat) : LCG c n xs i d 218 h := by
  by_cases b2 : xs (6 * i + 2) = 0
  · have bb2 := b2
    obtain ⟨v, h1, h2, e1, e2, I2⟩ := A_walk I (d + 1) (xs (6 * i + 1)) 0
    have e1' : mE mtab (d + 13) 150 [.ref 8, .int (xs (6 * i + 1)), .int 0] h = some (.int v, h1) := e1
    have e2' : mE mtab (d + 13) 176 [.ref 67, .int (xs (6 * i + 1)), .int 0] h1 = some (.int v, h2) := e2
    have s1 := sk_callm (d + 13) _ _ _ _ _ rfl e1' s
    have s2 := sk_callm (d + 13) _ _ _ _ _ rfl e2' s1
    obtain ⟨p8, p67, ⟨p1, q1⟩, ⟨p2, q2⟩, ⟨p3, q3⟩, ⟨p4, q4⟩, ⟨p5, q5⟩⟩ := SF s hi hn
    obtain ⟨r8, r67, ⟨r1, t1⟩, ⟨r2, t2⟩, ⟨r3, t3⟩, ⟨r4, t4⟩, ⟨r5, t5⟩⟩ := SF s1 hi hn
    refine ⟨h2, ?_, I2, s2⟩
    simp only [D_L_law_218, D_L_law_233, D_L_law_249, p8, p67, p1, p2, p3, p4, p5, q1, q2, q3, q4, q5, r8, r67, r1, r2, r3, r4, r5, t1, t2, t3, t4, t5, ck_true, cI_some, cL_some, e1', e2', lg_refl, if_true, if_false, bb2]
  · have bb2 := b2
    obtain ⟨v, h1, h2, e1, e2, I2⟩ := A_walk I (d + 1) (xs (6 * i + 1)) 1
    have e1' : mE mtab (d + 13) 150 [.ref 8, .int (xs (6 * i + 1)), .int 1] h = some (.int v, h1) := e1
    have e2' : mE mtab (d + 13) 176 [.ref 67, .int (xs (6 * i + 1)), .int 1] h1 = some (.int v, h2) := e2
    have s1 := sk_callm (d + 13) _ _ _ _ _ rfl e1' s
    have s2 := sk_callm (d + 13) _ _ _ _ _ rfl e2' s1
    obtain ⟨p8, p67, ⟨p1, q1⟩, ⟨p2, q2⟩, ⟨p3, q3⟩, ⟨p4, q4⟩, ⟨p5, q5⟩⟩ := SF s hi hn
    obtain ⟨r8, r67, ⟨r1, t1⟩, ⟨r2, t2⟩, ⟨r3, t3⟩, ⟨r4, t4⟩, ⟨r5, t5⟩⟩ := SF s1 hi hn
    refine ⟨h2, ?_, I2, s2⟩
    simp only [D_L_law_218, D_L_law_233, D_L_law_249, p8, p67, p1, p2, p3, p4, p5, q1, q2, q3, q4, q5, r8, r67, r1, r2, r3, r4, r5, t1, t2, t3, t4, t5, ck_true, cI_some, cL_some, e1', e2', lg_refl, if_true, if_false, bb2]
theorem LC_253 {c n i : Nat} {xs : Nat → Int32} {h : MH} (I : INV c h) (s : sk xs n h) (hi : 6 * i + 6 ≤ n) (hn : n ≤ 384) (d : Nat) : LCG c n xs i d 253 h := by
  by_cases b2 : xs (6 * i + 2) = 0
  · have bb2 := b2
    by_cases b4 : xs (6 * i + 4) = 0
    · have bb4 := b4
      obtain ⟨v, h1, h2, e1, e2, I2⟩ := A_pair I (d + 1) (xs (6 * i + 1)) 0 (xs (6 * i + 3)) 0
      have e1' : mE mtab (d + 13) 179 [.ref 8, .int (xs (6 * i + 1)), .int 0, .int (xs (6 * i + 3)), .int 0] h = some (.int v, h1) := e1
      have e2' : mE mtab (d + 13) 181 [.ref 67, .int (xs (6 * i + 1)), .int 0, .int (xs (6 * i + 3)), .int 0] h1 = some (.int v, h2) := e2
      have s1 := sk_callm (d + 13) _ _ _ _ _ rfl e1' s
      have s2 := sk_callm (d + 13) _ _ _ _ _ rfl e2' s1
      obtain ⟨p8, p67, ⟨p1, q1⟩, ⟨p2, q2⟩, ⟨p3, q3⟩, ⟨p4, q4⟩, ⟨p5, q5⟩⟩ := SF s hi hn
      obtain ⟨r8, r67, ⟨r1, t1⟩, ⟨r2, t2⟩, ⟨r3, t3⟩, ⟨r4, t4⟩, ⟨r5, t5⟩⟩ := SF s1 hi hn
      refine ⟨h2, ?_, I2, s2⟩
      simp only [D_L_law_253, D_L_law_268, D_L_law_282, D_L_law_298, D_L_law_312, p8, p67, p1, p2, p3, p4, p5, q1, q2, q3, q4, q5, r8, r67, r1, r2, r3, r4, r5, t1, t2, t3, t4, t5, ck_true, cI_some, cL_some, e1', e2', lg_refl, if_true, if_false, bb2, bb4]
    · have bb4 := b4
      obtain ⟨v, h1, h2, e1, e2, I2⟩ := A_pair I (d + 1) (xs (6 * i + 1)) 0 (xs (6 * i + 3)) 1
      have e1' : mE mtab (d + 13) 179 [.ref 8, .int (xs (6 * i + 1)), .int 0, .int (xs (6 * i + 3)), .int 1] h = some (.int v, h1) := e1
      have e2' : mE mtab (d + 13) 181 [.ref 67, .int (xs (6 * i + 1)), .int 0, .int (xs (6 * i + 3)), .int 1] h1 = some (.int v, h2) := e2
      have s1 := sk_callm (d + 13) _ _ _ _ _ rfl e1' s
      have s2 := sk_callm (d + 13) _ _ _ _ _ rfl e2' s1
      obtain ⟨p8, p67, ⟨p1, q1⟩, ⟨p2, q2⟩, ⟨p3, q3⟩, ⟨p4, q4⟩, ⟨p5, q5⟩⟩ := SF s hi hn
      obtain ⟨r8, r67, ⟨r1, t1⟩, ⟨r2, t2⟩, ⟨r3, t3⟩, ⟨r4, t4⟩, ⟨r5, t5⟩⟩ := SF s1 hi hn
      refine ⟨h2, ?_, I2, s2⟩
      simp only [D_L_law_253, D_L_law_268, D_L_law_282, D_L_law_298, D_L_law_312, p8, p67, p1, p2, p3, p4, p5, q1, q2, q3, q4, q5, r8, r67, r1, r2, r3, r4, r5, t1, t2, t3, t4, t5, ck_true, cI_some, cL_some, e1', e2', lg_refl, if_true, if_false, bb2, bb4]
  · have bb2 := b2
    by_cases b4 : xs (6 * i + 4) = 0
    · have bb4 := b4
      obtain ⟨v, h1, h2, e1, e2, I2⟩ := A_pair I (d + 1) (xs (6 * i + 1)) 1 (xs (6 * i + 3)) 0
      have e1' : mE mtab (d + 13) 179 [.ref 8, .int (xs (6 * i + 1)), .int 1, .int (xs (6 * i + 3)), .int 0] h = some (.int v, h1) := e1
      have e2' : mE mtab (d + 13) 181 [.ref 67, .int (xs (6 * i + 1)), .int 1, .int (xs (6 * i + 3)), .int 0] h1 = some (.int v, h2) := e2
      have s1 := sk_callm (d + 13) _ _ _ _ _ rfl e1' s
      have s2 := sk_callm (d + 13) _ _ _ _ _ rfl e2' s1
      obtain ⟨p8, p67, ⟨p1, q1⟩, ⟨p2, q2⟩, ⟨p3, q3⟩, ⟨p4, q4⟩, ⟨p5, q5⟩⟩ := SF s hi hn
      obtain ⟨r8, r67, ⟨r1, t1⟩, ⟨r2, t2⟩, ⟨r3, t3⟩, ⟨r4, t4⟩, ⟨r5, t5⟩⟩ := SF s1 hi hn
      refine ⟨h2, ?_, I2, s2⟩
      simp only [D_L_law_253, D_L_law_268, D_L_law_282, D_L_law_298, D_L_law_312, p8, p67, p1, p2, p3, p4, p5, q1, q2, q3, q4, q5, r8, r67, r1, r2, r3, r4, r5, t1, t2, t3, t4, t5, ck_true, cI_some, cL_some, e1', e2', lg_refl, if_true, if_false, bb2, bb4]
    · have bb4 := b4
      obtain ⟨v, h1, h2, e1, e2, I2⟩ := A_pair I (d + 1) (xs (6 * i + 1)) 1 (xs (6 * i + 3)) 1
      have e1' : mE mtab (d + 13) 179 [.ref 8, .int (xs (6 * i + 1)), .int 1, .int (xs (6 * i + 3)), .int 1] h = some (.int v, h1) := e1
      have e2' : mE mtab (d + 13) 181 [.ref 67, .int (xs (6 * i + 1)), .int 1, .int (xs (6 * i + 3)), .int 1] h1 = some (.int v, h2) := e2
      have s1 := sk_callm (d + 13) _ _ _ _ _ rfl e1' s
      have s2 := sk_callm (d + 13) _ _ _ _ _ rfl e2' s1
      obtain ⟨p8, p67, ⟨p1, q1⟩, ⟨p2, q2⟩, ⟨p3, q3⟩, ⟨p4, q4⟩, ⟨p5, q5⟩⟩ := SF s hi hn
      obtain ⟨r8, r67, ⟨r1, t1⟩, ⟨r2, t2⟩, ⟨r3, t3⟩, ⟨r4, t4⟩, ⟨r5, t5⟩⟩ := SF s1 hi hn
      refine ⟨h2, ?_, I2, s2⟩
      simp only [D_L_law_253, D_L_law_268, D_L_law_282, D_L_law_298, D_L_law_312, p8, p67, p1, p2, p3, p4, p5, q1, q2, q3, q4, q5, r8, r67, r1, r2, r3, r4, r5, t1, t2, t3, t4, t5, ck_true, cI_some, cL_some, e1', e2', lg_refl, if_true, if_false, bb2, bb4]
theorem LC_316 {c n i : Nat} {xs : Nat → Int32} {h : MH} (I : INV c h) (s : sk xs n h) (hi : 6 * i + 6 ≤ n) (hn : n ≤ 384) (d : Nat) : LCG c n xs i d 316 h := by
  obtain ⟨v, h1, h2, e1, e2, I2⟩ := A_shovel I (d + 1) (xs (6 * i + 1)) (xs (6 * i + 2))
  have e1' : mE mtab (d + 13) 184 [.ref 8, .int (xs (6 * i + 1)), .int (xs (6 * i + 2))] h = some (.int v, h1) := e1
  have e2' : mE mtab (d + 13) 186 [.ref 67, .int (xs (6 * i + 1)), .int (xs (6 * i + 2))] h1 = some (.int v, h2) := e2
  have s1 := sk_callm (d + 13) _ _ _ _ _ rfl e1' s
  have s2 := sk_callm (d + 13) _ _ _ _ _ rfl e2' s1
  obtain ⟨p8, p67, ⟨p1, q1⟩, ⟨p2, q2⟩, ⟨p3, q3⟩, ⟨p4, q4⟩, ⟨p5, q5⟩⟩ := SF s hi hn
  obtain ⟨r8, r67, ⟨r1, t1⟩, ⟨r2, t2⟩, ⟨r3, t3⟩, ⟨r4, t4⟩, ⟨r5, t5⟩⟩ := SF s1 hi hn
  refine ⟨h2, ?_, I2, s2⟩
  simp only [D_L_law_316, p8, p67, p1, p2, p3, p4, p5, q1, q2, q3, q4, q5, r8, r67, r1, r2, r3, r4, r5, t1, t2, t3, t4, t5, ck_true, cI_some, cL_some, e1', e2', lg_refl, if_true, if_false]
theorem LC_343 {c n i : Nat} {xs : Nat → Int32} {h : MH} (I : INV c h) (s : sk xs n h) (hi : 6 * i + 6 ≤ n) (hn : n ≤ 384) (d : Nat) : LCG c n xs i d 343 h := by
  obtain ⟨v, h1, h2, e1, e2, I2⟩ := A_hour I (d + 1) (xs (6 * i + 1))
  have e1' : mE mtab (d + 13) 193 [.ref 8, .int (xs (6 * i + 1))] h = some (.int v, h1) := e1
  have e2' : mE mtab (d + 13) 201 [.ref 67, .int (xs (6 * i + 1))] h1 = some (.int v, h2) := e2
  have s1 := sk_callm (d + 13) _ _ _ _ _ rfl e1' s
  have s2 := sk_callm (d + 13) _ _ _ _ _ rfl e2' s1
  obtain ⟨p8, p67, ⟨p1, q1⟩, ⟨p2, q2⟩, ⟨p3, q3⟩, ⟨p4, q4⟩, ⟨p5, q5⟩⟩ := SF s hi hn
  obtain ⟨r8, r67, ⟨r1, t1⟩, ⟨r2, t2⟩, ⟨r3, t3⟩, ⟨r4, t4⟩, ⟨r5, t5⟩⟩ := SF s1 hi hn
  refine ⟨h2, ?_, I2, s2⟩
  simp only [D_L_law_343, p8, p67, p1, p2, p3, p4, p5, q1, q2, q3, q4, q5, r8, r67, r1, r2, r3, r4, r5, t1, t2, t3, t4, t5, ck_true, cI_some, cL_some, e1', e2', lg_refl, if_true, if_false]
theorem LC_360 {c n i : Nat} {xs : Nat → Int32} {h : MH} (I : INV c h) (s : sk xs n h) (hi : 6 * i + 6 ≤ n) (hn : n ≤ 384) (d : Nat) : LCG c n xs i d 360 h := by
  obtain ⟨v, h1, h2, e1, e2, I2⟩ := A_played I (d + 0) (xs (6 * i + 1))
  have e1' : mE mtab (d + 13) 203 [.ref 8, .int (xs (6 * i + 1))] h = some (.int v, h1) := e1
  have e2' : mE mtab (d + 13) 205 [.ref 67, .int (xs (6 * i + 1))] h1 = some (.int v, h2) := e2
  have s1 := sk_callm (d + 13) _ _ _ _ _ rfl e1' s
  have s2 := sk_callm (d + 13) _ _ _ _ _ rfl e2' s1
  obtain ⟨p8, p67, ⟨p1, q1⟩, ⟨p2, q2⟩, ⟨p3, q3⟩, ⟨p4, q4⟩, ⟨p5, q5⟩⟩ := SF s hi hn
  obtain ⟨r8, r67, ⟨r1, t1⟩, ⟨r2, t2⟩, ⟨r3, t3⟩, ⟨r4, t4⟩, ⟨r5, t5⟩⟩ := SF s1 hi hn
  refine ⟨h2, ?_, I2, s2⟩
  simp only [D_L_law_360, p8, p67, p1, p2, p3, p4, p5, q1, q2, q3, q4, q5, r8, r67, r1, r2, r3, r4, r5, t1, t2, t3, t4, t5, ck_true, cI_some, cL_some, e1', e2', lg_refl, if_true, if_false]
theorem LC_377 {c n i : Nat} {xs : Nat → Int32} {h : MH} (I : INV c h) (s : sk xs n h) (hi : 6 * i + 6 ≤ n) (hn : n ≤ 384) (d : Nat) : LCG c n xs i d 377 h := by
  obtain ⟨v, h1, h2, e1, e2, I2⟩ := A_years I (d + 0) (xs (6 * i + 1)) (xs (6 * i + 2))
  have e1' : mE mtab (d + 13) 207 [.ref 8, .int (xs (6 * i + 1)), .int (xs (6 * i + 2))] h = some (.int v, h1) := e1
  have e2' : mE mtab (d + 13) 209 [.ref 67, .int (xs (6 * i + 1)), .int (xs (6 * i + 2))] h1 = some (.int v, h2) := e2
  have s1 := sk_callm (d + 13) _ _ _ _ _ rfl e1' s
  have s2 := sk_callm (d + 13) _ _ _ _ _ rfl e2' s1
  obtain ⟨p8, p67, ⟨p1, q1⟩, ⟨p2, q2⟩, ⟨p3, q3⟩, ⟨p4, q4⟩, ⟨p5, q5⟩⟩ := SF s hi hn
  obtain ⟨r8, r67, ⟨r1, t1⟩, ⟨r2, t2⟩, ⟨r3, t3⟩, ⟨r4, t4⟩, ⟨r5, t5⟩⟩ := SF s1 hi hn
  refine ⟨h2, ?_, I2, s2⟩
  simp only [D_L_law_377, p8, p67, p1, p2, p3, p4, p5, q1, q2, q3, q4, q5, r8, r67, r1, r2, r3, r4, r5, t1, t2, t3, t4, t5, ck_true, cI_some, cL_some, e1', e2', lg_refl, if_true, if_false]
theorem LC_404 {c n i : Nat} {xs : Nat → Int32} {h : MH} (I : INV c h) (s : sk xs n h) (hi : 6 * i + 6 ≤ n) (hn : n ≤ 384) (d : Nat) : LCG c n xs i d 404 h := by
  obtain ⟨v, h1, h2, e1, e2, I2⟩ := A_undo I (d + 11)
  have e1' : mE mtab (d + 13) 211 [.ref 8] h = some (.int v, h1) := e1
  have e2' : mE mtab (d + 13) 212 [.ref 67] h1 = some (.int v, h2) := e2
  have s1 := sk_callm (d + 13) _ _ _ _ _ rfl e1' s
  have s2 := sk_callm (d + 13) _ _ _ _ _ rfl e2' s1
  obtain ⟨p8, p67, ⟨p1, q1⟩, ⟨p2, q2⟩, ⟨p3, q3⟩, ⟨p4, q4⟩, ⟨p5, q5⟩⟩ := SF s hi hn
  obtain ⟨r8, r67, ⟨r1, t1⟩, ⟨r2, t2⟩, ⟨r3, t3⟩, ⟨r4, t4⟩, ⟨r5, t5⟩⟩ := SF s1 hi hn
  refine ⟨h2, ?_, I2, s2⟩
  simp only [D_L_law_404, p8, p67, p1, p2, p3, p4, p5, q1, q2, q3, q4, q5, r8, r67, r1, r2, r3, r4, r5, t1, t2, t3, t4, t5, ck_true, cI_some, cL_some, e1', e2', lg_refl, if_true, if_false]
theorem LC_411 {c n i : Nat} {xs : Nat → Int32} {h : MH} (I : INV c h) (s : sk xs n h) (hi : 6 * i + 6 ≤ n) (hn : n ≤ 384) (d : Nat) : LCG c n xs i d 411 h := by
  obtain ⟨v, h1, h2, e1, e2, I2⟩ := A_of I (d + 4) (xs (6 * i + 1)) (xs (6 * i + 2))
  have e1' : mE mtab (d + 13) 213 [.ref 8, .int (xs (6 * i + 1)), .int (xs (6 * i + 2))] h = some (.int v, h1) := e1
  have e2' : mE mtab (d + 13) 214 [.ref 67, .int (xs (6 * i + 1)), .int (xs (6 * i + 2))] h1 = some (.int v, h2) := e2
  have s1 := sk_callm (d + 13) _ _ _ _ _ rfl e1' s
  have s2 := sk_callm (d + 13) _ _ _ _ _ rfl e2' s1
  obtain ⟨p8, p67, ⟨p1, q1⟩, ⟨p2, q2⟩, ⟨p3, q3⟩, ⟨p4, q4⟩, ⟨p5, q5⟩⟩ := SF s hi hn
  obtain ⟨r8, r67, ⟨r1, t1⟩, ⟨r2, t2⟩, ⟨r3, t3⟩, ⟨r4, t4⟩, ⟨r5, t5⟩⟩ := SF s1 hi hn
  refine ⟨h2, ?_, I2, s2⟩
  simp only [D_L_law_411, p8, p67, p1, p2, p3, p4, p5, q1, q2, q3, q4, q5, r8, r67, r1, r2, r3, r4, r5, t1, t2, t3, t4, t5, ck_true, cI_some, cL_some, e1', e2', lg_refl, if_true, if_false]
theorem LC_438 {c n i : Nat} {xs : Nat → Int32} {h : MH} (I : INV c h) (s : sk xs n h) (hi : 6 * i + 6 ≤ n) (hn : n ≤ 384) (d : Nat) : LCG c n xs i d 438 h := by
  obtain ⟨v, h1, h2, e1, e2, I2⟩ := A_place I (d + 9) (xs (6 * i + 1)) (xs (6 * i + 2))
  have e1' : mE mtab (d + 13) 216 [.ref 8, .int (xs (6 * i + 1)), .int (xs (6 * i + 2))] h = some (.int v, h1) := e1
  have e2' : mE mtab (d + 13) 217 [.ref 67, .int (xs (6 * i + 1)), .int (xs (6 * i + 2))] h1 = some (.int v, h2) := e2
  have s1 := sk_callm (d + 13) _ _ _ _ _ rfl e1' s
  have s2 := sk_callm (d + 13) _ _ _ _ _ rfl e2' s1
  obtain ⟨p8, p67, ⟨p1, q1⟩, ⟨p2, q2⟩, ⟨p3, q3⟩, ⟨p4, q4⟩, ⟨p5, q5⟩⟩ := SF s hi hn
  obtain ⟨r8, r67, ⟨r1, t1⟩, ⟨r2, t2⟩, ⟨r3, t3⟩, ⟨r4, t4⟩, ⟨r5, t5⟩⟩ := SF s1 hi hn
  refine ⟨h2, ?_, I2, s2⟩
  simp only [D_L_law_438, p8, p67, p1, p2, p3, p4, p5, q1, q2, q3, q4, q5, r8, r67, r1, r2, r3, r4, r5, t1, t2, t3, t4, t5, ck_true, cI_some, cL_some, e1', e2', lg_refl, if_true, if_false]
theorem LC_465 {c n i : Nat} {xs : Nat → Int32} {h : MH} (I : INV c h) (s : sk xs n h) (hi : 6 * i + 6 ≤ n) (hn : n ≤ 384) (d : Nat) : LCG c n xs i d 465 h := by
  obtain ⟨v, h1, h2, e1, e2, I2⟩ := A_is I (d + 4) (xs (6 * i + 1))
  have e1' : mE mtab (d + 13) 219 [.ref 8, .int (xs (6 * i + 1))] h = some (.int v, h1) := e1
  have e2' : mE mtab (d + 13) 220 [.ref 67, .int (xs (6 * i + 1))] h1 = some (.int v, h2) := e2
  have s1 := sk_callm (d + 13) _ _ _ _ _ rfl e1' s
  have s2 := sk_callm (d + 13) _ _ _ _ _ rfl e2' s1
  obtain ⟨p8, p67, ⟨p1, q1⟩, ⟨p2, q2⟩, ⟨p3, q3⟩, ⟨p4, q4⟩, ⟨p5, q5⟩⟩ := SF s hi hn
  obtain ⟨r8, r67, ⟨r1, t1⟩, ⟨r2, t2⟩, ⟨r3, t3⟩, ⟨r4, t4⟩, ⟨r5, t5⟩⟩ := SF s1 hi hn
  refine ⟨h2, ?_, I2, s2⟩
  simp only [D_L_law_465, p8, p67, p1, p2, p3, p4, p5, q1, q2, q3, q4, q5, r8, r67, r1, r2, r3, r4, r5, t1, t2, t3, t4, t5, ck_true, cI_some, cL_some, e1', e2', lg_refl, if_true, if_false]
theorem LC_482 {c n i : Nat} {xs : Nat → Int32} {h : MH} (I : INV c h) (s : sk xs n h) (hi : 6 * i + 6 ≤ n) (hn : n ≤ 384) (d : Nat) : LCG c n xs i d 482 h := by
  obtain ⟨v, h1, h2, e1, e2, I2⟩ := A_book I (d + 10) (xs (6 * i + 1)) (xs (6 * i + 2))
  have e1' : mE mtab (d + 13) 222 [.ref 8, .int (xs (6 * i + 1)), .int (xs (6 * i + 2))] h = some (.int v, h1) := e1
  have e2' : mE mtab (d + 13) 224 [.ref 67, .int (xs (6 * i + 1)), .int (xs (6 * i + 2))] h1 = some (.int v, h2) := e2
  have s1 := sk_callm (d + 13) _ _ _ _ _ rfl e1' s
  have s2 := sk_callm (d + 13) _ _ _ _ _ rfl e2' s1
  obtain ⟨p8, p67, ⟨p1, q1⟩, ⟨p2, q2⟩, ⟨p3, q3⟩, ⟨p4, q4⟩, ⟨p5, q5⟩⟩ := SF s hi hn
  obtain ⟨r8, r67, ⟨r1, t1⟩, ⟨r2, t2⟩, ⟨r3, t3⟩, ⟨r4, t4⟩, ⟨r5, t5⟩⟩ := SF s1 hi hn
  refine ⟨h2, ?_, I2, s2⟩
  simp only [D_L_law_482, p8, p67, p1, p2, p3, p4, p5, q1, q2, q3, q4, q5, r8, r67, r1, r2, r3, r4, r5, t1, t2, t3, t4, t5, ck_true, cI_some, cL_some, e1', e2', lg_refl, if_true, if_false]
theorem LC_509 {c n i : Nat} {xs : Nat → Int32} {h : MH} (I : INV c h) (s : sk xs n h) (hi : 6 * i + 6 ≤ n) (hn : n ≤ 384) (d : Nat) : LCG c n xs i d 509 h := by
  obtain ⟨v, h1, h2, e1, e2, I2⟩ := A_foretold I (d + 2) (xs (6 * i + 1)) (xs (6 * i + 2))
  have e1' : mE mtab (d + 13) 226 [.ref 8, .int (xs (6 * i + 1)), .int (xs (6 * i + 2))] h = some (.int v, h1) := e1
  have e2' : mE mtab (d + 13) 227 [.ref 67, .int (xs (6 * i + 1)), .int (xs (6 * i + 2))] h1 = some (.int v, h2) := e2
  have s1 := sk_callm (d + 13) _ _ _ _ _ rfl e1' s
  have s2 := sk_callm (d + 13) _ _ _ _ _ rfl e2' s1
  obtain ⟨p8, p67, ⟨p1, q1⟩, ⟨p2, q2⟩, ⟨p3, q3⟩, ⟨p4, q4⟩, ⟨p5, q5⟩⟩ := SF s hi hn
  obtain ⟨r8, r67, ⟨r1, t1⟩, ⟨r2, t2⟩, ⟨r3, t3⟩, ⟨r4, t4⟩, ⟨r5, t5⟩⟩ := SF s1 hi hn
  refine ⟨h2, ?_, I2, s2⟩
  simp only [D_L_law_509, p8, p67, p1, p2, p3, p4, p5, q1, q2, q3, q4, q5, r8, r67, r1, r2, r3, r4, r5, t1, t2, t3, t4, t5, ck_true, cI_some, cL_some, e1', e2', lg_refl, if_true, if_false]
theorem LC_536 {c n i : Nat} {xs : Nat → Int32} {h : MH} (I : INV c h) (s : sk xs n h) (hi : 6 * i + 6 ≤ n) (hn : n ≤ 384) (d : Nat) : LCG c n xs i d 536 h := by
  obtain ⟨v, h1, h2, e1, e2, I2⟩ := A_tip I (d + 9) (xs (6 * i + 1)) (xs (6 * i + 2))
  have e1' : mE mtab (d + 13) 228 [.ref 8, .int (xs (6 * i + 1)), .int (xs (6 * i + 2))] h = some (.int v, h1) := e1
  have e2' : mE mtab (d + 13) 229 [.ref 67, .int (xs (6 * i + 1)), .int (xs (6 * i + 2))] h1 = some (.int v, h2) := e2
  have s1 := sk_callm (d + 13) _ _ _ _ _ rfl e1' s
  have s2 := sk_callm (d + 13) _ _ _ _ _ rfl e2' s1
  obtain ⟨p8, p67, ⟨p1, q1⟩, ⟨p2, q2⟩, ⟨p3, q3⟩, ⟨p4, q4⟩, ⟨p5, q5⟩⟩ := SF s hi hn
  obtain ⟨r8, r67, ⟨r1, t1⟩, ⟨r2, t2⟩, ⟨r3, t3⟩, ⟨r4, t4⟩, ⟨r5, t5⟩⟩ := SF s1 hi hn
  refine ⟨h2, ?_, I2, s2⟩
  simp only [D_L_law_536, p8, p67, p1, p2, p3, p4, p5, q1, q2, q3, q4, q5, r8, r67, r1, r2, r3, r4, r5, t1, t2, t3, t4, t5, ck_true, cI_some, cL_some, e1', e2', lg_refl, if_true, if_false]
theorem LC_563 {c n i : Nat} {xs : Nat → Int32} {h : MH} (I : INV c h) (s : sk xs n h) (hi : 6 * i + 6 ≤ n) (hn : n ≤ 384) (d : Nat) : LCG c n xs i d 563 h := by
  by_cases b1 : xs (6 * i + 1) = 0
  · have bb1 := b1
    obtain ⟨v, h1, h2, e1, e2, I2⟩ := A_errands I (d + 1) 0 (xs (6 * i + 2))
    have e1' : mE mtab (d + 13) 242 [.ref 8, .int 0, .int (xs (6 * i + 2))] h = some (.int v, h1) := e1
    have e2' : mE mtab (d + 13) 254 [.ref 67, .int 0, .int (xs (6 * i + 2))] h1 = some (.int v, h2) := e2
    have s1 := sk_callm (d + 13) _ _ _ _ _ rfl e1' s
    have s2 := sk_callm (d + 13) _ _ _ _ _ rfl e2' s1
    obtain ⟨p8, p67, ⟨p1, q1⟩, ⟨p2, q2⟩, ⟨p3, q3⟩, ⟨p4, q4⟩, ⟨p5, q5⟩⟩ := SF s hi hn
    obtain ⟨r8, r67, ⟨r1, t1⟩, ⟨r2, t2⟩, ⟨r3, t3⟩, ⟨r4, t4⟩, ⟨r5, t5⟩⟩ := SF s1 hi hn
    refine ⟨h2, ?_, I2, s2⟩
    simp only [D_L_law_563, D_L_law_573, D_L_law_589, p8, p67, p1, p2, p3, p4, p5, q1, q2, q3, q4, q5, r8, r67, r1, r2, r3, r4, r5, t1, t2, t3, t4, t5, ck_true, cI_some, cL_some, e1', e2', lg_refl, if_true, if_false, bb1]
  · have bb1 := b1
    obtain ⟨v, h1, h2, e1, e2, I2⟩ := A_errands I (d + 1) 1 (xs (6 * i + 2))
    have e1' : mE mtab (d + 13) 242 [.ref 8, .int 1, .int (xs (6 * i + 2))] h = some (.int v, h1) := e1
    have e2' : mE mtab (d + 13) 254 [.ref 67, .int 1, .int (xs (6 * i + 2))] h1 = some (.int v, h2) := e2
    have s1 := sk_callm (d + 13) _ _ _ _ _ rfl e1' s
    have s2 := sk_callm (d + 13) _ _ _ _ _ rfl e2' s1
    obtain ⟨p8, p67, ⟨p1, q1⟩, ⟨p2, q2⟩, ⟨p3, q3⟩, ⟨p4, q4⟩, ⟨p5, q5⟩⟩ := SF s hi hn
    obtain ⟨r8, r67, ⟨r1, t1⟩, ⟨r2, t2⟩, ⟨r3, t3⟩, ⟨r4, t4⟩, ⟨r5, t5⟩⟩ := SF s1 hi hn
    refine ⟨h2, ?_, I2, s2⟩
    simp only [D_L_law_563, D_L_law_573, D_L_law_589, p8, p67, p1, p2, p3, p4, p5, q1, q2, q3, q4, q5, r8, r67, r1, r2, r3, r4, r5, t1, t2, t3, t4, t5, ck_true, cI_some, cL_some, e1', e2', lg_refl, if_true, if_false, bb1]
theorem LC_598 {c n i : Nat} {xs : Nat → Int32} {h : MH} (I : INV c h) (s : sk xs n h) (hi : 6 * i + 6 ≤ n) (hn : n ≤ 384) (d : Nat) : LCG c n xs i d 598 h := by
  by_cases b1 : xs (6 * i + 1) = 0
  · have bb1 := b1
    obtain ⟨v, h1, h2, e1, e2, I2⟩ := A_where I (d + 2) 0
    have e1' : mE mtab (d + 13) 255 [.ref 8, .int 0] h = some (.int v, h1) := e1
    have e2' : mE mtab (d + 13) 256 [.ref 67, .int 0] h1 = some (.int v, h2) := e2
    have s1 := sk_callm (d + 13) _ _ _ _ _ rfl e1' s
    have s2 := sk_callm (d + 13) _ _ _ _ _ rfl e2' s1
    obtain ⟨p8, p67, ⟨p1, q1⟩, ⟨p2, q2⟩, ⟨p3, q3⟩, ⟨p4, q4⟩, ⟨p5, q5⟩⟩ := SF s hi hn
    obtain ⟨r8, r67, ⟨r1, t1⟩, ⟨r2, t2⟩, ⟨r3, t3⟩, ⟨r4, t4⟩, ⟨r5, t5⟩⟩ := SF s1 hi hn
    refine ⟨h2, ?_, I2, s2⟩
    simp only [D_L_law_598, D_L_law_608, D_L_law_619, p8, p67, p1, p2, p3, p4, p5, q1, q2, q3, q4, q5, r8, r67, r1, r2, r3, r4, r5, t1, t2, t3, t4, t5, ck_true, cI_some, cL_some, e1', e2', lg_refl, if_true, if_false, bb1]
  · have bb1 := b1
    obtain ⟨v, h1, h2, e1, e2, I2⟩ := A_where I (d + 2) 1
    have e1' : mE mtab (d + 13) 255 [.ref 8, .int 1] h = some (.int v, h1) := e1
    have e2' : mE mtab (d + 13) 256 [.ref 67, .int 1] h1 = some (.int v, h2) := e2
    have s1 := sk_callm (d + 13) _ _ _ _ _ rfl e1' s
    have s2 := sk_callm (d + 13) _ _ _ _ _ rfl e2' s1
    obtain ⟨p8, p67, ⟨p1, q1⟩, ⟨p2, q2⟩, ⟨p3, q3⟩, ⟨p4, q4⟩, ⟨p5, q5⟩⟩ := SF s hi hn
    obtain ⟨r8, r67, ⟨r1, t1⟩, ⟨r2, t2⟩, ⟨r3, t3⟩, ⟨r4, t4⟩, ⟨r5, t5⟩⟩ := SF s1 hi hn
    refine ⟨h2, ?_, I2, s2⟩
    simp only [D_L_law_598, D_L_law_608, D_L_law_619, p8, p67, p1, p2, p3, p4, p5, q1, q2, q3, q4, q5, r8, r67, r1, r2, r3, r4, r5, t1, t2, t3, t4, t5, ck_true, cI_some, cL_some, e1', e2', lg_refl, if_true, if_false, bb1]
theorem LC_623 {c n i : Nat} {xs : Nat → Int32} {h : MH} (I : INV c h) (s : sk xs n h) (hi : 6 * i + 6 ≤ n) (hn : n ≤ 384) (d : Nat) : LCG c n xs i d 623 h := by
  by_cases b1 : xs (6 * i + 1) = 0
  · have bb1 := b1
    obtain ⟨v, h1, h2, e1, e2, I2⟩ := A_paid I (d + 6) 0
    have e1' : mE mtab (d + 13) 264 [.ref 8, .int 0] h = some (.int v, h1) := e1
    have e2' : mE mtab (d + 13) 271 [.ref 67, .int 0] h1 = some (.int v, h2) := e2
    have s1 := sk_callm (d + 13) _ _ _ _ _ rfl e1' s
    have s2 := sk_callm (d + 13) _ _ _ _ _ rfl e2' s1
    obtain ⟨p8, p67, ⟨p1, q1⟩, ⟨p2, q2⟩, ⟨p3, q3⟩, ⟨p4, q4⟩, ⟨p5, q5⟩⟩ := SF s hi hn
    obtain ⟨r8, r67, ⟨r1, t1⟩, ⟨r2, t2⟩, ⟨r3, t3⟩, ⟨r4, t4⟩, ⟨r5, t5⟩⟩ := SF s1 hi hn
    refine ⟨h2, ?_, I2, s2⟩
    simp only [D_L_law_623, D_L_law_633, D_L_law_644, p8, p67, p1, p2, p3, p4, p5, q1, q2, q3, q4, q5, r8, r67, r1, r2, r3, r4, r5, t1, t2, t3, t4, t5, ck_true, cI_some, cL_some, e1', e2', lg_refl, if_true, if_false, bb1]
  · have bb1 := b1
    obtain ⟨v, h1, h2, e1, e2, I2⟩ := A_paid I (d + 6) 1
    have e1' : mE mtab (d + 13) 264 [.ref 8, .int 1] h = some (.int v, h1) := e1
    have e2' : mE mtab (d + 13) 271 [.ref 67, .int 1] h1 = some (.int v, h2) := e2
    have s1 := sk_callm (d + 13) _ _ _ _ _ rfl e1' s
    have s2 := sk_callm (d + 13) _ _ _ _ _ rfl e2' s1
    obtain ⟨p8, p67, ⟨p1, q1⟩, ⟨p2, q2⟩, ⟨p3, q3⟩, ⟨p4, q4⟩, ⟨p5, q5⟩⟩ := SF s hi hn
    obtain ⟨r8, r67, ⟨r1, t1⟩, ⟨r2, t2⟩, ⟨r3, t3⟩, ⟨r4, t4⟩, ⟨r5, t5⟩⟩ := SF s1 hi hn
    refine ⟨h2, ?_, I2, s2⟩
    simp only [D_L_law_623, D_L_law_633, D_L_law_644, p8, p67, p1, p2, p3, p4, p5, q1, q2, q3, q4, q5, r8, r67, r1, r2, r3, r4, r5, t1, t2, t3, t4, t5, ck_true, cI_some, cL_some, e1', e2', lg_refl, if_true, if_false, bb1]
theorem LC_648 {c n i : Nat} {xs : Nat → Int32} {h : MH} (I : INV c h) (s : sk xs n h) (hi : 6 * i + 6 ≤ n) (hn : n ≤ 384) (d : Nat) : LCG c n xs i d 648 h := by
  obtain ⟨v, h1, h2, e1, e2, I2⟩ := A_stand I (d + 6) (xs (6 * i + 1))
  have e1' : mE mtab (d + 13) 272 [.ref 8, .int (xs (6 * i + 1))] h = some (.int v, h1) := e1
  have e2' : mE mtab (d + 13) 273 [.ref 67, .int (xs (6 * i + 1))] h1 = some (.int v, h2) := e2
  have s1 := sk_callm (d + 13) _ _ _ _ _ rfl e1' s
  have s2 := sk_callm (d + 13) _ _ _ _ _ rfl e2' s1
  obtain ⟨p8, p67, ⟨p1, q1⟩, ⟨p2, q2⟩, ⟨p3, q3⟩, ⟨p4, q4⟩, ⟨p5, q5⟩⟩ := SF s hi hn
  obtain ⟨r8, r67, ⟨r1, t1⟩, ⟨r2, t2⟩, ⟨r3, t3⟩, ⟨r4, t4⟩, ⟨r5, t5⟩⟩ := SF s1 hi hn
  refine ⟨h2, ?_, I2, s2⟩
  simp only [D_L_law_648, p8, p67, p1, p2, p3, p4, p5, q1, q2, q3, q4, q5, r8, r67, r1, r2, r3, r4, r5, t1, t2, t3, t4, t5, ck_true, cI_some, cL_some, e1', e2', lg_refl, if_true, if_false]
theorem LC_665 {c n i : Nat} {xs : Nat → Int32} {h : MH} (I : INV c h) (s : sk xs n h) (hi : 6 * i + 6 ≤ n) (hn : n ≤ 384) (d : Nat) : LCG c n xs i d 665 h := by
  obtain ⟨v, h1, h2, e1, e2, I2⟩ := A_cat I (d + 9) (xs (6 * i + 1)) (xs (6 * i + 2))
  have e1' : mE mtab (d + 13) 274 [.ref 8, .int (xs (6 * i + 1)), .int (xs (6 * i + 2))] h = some (.int v, h1) := e1
  have e2' : mE mtab (d + 13) 275 [.ref 67, .int (xs (6 * i + 1)), .int (xs (6 * i + 2))] h1 = some (.int v, h2) := e2
  have s1 := sk_callm (d + 13) _ _ _ _ _ rfl e1' s
  have s2 := sk_callm (d + 13) _ _ _ _ _ rfl e2' s1
  obtain ⟨p8, p67, ⟨p1, q1⟩, ⟨p2, q2⟩, ⟨p3, q3⟩, ⟨p4, q4⟩, ⟨p5, q5⟩⟩ := SF s hi hn
  obtain ⟨r8, r67, ⟨r1, t1⟩, ⟨r2, t2⟩, ⟨r3, t3⟩, ⟨r4, t4⟩, ⟨r5, t5⟩⟩ := SF s1 hi hn
  refine ⟨h2, ?_, I2, s2⟩
  simp only [D_L_law_665, p8, p67, p1, p2, p3, p4, p5, q1, q2, q3, q4, q5, r8, r67, r1, r2, r3, r4, r5, t1, t2, t3, t4, t5, ck_true, cI_some, cL_some, e1', e2', lg_refl, if_true, if_false]
theorem LC_692 {c n i : Nat} {xs : Nat → Int32} {h : MH} (I : INV c h) (s : sk xs n h) (hi : 6 * i + 6 ≤ n) (hn : n ≤ 384) (d : Nat) : LCG c n xs i d 692 h := by
  by_cases b1 : xs (6 * i + 1) = 0
  · have bb1 := b1
    obtain ⟨v, h1, h2, e1, e2, I2⟩ := A_quarrel I (d + 3) 0
    have e1' : mE mtab (d + 13) 280 [.ref 8, .int 0] h = some (.int v, h1) := e1
    have e2' : mE mtab (d + 13) 283 [.ref 67, .int 0] h1 = some (.int v, h2) := e2
    have s1 := sk_callm (d + 13) _ _ _ _ _ rfl e1' s
    have s2 := sk_callm (d + 13) _ _ _ _ _ rfl e2' s1
    obtain ⟨p8, p67, ⟨p1, q1⟩, ⟨p2, q2⟩, ⟨p3, q3⟩, ⟨p4, q4⟩, ⟨p5, q5⟩⟩ := SF s hi hn
    obtain ⟨r8, r67, ⟨r1, t1⟩, ⟨r2, t2⟩, ⟨r3, t3⟩, ⟨r4, t4⟩, ⟨r5, t5⟩⟩ := SF s1 hi hn
    refine ⟨h2, ?_, I2, s2⟩
    simp only [D_L_law_692, D_L_law_702, D_L_law_713, p8, p67, p1, p2, p3, p4, p5, q1, q2, q3, q4, q5, r8, r67, r1, r2, r3, r4, r5, t1, t2, t3, t4, t5, ck_true, cI_some, cL_some, e1', e2', lg_refl, if_true, if_false, bb1]
  · have bb1 := b1
    obtain ⟨v, h1, h2, e1, e2, I2⟩ := A_quarrel I (d + 3) 1
    have e1' : mE mtab (d + 13) 280 [.ref 8, .int 1] h = some (.int v, h1) := e1
    have e2' : mE mtab (d + 13) 283 [.ref 67, .int 1] h1 = some (.int v, h2) := e2
    have s1 := sk_callm (d + 13) _ _ _ _ _ rfl e1' s
    have s2 := sk_callm (d + 13) _ _ _ _ _ rfl e2' s1
    obtain ⟨p8, p67, ⟨p1, q1⟩, ⟨p2, q2⟩, ⟨p3, q3⟩, ⟨p4, q4⟩, ⟨p5, q5⟩⟩ := SF s hi hn
    obtain ⟨r8, r67, ⟨r1, t1⟩, ⟨r2, t2⟩, ⟨r3, t3⟩, ⟨r4, t4⟩, ⟨r5, t5⟩⟩ := SF s1 hi hn
    refine ⟨h2, ?_, I2, s2⟩
    simp only [D_L_law_692, D_L_law_702, D_L_law_713, p8, p67, p1, p2, p3, p4, p5, q1, q2, q3, q4, q5, r8, r67, r1, r2, r3, r4, r5, t1, t2, t3, t4, t5, ck_true, cI_some, cL_some, e1', e2', lg_refl, if_true, if_false, bb1]
theorem LC_717 {c n i : Nat} {xs : Nat → Int32} {h : MH} (I : INV c h) (s : sk xs n h) (hi : 6 * i + 6 ≤ n) (hn : n ≤ 384) (d : Nat) : LCG c n xs i d 717 h := by
  obtain ⟨v, h1, h2, e1, e2, I2⟩ := A_orders I (d + 3)
  have e1' : mE mtab (d + 13) 284 [.ref 8] h = some (.long v, h1) := e1
  have e2' : mE mtab (d + 13) 285 [.ref 67] h1 = some (.long v, h2) := e2
  have s1 := sk_callm (d + 13) _ _ _ _ _ rfl e1' s
  have s2 := sk_callm (d + 13) _ _ _ _ _ rfl e2' s1
  obtain ⟨p8, p67, ⟨p1, q1⟩, ⟨p2, q2⟩, ⟨p3, q3⟩, ⟨p4, q4⟩, ⟨p5, q5⟩⟩ := SF s hi hn
  obtain ⟨r8, r67, ⟨r1, t1⟩, ⟨r2, t2⟩, ⟨r3, t3⟩, ⟨r4, t4⟩, ⟨r5, t5⟩⟩ := SF s1 hi hn
  refine ⟨h2, ?_, I2, s2⟩
  simp only [D_L_law_717, p8, p67, p1, p2, p3, p4, p5, q1, q2, q3, q4, q5, r8, r67, r1, r2, r3, r4, r5, t1, t2, t3, t4, t5, ck_true, cI_some, cL_some, e1', e2', lg_refl, if_true, if_false]
theorem LC_725 {c n i : Nat} {xs : Nat → Int32} {h : MH} (I : INV c h) (s : sk xs n h) (hi : 6 * i + 6 ≤ n) (hn : n ≤ 384) (d : Nat) : LCG c n xs i d 725 h := by
  obtain ⟨v, h1, h2, e1, e2, I2⟩ := A_order I (d + 3) (xs (6 * i + 1))
  have e1' : mE mtab (d + 13) 288 [.ref 8, .int (xs (6 * i + 1))] h = some (.int v, h1) := e1
  have e2' : mE mtab (d + 13) 289 [.ref 67, .int (xs (6 * i + 1))] h1 = some (.int v, h2) := e2
  have s1 := sk_callm (d + 13) _ _ _ _ _ rfl e1' s
  have s2 := sk_callm (d + 13) _ _ _ _ _ rfl e2' s1
  obtain ⟨p8, p67, ⟨p1, q1⟩, ⟨p2, q2⟩, ⟨p3, q3⟩, ⟨p4, q4⟩, ⟨p5, q5⟩⟩ := SF s hi hn
  obtain ⟨r8, r67, ⟨r1, t1⟩, ⟨r2, t2⟩, ⟨r3, t3⟩, ⟨r4, t4⟩, ⟨r5, t5⟩⟩ := SF s1 hi hn
  refine ⟨h2, ?_, I2, s2⟩
  simp only [D_L_law_725, p8, p67, p1, p2, p3, p4, p5, q1, q2, q3, q4, q5, r8, r67, r1, r2, r3, r4, r5, t1, t2, t3, t4, t5, ck_true, cI_some, cL_some, e1', e2', lg_refl, if_true, if_false]
theorem LC_742 {c n i : Nat} {xs : Nat → Int32} {h : MH} (I : INV c h) (s : sk xs n h) (hi : 6 * i + 6 ≤ n) (hn : n ≤ 384) (d : Nat) : LCG c n xs i d 742 h := by
  by_cases b2 : xs (6 * i + 2) = 0
  · have bb2 := b2
    obtain ⟨v, h1, h2, e1, e2, I2⟩ := A_share I (d + 3) (xs (6 * i + 1)) 0
    have e1' : mE mtab (d + 13) 292 [.ref 8, .int (xs (6 * i + 1)), .int 0] h = some (.int v, h1) := e1
    have e2' : mE mtab (d + 13) 295 [.ref 67, .int (xs (6 * i + 1)), .int 0] h1 = some (.int v, h2) := e2
    have s1 := sk_callm (d + 13) _ _ _ _ _ rfl e1' s
    have s2 := sk_callm (d + 13) _ _ _ _ _ rfl e2' s1
    obtain ⟨p8, p67, ⟨p1, q1⟩, ⟨p2, q2⟩, ⟨p3, q3⟩, ⟨p4, q4⟩, ⟨p5, q5⟩⟩ := SF s hi hn
    obtain ⟨r8, r67, ⟨r1, t1⟩, ⟨r2, t2⟩, ⟨r3, t3⟩, ⟨r4, t4⟩, ⟨r5, t5⟩⟩ := SF s1 hi hn
    refine ⟨h2, ?_, I2, s2⟩
    simp only [D_L_law_742, D_L_law_757, D_L_law_773, p8, p67, p1, p2, p3, p4, p5, q1, q2, q3, q4, q5, r8, r67, r1, r2, r3, r4, r5, t1, t2, t3, t4, t5, ck_true, cI_some, cL_some, e1', e2', lg_refl, if_true, if_false, bb2]
  · have bb2 := b2
    obtain ⟨v, h1, h2, e1, e2, I2⟩ := A_share I (d + 3) (xs (6 * i + 1)) 1
    have e1' : mE mtab (d + 13) 292 [.ref 8, .int (xs (6 * i + 1)), .int 1] h = some (.int v, h1) := e1
    have e2' : mE mtab (d + 13) 295 [.ref 67, .int (xs (6 * i + 1)), .int 1] h1 = some (.int v, h2) := e2
    have s1 := sk_callm (d + 13) _ _ _ _ _ rfl e1' s
    have s2 := sk_callm (d + 13) _ _ _ _ _ rfl e2' s1
    obtain ⟨p8, p67, ⟨p1, q1⟩, ⟨p2, q2⟩, ⟨p3, q3⟩, ⟨p4, q4⟩, ⟨p5, q5⟩⟩ := SF s hi hn
    obtain ⟨r8, r67, ⟨r1, t1⟩, ⟨r2, t2⟩, ⟨r3, t3⟩, ⟨r4, t4⟩, ⟨r5, t5⟩⟩ := SF s1 hi hn
    refine ⟨h2, ?_, I2, s2⟩
    simp only [D_L_law_742, D_L_law_757, D_L_law_773, p8, p67, p1, p2, p3, p4, p5, q1, q2, q3, q4, q5, r8, r67, r1, r2, r3, r4, r5, t1, t2, t3, t4, t5, ck_true, cI_some, cL_some, e1', e2', lg_refl, if_true, if_false, bb2]
theorem LC_777 {c n i : Nat} {xs : Nat → Int32} {h : MH} (I : INV c h) (s : sk xs n h) (hi : 6 * i + 6 ≤ n) (hn : n ≤ 384) (d : Nat) : LCG c n xs i d 777 h := by
  by_cases b2 : xs (6 * i + 2) = 0
  · have bb2 := b2
    obtain ⟨v, h1, h2, e1, e2, I2⟩ := A_slips I (d + 4) (xs (6 * i + 1)) 0
    have e1' : mE mtab (d + 13) 297 [.ref 8, .int (xs (6 * i + 1)), .int 0] h = some (.int v, h1) := e1
    have e2' : mE mtab (d + 13) 298 [.ref 67, .int (xs (6 * i + 1)), .int 0] h1 = some (.int v, h2) := e2
    have s1 := sk_callm (d + 13) _ _ _ _ _ rfl e1' s
    have s2 := sk_callm (d + 13) _ _ _ _ _ rfl e2' s1
    obtain ⟨p8, p67, ⟨p1, q1⟩, ⟨p2, q2⟩, ⟨p3, q3⟩, ⟨p4, q4⟩, ⟨p5, q5⟩⟩ := SF s hi hn
    obtain ⟨r8, r67, ⟨r1, t1⟩, ⟨r2, t2⟩, ⟨r3, t3⟩, ⟨r4, t4⟩, ⟨r5, t5⟩⟩ := SF s1 hi hn
    refine ⟨h2, ?_, I2, s2⟩
    simp only [D_L_law_777, D_L_law_792, D_L_law_808, p8, p67, p1, p2, p3, p4, p5, q1, q2, q3, q4, q5, r8, r67, r1, r2, r3, r4, r5, t1, t2, t3, t4, t5, ck_true, cI_some, cL_some, e1', e2', lg_refl, if_true, if_false, bb2]
  · have bb2 := b2
    obtain ⟨v, h1, h2, e1, e2, I2⟩ := A_slips I (d + 4) (xs (6 * i + 1)) 1
    have e1' : mE mtab (d + 13) 297 [.ref 8, .int (xs (6 * i + 1)), .int 1] h = some (.int v, h1) := e1
    have e2' : mE mtab (d + 13) 298 [.ref 67, .int (xs (6 * i + 1)), .int 1] h1 = some (.int v, h2) := e2
    have s1 := sk_callm (d + 13) _ _ _ _ _ rfl e1' s
    have s2 := sk_callm (d + 13) _ _ _ _ _ rfl e2' s1
    obtain ⟨p8, p67, ⟨p1, q1⟩, ⟨p2, q2⟩, ⟨p3, q3⟩, ⟨p4, q4⟩, ⟨p5, q5⟩⟩ := SF s hi hn
    obtain ⟨r8, r67, ⟨r1, t1⟩, ⟨r2, t2⟩, ⟨r3, t3⟩, ⟨r4, t4⟩, ⟨r5, t5⟩⟩ := SF s1 hi hn
    refine ⟨h2, ?_, I2, s2⟩
    simp only [D_L_law_777, D_L_law_792, D_L_law_808, p8, p67, p1, p2, p3, p4, p5, q1, q2, q3, q4, q5, r8, r67, r1, r2, r3, r4, r5, t1, t2, t3, t4, t5, ck_true, cI_some, cL_some, e1', e2', lg_refl, if_true, if_false, bb2]
theorem LC_812 {c n i : Nat} {xs : Nat → Int32} {h : MH} (I : INV c h) (s : sk xs n h) (hi : 6 * i + 6 ≤ n) (hn : n ≤ 384) (d : Nat) : LCG c n xs i d 812 h := by
  obtain ⟨v, h1, h2, e1, e2, I2⟩ := A_halves I (d + 9) (xs (6 * i + 1))
  have e1' : mE mtab (d + 13) 300 [.ref 8, .int (xs (6 * i + 1))] h = some (.int v, h1) := e1
  have e2' : mE mtab (d + 13) 302 [.ref 67, .int (xs (6 * i + 1))] h1 = some (.int v, h2) := e2
  have s1 := sk_callm (d + 13) _ _ _ _ _ rfl e1' s
  have s2 := sk_callm (d + 13) _ _ _ _ _ rfl e2' s1
  obtain ⟨p8, p67, ⟨p1, q1⟩, ⟨p2, q2⟩, ⟨p3, q3⟩, ⟨p4, q4⟩, ⟨p5, q5⟩⟩ := SF s hi hn
  obtain ⟨r8, r67, ⟨r1, t1⟩, ⟨r2, t2⟩, ⟨r3, t3⟩, ⟨r4, t4⟩, ⟨r5, t5⟩⟩ := SF s1 hi hn
  refine ⟨h2, ?_, I2, s2⟩
  simp only [D_L_law_812, p8, p67, p1, p2, p3, p4, p5, q1, q2, q3, q4, q5, r8, r67, r1, r2, r3, r4, r5, t1, t2, t3, t4, t5, ck_true, cI_some, cL_some, e1', e2', lg_refl, if_true, if_false]
theorem LC_829 {c n i : Nat} {xs : Nat → Int32} {h : MH} (I : INV c h) (s : sk xs n h) (hi : 6 * i + 6 ≤ n) (hn : n ≤ 384) (d : Nat) : LCG c n xs i d 829 h := by
  obtain ⟨v, h1, h2, e1, e2, I2⟩ := A_level I (d + 8) (xs (6 * i + 1))
  have e1' : mE mtab (d + 13) 303 [.ref 8, .int (xs (6 * i + 1))] h = some (.int v, h1) := e1
  have e2' : mE mtab (d + 13) 304 [.ref 67, .int (xs (6 * i + 1))] h1 = some (.int v, h2) := e2
  have s1 := sk_callm (d + 13) _ _ _ _ _ rfl e1' s
  have s2 := sk_callm (d + 13) _ _ _ _ _ rfl e2' s1
  obtain ⟨p8, p67, ⟨p1, q1⟩, ⟨p2, q2⟩, ⟨p3, q3⟩, ⟨p4, q4⟩, ⟨p5, q5⟩⟩ := SF s hi hn
  obtain ⟨r8, r67, ⟨r1, t1⟩, ⟨r2, t2⟩, ⟨r3, t3⟩, ⟨r4, t4⟩, ⟨r5, t5⟩⟩ := SF s1 hi hn
  refine ⟨h2, ?_, I2, s2⟩
  simp only [D_L_law_829, p8, p67, p1, p2, p3, p4, p5, q1, q2, q3, q4, q5, r8, r67, r1, r2, r3, r4, r5, t1, t2, t3, t4, t5, ck_true, cI_some, cL_some, e1', e2', lg_refl, if_true, if_false]
theorem LC_846 {c n i : Nat} {xs : Nat → Int32} {h : MH} (I : INV c h) (s : sk xs n h) (hi : 6 * i + 6 ≤ n) (hn : n ≤ 384) (d : Nat) : LCG c n xs i d 846 h := by
  by_cases b1 : xs (6 * i + 1) = 0
  · have bb1 := b1
    obtain ⟨v, h1, h2, e1, e2, I2⟩ := A_swap I (d + 8) 0
    have e1' : mE mtab (d + 13) 306 [.ref 8, .int 0] h = some (.int v, h1) := e1
    have e2' : mE mtab (d + 13) 308 [.ref 67, .int 0] h1 = some (.int v, h2) := e2
    have s1 := sk_callm (d + 13) _ _ _ _ _ rfl e1' s
    have s2 := sk_callm (d + 13) _ _ _ _ _ rfl e2' s1
    obtain ⟨p8, p67, ⟨p1, q1⟩, ⟨p2, q2⟩, ⟨p3, q3⟩, ⟨p4, q4⟩, ⟨p5, q5⟩⟩ := SF s hi hn
    obtain ⟨r8, r67, ⟨r1, t1⟩, ⟨r2, t2⟩, ⟨r3, t3⟩, ⟨r4, t4⟩, ⟨r5, t5⟩⟩ := SF s1 hi hn
    refine ⟨h2, ?_, I2, s2⟩
    simp only [D_L_law_846, D_L_law_856, D_L_law_867, p8, p67, p1, p2, p3, p4, p5, q1, q2, q3, q4, q5, r8, r67, r1, r2, r3, r4, r5, t1, t2, t3, t4, t5, ck_true, cI_some, cL_some, e1', e2', lg_refl, if_true, if_false, bb1]
  · have bb1 := b1
    obtain ⟨v, h1, h2, e1, e2, I2⟩ := A_swap I (d + 8) 1
    have e1' : mE mtab (d + 13) 306 [.ref 8, .int 1] h = some (.int v, h1) := e1
    have e2' : mE mtab (d + 13) 308 [.ref 67, .int 1] h1 = some (.int v, h2) := e2
    have s1 := sk_callm (d + 13) _ _ _ _ _ rfl e1' s
    have s2 := sk_callm (d + 13) _ _ _ _ _ rfl e2' s1
    obtain ⟨p8, p67, ⟨p1, q1⟩, ⟨p2, q2⟩, ⟨p3, q3⟩, ⟨p4, q4⟩, ⟨p5, q5⟩⟩ := SF s hi hn
    obtain ⟨r8, r67, ⟨r1, t1⟩, ⟨r2, t2⟩, ⟨r3, t3⟩, ⟨r4, t4⟩, ⟨r5, t5⟩⟩ := SF s1 hi hn
    refine ⟨h2, ?_, I2, s2⟩
    simp only [D_L_law_846, D_L_law_856, D_L_law_867, p8, p67, p1, p2, p3, p4, p5, q1, q2, q3, q4, q5, r8, r67, r1, r2, r3, r4, r5, t1, t2, t3, t4, t5, ck_true, cI_some, cL_some, e1', e2', lg_refl, if_true, if_false, bb1]
theorem LC_871 {c n i : Nat} {xs : Nat → Int32} {h : MH} (I : INV c h) (s : sk xs n h) (hi : 6 * i + 6 ≤ n) (hn : n ≤ 384) (d : Nat) : LCG c n xs i d 871 h := by
  obtain ⟨v, h1, h2, e1, e2, I2⟩ := A_send I (d + 9) (xs (6 * i + 1))
  have e1' : mE mtab (d + 13) 309 [.ref 8, .int (xs (6 * i + 1))] h = some (.int v, h1) := e1
  have e2' : mE mtab (d + 13) 310 [.ref 67, .int (xs (6 * i + 1))] h1 = some (.int v, h2) := e2
  have s1 := sk_callm (d + 13) _ _ _ _ _ rfl e1' s
  have s2 := sk_callm (d + 13) _ _ _ _ _ rfl e2' s1
  obtain ⟨p8, p67, ⟨p1, q1⟩, ⟨p2, q2⟩, ⟨p3, q3⟩, ⟨p4, q4⟩, ⟨p5, q5⟩⟩ := SF s hi hn
  obtain ⟨r8, r67, ⟨r1, t1⟩, ⟨r2, t2⟩, ⟨r3, t3⟩, ⟨r4, t4⟩, ⟨r5, t5⟩⟩ := SF s1 hi hn
  refine ⟨h2, ?_, I2, s2⟩
  simp only [D_L_law_871, p8, p67, p1, p2, p3, p4, p5, q1, q2, q3, q4, q5, r8, r67, r1, r2, r3, r4, r5, t1, t2, t3, t4, t5, ck_true, cI_some, cL_some, e1', e2', lg_refl, if_true, if_false]
theorem LC_888 {c n i : Nat} {xs : Nat → Int32} {h : MH} (I : INV c h) (s : sk xs n h) (hi : 6 * i + 6 ≤ n) (hn : n ≤ 384) (d : Nat) : LCG c n xs i d 888 h := by
  obtain ⟨v, h1, h2, e1, e2, I2⟩ := A_said I (d + 10) (xs (6 * i + 1)) (xs (6 * i + 2))
  have e1' : mE mtab (d + 13) 312 [.ref 8, .int (xs (6 * i + 1)), .int (xs (6 * i + 2))] h = some (.int v, h1) := e1
  have e2' : mE mtab (d + 13) 313 [.ref 67, .int (xs (6 * i + 1)), .int (xs (6 * i + 2))] h1 = some (.int v, h2) := e2
  have s1 := sk_callm (d + 13) _ _ _ _ _ rfl e1' s
  have s2 := sk_callm (d + 13) _ _ _ _ _ rfl e2' s1
  obtain ⟨p8, p67, ⟨p1, q1⟩, ⟨p2, q2⟩, ⟨p3, q3⟩, ⟨p4, q4⟩, ⟨p5, q5⟩⟩ := SF s hi hn
  obtain ⟨r8, r67, ⟨r1, t1⟩, ⟨r2, t2⟩, ⟨r3, t3⟩, ⟨r4, t4⟩, ⟨r5, t5⟩⟩ := SF s1 hi hn
  refine ⟨h2, ?_, I2, s2⟩
  simp only [D_L_law_888, p8, p67, p1, p2, p3, p4, p5, q1, q2, q3, q4, q5, r8, r67, r1, r2, r3, r4, r5, t1, t2, t3, t4, t5, ck_true, cI_some, cL_some, e1', e2', lg_refl, if_true, if_false]
theorem LC_915 {c n i : Nat} {xs : Nat → Int32} {h : MH} (I : INV c h) (s : sk xs n h) (hi : 6 * i + 6 ≤ n) (hn : n ≤ 384) (d : Nat) : LCG c n xs i d 915 h := by
  obtain ⟨v, h1, h2, e1, e2, I2⟩ := A_whose I (d + 4)
  have e1' : mE mtab (d + 13) 315 [.ref 8] h = some (.int v, h1) := e1
  have e2' : mE mtab (d + 13) 316 [.ref 67] h1 = some (.int v, h2) := e2
  have s1 := sk_callm (d + 13) _ _ _ _ _ rfl e1' s
  have s2 := sk_callm (d + 13) _ _ _ _ _ rfl e2' s1
  obtain ⟨p8, p67, ⟨p1, q1⟩, ⟨p2, q2⟩, ⟨p3, q3⟩, ⟨p4, q4⟩, ⟨p5, q5⟩⟩ := SF s hi hn
  obtain ⟨r8, r67, ⟨r1, t1⟩, ⟨r2, t2⟩, ⟨r3, t3⟩, ⟨r4, t4⟩, ⟨r5, t5⟩⟩ := SF s1 hi hn
  refine ⟨h2, ?_, I2, s2⟩
  simp only [D_L_law_915, p8, p67, p1, p2, p3, p4, p5, q1, q2, q3, q4, q5, r8, r67, r1, r2, r3, r4, r5, t1, t2, t3, t4, t5, ck_true, cI_some, cL_some, e1', e2', lg_refl, if_true, if_false]
theorem LC_922 {c n i : Nat} {xs : Nat → Int32} {h : MH} (I : INV c h) (s : sk xs n h) (hi : 6 * i + 6 ≤ n) (hn : n ≤ 384) (d : Nat) : LCG c n xs i d 922 h := by
  obtain ⟨v, h1, h2, e1, e2, I2⟩ := A_free I (d + 2) (xs (6 * i + 1))
  have e1' : mE mtab (d + 13) 317 [.ref 8, .int (xs (6 * i + 1))] h = some (.int v, h1) := e1
  have e2' : mE mtab (d + 13) 318 [.ref 67, .int (xs (6 * i + 1))] h1 = some (.int v, h2) := e2
  have s1 := sk_callm (d + 13) _ _ _ _ _ rfl e1' s
  have s2 := sk_callm (d + 13) _ _ _ _ _ rfl e2' s1
  obtain ⟨p8, p67, ⟨p1, q1⟩, ⟨p2, q2⟩, ⟨p3, q3⟩, ⟨p4, q4⟩, ⟨p5, q5⟩⟩ := SF s hi hn
  obtain ⟨r8, r67, ⟨r1, t1⟩, ⟨r2, t2⟩, ⟨r3, t3⟩, ⟨r4, t4⟩, ⟨r5, t5⟩⟩ := SF s1 hi hn
  refine ⟨h2, ?_, I2, s2⟩
  simp only [D_L_law_922, p8, p67, p1, p2, p3, p4, p5, q1, q2, q3, q4, q5, r8, r67, r1, r2, r3, r4, r5, t1, t2, t3, t4, t5, ck_true, cI_some, cL_some, e1', e2', lg_refl, if_true, if_false]
theorem LC_939 {c n i : Nat} {xs : Nat → Int32} {h : MH} (I : INV c h) (s : sk xs n h) (hi : 6 * i + 6 ≤ n) (hn : n ≤ 384) (d : Nat) : LCG c n xs i d 939 h := by
  obtain ⟨v, h1, h2, e1, e2, I2⟩ := A_lone I (d + 10)
  have e1' : mE mtab (d + 13) 319 [.ref 8] h = some (.int v, h1) := e1
  have e2' : mE mtab (d + 13) 320 [.ref 67] h1 = some (.int v, h2) := e2
  have s1 := sk_callm (d + 13) _ _ _ _ _ rfl e1' s
  have s2 := sk_callm (d + 13) _ _ _ _ _ rfl e2' s1
  obtain ⟨p8, p67, ⟨p1, q1⟩, ⟨p2, q2⟩, ⟨p3, q3⟩, ⟨p4, q4⟩, ⟨p5, q5⟩⟩ := SF s hi hn
  obtain ⟨r8, r67, ⟨r1, t1⟩, ⟨r2, t2⟩, ⟨r3, t3⟩, ⟨r4, t4⟩, ⟨r5, t5⟩⟩ := SF s1 hi hn
  refine ⟨h2, ?_, I2, s2⟩
  simp only [D_L_law_939, p8, p67, p1, p2, p3, p4, p5, q1, q2, q3, q4, q5, r8, r67, r1, r2, r3, r4, r5, t1, t2, t3, t4, t5, ck_true, cI_some, cL_some, e1', e2', lg_refl, if_true, if_false]
theorem LC_946 {c n i : Nat} {xs : Nat → Int32} {h : MH} (I : INV c h) (s : sk xs n h) (hi : 6 * i + 6 ≤ n) (hn : n ≤ 384) (d : Nat) : LCG c n xs i d 946 h := by
  obtain ⟨v, h1, h2, e1, e2, I2⟩ := A_heaviest I (d + 9)
  have e1' : mE mtab (d + 13) 321 [.ref 8] h = some (.int v, h1) := e1
  have e2' : mE mtab (d + 13) 322 [.ref 67] h1 = some (.int v, h2) := e2
  have s1 := sk_callm (d + 13) _ _ _ _ _ rfl e1' s
  have s2 := sk_callm (d + 13) _ _ _ _ _ rfl e2' s1
  obtain ⟨p8, p67, ⟨p1, q1⟩, ⟨p2, q2⟩, ⟨p3, q3⟩, ⟨p4, q4⟩, ⟨p5, q5⟩⟩ := SF s hi hn
  obtain ⟨r8, r67, ⟨r1, t1⟩, ⟨r2, t2⟩, ⟨r3, t3⟩, ⟨r4, t4⟩, ⟨r5, t5⟩⟩ := SF s1 hi hn
  refine ⟨h2, ?_, I2, s2⟩
  simp only [D_L_law_946, p8, p67, p1, p2, p3, p4, p5, q1, q2, q3, q4, q5, r8, r67, r1, r2, r3, r4, r5, t1, t2, t3, t4, t5, ck_true, cI_some, cL_some, e1', e2', lg_refl, if_true, if_false]
theorem LC_953 {c n i : Nat} {xs : Nat → Int32} {h : MH} (I : INV c h) (s : sk xs n h) (hi : 6 * i + 6 ≤ n) (hn : n ≤ 384) (d : Nat) : LCG c n xs i d 953 h := by
  obtain ⟨v, h1, h2, e1, e2, I2⟩ := A_travelled I (d + 9)
  have e1' : mE mtab (d + 13) 324 [.ref 8] h = some (.int v, h1) := e1
  have e2' : mE mtab (d + 13) 326 [.ref 67] h1 = some (.int v, h2) := e2
  have s1 := sk_callm (d + 13) _ _ _ _ _ rfl e1' s
  have s2 := sk_callm (d + 13) _ _ _ _ _ rfl e2' s1
  obtain ⟨p8, p67, ⟨p1, q1⟩, ⟨p2, q2⟩, ⟨p3, q3⟩, ⟨p4, q4⟩, ⟨p5, q5⟩⟩ := SF s hi hn
  obtain ⟨r8, r67, ⟨r1, t1⟩, ⟨r2, t2⟩, ⟨r3, t3⟩, ⟨r4, t4⟩, ⟨r5, t5⟩⟩ := SF s1 hi hn
  refine ⟨h2, ?_, I2, s2⟩
  simp only [D_L_law_953, p8, p67, p1, p2, p3, p4, p5, q1, q2, q3, q4, q5, r8, r67, r1, r2, r3, r4, r5, t1, t2, t3, t4, t5, ck_true, cI_some, cL_some, e1', e2', lg_refl, if_true, if_false]
theorem LC_960 {c n i : Nat} {xs : Nat → Int32} {h : MH} (I : INV c h) (s : sk xs n h) (hi : 6 * i + 6 ≤ n) (hn : n ≤ 384) (d : Nat) : LCG c n xs i d 960 h := by
  obtain ⟨v, h1, h2, e1, e2, I2⟩ := A_ledger I (d + 9) (xs (6 * i + 1))
  have e1' : mE mtab (d + 13) 327 [.ref 8, .int (xs (6 * i + 1))] h = some (.int v, h1) := e1
  have e2' : mE mtab (d + 13) 328 [.ref 67, .int (xs (6 * i + 1))] h1 = some (.int v, h2) := e2
  have s1 := sk_callm (d + 13) _ _ _ _ _ rfl e1' s
  have s2 := sk_callm (d + 13) _ _ _ _ _ rfl e2' s1
  obtain ⟨p8, p67, ⟨p1, q1⟩, ⟨p2, q2⟩, ⟨p3, q3⟩, ⟨p4, q4⟩, ⟨p5, q5⟩⟩ := SF s hi hn
  obtain ⟨r8, r67, ⟨r1, t1⟩, ⟨r2, t2⟩, ⟨r3, t3⟩, ⟨r4, t4⟩, ⟨r5, t5⟩⟩ := SF s1 hi hn
  refine ⟨h2, ?_, I2, s2⟩
  simp only [D_L_law_960, p8, p67, p1, p2, p3, p4, p5, q1, q2, q3, q4, q5, r8, r67, r1, r2, r3, r4, r5, t1, t2, t3, t4, t5, ck_true, cI_some, cL_some, e1', e2', lg_refl, if_true, if_false]
theorem LC_977 {c n i : Nat} {xs : Nat → Int32} {h : MH} (I : INV c h) (s : sk xs n h) (hi : 6 * i + 6 ≤ n) (hn : n ≤ 384) (d : Nat) : LCG c n xs i d 977 h := by
  obtain ⟨v, h1, h2, e1, e2, I2⟩ := A_image I (d + 10)
  have e1' : mE mtab (d + 13) 332 [.ref 8] h = some (.int v, h1) := e1
  have e2' : mE mtab (d + 13) 333 [.ref 67] h1 = some (.int v, h2) := e2
  have s1 := sk_callm (d + 13) _ _ _ _ _ rfl e1' s
  have s2 := sk_callm (d + 13) _ _ _ _ _ rfl e2' s1
  obtain ⟨p8, p67, ⟨p1, q1⟩, ⟨p2, q2⟩, ⟨p3, q3⟩, ⟨p4, q4⟩, ⟨p5, q5⟩⟩ := SF s hi hn
  obtain ⟨r8, r67, ⟨r1, t1⟩, ⟨r2, t2⟩, ⟨r3, t3⟩, ⟨r4, t4⟩, ⟨r5, t5⟩⟩ := SF s1 hi hn
  refine ⟨h2, ?_, I2, s2⟩
  simp only [D_L_law_977, p8, p67, p1, p2, p3, p4, p5, q1, q2, q3, q4, q5, r8, r67, r1, r2, r3, r4, r5, t1, t2, t3, t4, t5, ck_true, cI_some, cL_some, e1', e2', lg_refl, if_true, if_false]
theorem LC_984 {c n i : Nat} {xs : Nat → Int32} {h : MH} (I : INV c h) (s : sk xs n h) (hi : 6 * i + 6 ≤ n) (hn : n ≤ 384) (d : Nat) : LCG c n xs i d 984 h := by
  obtain ⟨v, h1, h2, e1, e2, I2⟩ := A_back I (d + 10)
  have e1' : mE mtab (d + 13) 334 [.ref 8] h = some (.int v, h1) := e1
  have e2' : mE mtab (d + 13) 335 [.ref 67] h1 = some (.int v, h2) := e2
  have s1 := sk_callm (d + 13) _ _ _ _ _ rfl e1' s
  have s2 := sk_callm (d + 13) _ _ _ _ _ rfl e2' s1
  obtain ⟨p8, p67, ⟨p1, q1⟩, ⟨p2, q2⟩, ⟨p3, q3⟩, ⟨p4, q4⟩, ⟨p5, q5⟩⟩ := SF s hi hn
  obtain ⟨r8, r67, ⟨r1, t1⟩, ⟨r2, t2⟩, ⟨r3, t3⟩, ⟨r4, t4⟩, ⟨r5, t5⟩⟩ := SF s1 hi hn
  refine ⟨h2, ?_, I2, s2⟩
  simp only [D_L_law_984, p8, p67, p1, p2, p3, p4, p5, q1, q2, q3, q4, q5, r8, r67, r1, r2, r3, r4, r5, t1, t2, t3, t4, t5, ck_true, cI_some, cL_some, e1', e2', lg_refl, if_true, if_false]
theorem LC_991 {c n i : Nat} {xs : Nat → Int32} {h : MH} (I : INV c h) (s : sk xs n h) (hi : 6 * i + 6 ≤ n) (hn : n ≤ 384) (d : Nat) : LCG c n xs i d 991 h := by
  obtain ⟨v, h1, h2, e1, e2, I2⟩ := A_about I (d + 11) (xs (6 * i + 1))
  have e1' : mE mtab (d + 13) 336 [.ref 8, .int (xs (6 * i + 1))] h = some (.int v, h1) := e1
  have e2' : mE mtab (d + 13) 337 [.ref 67, .int (xs (6 * i + 1))] h1 = some (.int v, h2) := e2
  have s1 := sk_callm (d + 13) _ _ _ _ _ rfl e1' s
  have s2 := sk_callm (d + 13) _ _ _ _ _ rfl e2' s1
  obtain ⟨p8, p67, ⟨p1, q1⟩, ⟨p2, q2⟩, ⟨p3, q3⟩, ⟨p4, q4⟩, ⟨p5, q5⟩⟩ := SF s hi hn
  obtain ⟨r8, r67, ⟨r1, t1⟩, ⟨r2, t2⟩, ⟨r3, t3⟩, ⟨r4, t4⟩, ⟨r5, t5⟩⟩ := SF s1 hi hn
  refine ⟨h2, ?_, I2, s2⟩
  simp only [D_L_law_991, p8, p67, p1, p2, p3, p4, p5, q1, q2, q3, q4, q5, r8, r67, r1, r2, r3, r4, r5, t1, t2, t3, t4, t5, ck_true, cI_some, cL_some, e1', e2', lg_refl, if_true, if_false]
theorem lw6 {n i : Nat} (hn : n ≤ 384) (hi : i ≤ 64) : nI (6 * i) ≤ nI n - 6 ↔ 6 * i + 6 ≤ n := by
  rw [nI_zI, nI_zI, show (6 : Int32) = zI 6 by decide +kernel, zI_sub, zI_le (by omega) (by omega)]
  omega
theorem law_loop (d : Nat) (T : TXT d) {n : Nat} {xs : Nat → Int32} (hn : n ≤ 384) : ∀ m c i h, i + m = 64 → c ≤ i → INV c h → sk xs n h → ∃ hF, mX (mE mtab (d + 13)) KL_law 10 [some (.ref 1), some (.ref 8), some (.ref 67), some (.int (nI (6 * i)))] [] h = some (.int 1, hF) ∧ INV 64 hF := by
  have up : ∀ m c h, c + m = 64 → INV c h → INV 64 h := by
    intro m
    induction m with
    | zero => intro c h e I; rw [← show c = 64 by omega]; exact I
    | succ m ih => intro c h e I; exact ih (c + 1) h (by omega) (INV_up I)
  intro m
  induction m with
  | zero =>
    intro c i h hm hc I s
    have k1 : kd h 1 = 24 := s.1.2.1 1 (by decide)
    refine ⟨h, ?_, up (64 - c) c h (by omega) I⟩
    rw [D_L_law_10, ck_pos (by rw [k1]; decide), s.2.1, if_neg (fun w => by have := (lw6 hn (by omega)).mp w; omega)]
  | succ m ih =>
    intro c i h hm hc I s
    have k1 : kd h 1 = 24 := s.1.2.1 1 (by decide)
    by_cases hi : 6 * i + 6 ≤ n
    · have fin : ∀ k, LCG (c + 1) n xs i d k h → ∃ hF, mX (mE mtab (d + 13)) KL_law k [some (.ref 1), some (.ref 8), some (.ref 67), some (.int (nI (6 * i)))] [] h = some (.int 1, hF) ∧ INV 64 hF := by
        rintro k ⟨h', e, I', s'⟩
        obtain ⟨hF, e2, IF⟩ := ih (c + 1) (i + 1) h' (by omega) (by omega) I' s'
        refine ⟨hF, ?_, IF⟩
        rw [e, D_L_law_1008, nIb, ← e2, Nat.mul_succ]
      have fin' : ∀ k, LCG c n xs i d k h → ∃ hF, mX (mE mtab (d + 13)) KL_law k [some (.ref 1), some (.ref 8), some (.ref 67), some (.int (nI (6 * i)))] [] h = some (.int 1, hF) ∧ INV 64 hF := fun k ⟨h', e, I', s'⟩ => fin k ⟨h', e, INV_up I', s'⟩
      rw [D_L_law_10, ck_pos (by rw [k1]; decide), s.2.1, if_pos ((lw6 hn (by omega)).mpr hi), ck_pos ⟨Or.inr k1, ib_nI (by omega) (by omega)⟩]
      generalize (gI h 1 (ix (nI (6 * i))) &&& 63) = op
      by_cases q0 : op = 0
      · rw [if_pos q0]; exact fin' _ (LC_22 I s hi hn d)
      rw [if_neg q0]
      by_cases q1 : op = 1
      · rw [if_pos q1]; exact fin' _ (LC_49 I s hi hn d)
      rw [if_neg q1]
      by_cases q2 : op = 2
      · rw [if_pos q2]; exact fin' _ (LC_76 I s hi hn d)
      rw [if_neg q2]
      by_cases q3 : op = 3
      · rw [if_pos q3]; exact fin' _ (LC_103 I s hi hn d)
      rw [if_neg q3]
      by_cases q4 : op = 4
      · rw [if_pos q4]; exact fin' _ (LC_160 I s hi hn d)
      rw [if_neg q4]
      by_cases q5 : op = 5
      · rw [if_pos q5]; exact fin _ (LC_177 I s hi hn d (by omega) T)
      rw [if_neg q5]
      by_cases q6 : op = 6
      · rw [if_pos q6]; exact fin' _ (LC_184 I s hi hn d)
      rw [if_neg q6]
      by_cases q7 : op = 7
      · rw [if_pos q7]; exact fin' _ (LC_201 I s hi hn d)
      rw [if_neg q7]
      by_cases q8 : op = 8
      · rw [if_pos q8]; exact fin' _ (LC_218 I s hi hn d)
      rw [if_neg q8]
      by_cases q9 : op = 9
      · rw [if_pos q9]; exact fin' _ (LC_253 I s hi hn d)
      rw [if_neg q9]
      by_cases q10 : op = 10
      · rw [if_pos q10]; exact fin' _ (LC_316 I s hi hn d)
      rw [if_neg q10]
      by_cases q11 : op = 11
      · rw [if_pos q11]; exact fin' _ (LC_343 I s hi hn d)
      rw [if_neg q11]
      by_cases q12 : op = 12
      · rw [if_pos q12]; exact fin' _ (LC_360 I s hi hn d)
      rw [if_neg q12]
      by_cases q13 : op = 13
      · rw [if_pos q13]; exact fin' _ (LC_377 I s hi hn d)
      rw [if_neg q13]
      by_cases q14 : op = 14
      · rw [if_pos q14]; exact fin' _ (LC_404 I s hi hn d)
      rw [if_neg q14]
      by_cases q15 : op = 15
      · rw [if_pos q15]; exact fin' _ (LC_411 I s hi hn d)
      rw [if_neg q15]
      by_cases q16 : op = 16
      · rw [if_pos q16]; exact fin' _ (LC_438 I s hi hn d)
      rw [if_neg q16]
      by_cases q17 : op = 17
      · rw [if_pos q17]; exact fin' _ (LC_465 I s hi hn d)
      rw [if_neg q17]
      by_cases q18 : op = 18
      · rw [if_pos q18]; exact fin' _ (LC_482 I s hi hn d)
      rw [if_neg q18]
      by_cases q19 : op = 19
      · rw [if_pos q19]; exact fin' _ (LC_509 I s hi hn d)
      rw [if_neg q19]
      by_cases q20 : op = 20
      · rw [if_pos q20]; exact fin' _ (LC_536 I s hi hn d)
      rw [if_neg q20]
      by_cases q21 : op = 21
      · rw [if_pos q21]; exact fin' _ (LC_563 I s hi hn d)
      rw [if_neg q21]
      by_cases q22 : op = 22
      · rw [if_pos q22]; exact fin' _ (LC_598 I s hi hn d)
      rw [if_neg q22]
      by_cases q23 : op = 23
      · rw [if_pos q23]; exact fin' _ (LC_623 I s hi hn d)
      rw [if_neg q23]
      by_cases q24 : op = 24
      · rw [if_pos q24]; exact fin' _ (LC_648 I s hi hn d)
      rw [if_neg q24]
      by_cases q25 : op = 25
      · rw [if_pos q25]; exact fin' _ (LC_665 I s hi hn d)
      rw [if_neg q25]
      by_cases q26 : op = 26
      · rw [if_pos q26]; exact fin' _ (LC_692 I s hi hn d)
      rw [if_neg q26]
      by_cases q27 : op = 27
      · rw [if_pos q27]; exact fin' _ (LC_717 I s hi hn d)
      rw [if_neg q27]
      by_cases q28 : op = 28
      · rw [if_pos q28]; exact fin' _ (LC_725 I s hi hn d)
      rw [if_neg q28]
      by_cases q29 : op = 29
      · rw [if_pos q29]; exact fin' _ (LC_742 I s hi hn d)
      rw [if_neg q29]
      by_cases q30 : op = 30
      · rw [if_pos q30]; exact fin' _ (LC_777 I s hi hn d)
      rw [if_neg q30]
      by_cases q31 : op = 31
      · rw [if_pos q31]; exact fin' _ (LC_812 I s hi hn d)
      rw [if_neg q31]
      by_cases q32 : op = 32
      · rw [if_pos q32]; exact fin' _ (LC_829 I s hi hn d)
      rw [if_neg q32]
      by_cases q33 : op = 33
      · rw [if_pos q33]; exact fin' _ (LC_846 I s hi hn d)
      rw [if_neg q33]
      by_cases q34 : op = 34
      · rw [if_pos q34]; exact fin' _ (LC_871 I s hi hn d)
      rw [if_neg q34]
      by_cases q35 : op = 35
      · rw [if_pos q35]; exact fin' _ (LC_888 I s hi hn d)
      rw [if_neg q35]
      by_cases q36 : op = 36
      · rw [if_pos q36]; exact fin' _ (LC_915 I s hi hn d)
      rw [if_neg q36]
      by_cases q37 : op = 37
      · rw [if_pos q37]; exact fin' _ (LC_922 I s hi hn d)
      rw [if_neg q37]
      by_cases q38 : op = 38
      · rw [if_pos q38]; exact fin' _ (LC_939 I s hi hn d)
      rw [if_neg q38]
      by_cases q39 : op = 39
      · rw [if_pos q39]; exact fin' _ (LC_946 I s hi hn d)
      rw [if_neg q39]
      by_cases q40 : op = 40
      · rw [if_pos q40]; exact fin' _ (LC_953 I s hi hn d)
      rw [if_neg q40]
      by_cases q41 : op = 41
      · rw [if_pos q41]; exact fin' _ (LC_960 I s hi hn d)
      rw [if_neg q41]
      by_cases q42 : op = 42
      · rw [if_pos q42]; exact fin' _ (LC_977 I s hi hn d)
      rw [if_neg q42]
      by_cases q43 : op = 43
      · rw [if_pos q43]; exact fin' _ (LC_984 I s hi hn d)
      rw [if_neg q43]
      by_cases q44 : op = 44
      · rw [if_pos q44]; exact fin' _ (LC_991 I s hi hn d)
      rw [if_neg q44]
      exact fin' _ ⟨h, rfl, I, s⟩
    · refine ⟨h, ?_, up (64 - c) c h (by omega) I⟩
      rw [D_L_law_10, ck_pos (by rw [k1]; decide), s.2.1, if_neg (fun w => hi ((lw6 hn (by omega)).mp w))]
