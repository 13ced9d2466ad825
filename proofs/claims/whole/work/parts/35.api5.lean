--deps:19.lay 21.facts 22.00.names 22.01.eq 22.02.eq 22.03.eq 22.04.eq 22.05.eq 22.06.eq 22.07.eq 22.08.eq 22.09.eq 22.10.eq 22.11.eq 22.12.eq 22.13.eq 22.14.eq 22.15.eq 22.16.eq 22.17.eq 22.18.eq 22.19.eq 22.20.eq 22.21.eq 22.22.eq 22.23.eq 23.num 24.town 25.evc 26.evm 27.law 28.says 29.inv 30.api1 31.copy 32.api2 33.api3 34.api4
/-! QUESTIONS: cat, swap, slips -/
set_option linter.unusedSectionVars false
def catC (m : Int32) (k : Nat) : Prop := nI (k / 9 + 1) * (nI (k % 9) - 4) = m
def catV (k : Nat) : Int32 := 10 * nI (k / 9 + 1) + nI (k % 9)
noncomputable def catS (m : Int32) (k : Nat) (s : Int32 × Int32) : Int32 × Int32 := @ite _ (catC m k) (mcD _) (s.1 + 1, if s.2 = -1 then catV k else s.2) s
theorem catV_ne {k : Nat} (hk : k < 81) : ¬ catV k = -1 := by
  unfold catV
  rw [nIm, nI_add]
  exact nI_m1 (by omega)
theorem cat_low {m : Int32} : ∀ j, j ≤ 81 → ((∀ i, i < j → ¬ catC m i) → (itr (catS m) (0, -1) j).2 = -1) ∧ (∀ i, i < j → catC m i → (∀ i', i' < i → ¬ catC m i') → (itr (catS m) (0, -1) j).2 = catV i) := by
  intro j
  induction j with
  | zero => intro _; exact ⟨fun _ => rfl, fun i hi => absurd hi (by omega)⟩
  | succ j ih =>
    intro hj
    obtain ⟨h1, h2⟩ := ih (by omega)
    rw [itr]
    by_cases q : catC m j
    · have e : catS m j (itr (catS m) (0, -1) j) = ((itr (catS m) (0, -1) j).1 + 1, if (itr (catS m) (0, -1) j).2 = -1 then catV j else (itr (catS m) (0, -1) j).2) := if_pos q
      rw [e]
      refine ⟨fun w => absurd q (w j (by omega)), fun i hi hc hf => ?_⟩
      by_cases hij : i = j
      · subst hij
        have := h1 hf
        show (if (itr (catS m) (0, -1) i).2 = -1 then catV i else (itr (catS m) (0, -1) i).2) = catV i
        rw [if_pos this]
      · have := h2 i (by omega) hc hf
        show (if (itr (catS m) (0, -1) j).2 = -1 then catV j else (itr (catS m) (0, -1) j).2) = catV i
        rw [this, if_neg (catV_ne (by omega))]
    · have e : catS m j (itr (catS m) (0, -1) j) = itr (catS m) (0, -1) j := if_neg q
      rw [e]
      refine ⟨fun w => h1 (fun i hi => w i (by omega)), fun i hi hc hf => h2 i ?_ hc hf⟩
      by_cases hij : i = j
      · subst hij; exact absurd hc q
      · omega
section API5
theorem A_cat {c : Nat} {h : MH} (I : INV c h) (d : Nat) (a b : Int32) : AGI c (F_X10_cat (d + 4) a b) (F_X11_cat (d + 4) a b) h := by
  have L := I.1
  obtain ⟨_, ⟨n, W, P, SN, H, X, wr, tn, N, K⟩, M, R⟩ := id I
  have t := NOW_t N
  have m := NOW_m N
  by_cases ha : ¬ (-400 ≤ a ∧ a ≤ 400)
  · refine ⟨-1, h, h, ?_, ?_, I⟩
    · rw [S_X10_cat L (d + 3), c_within L, cI_some, bI_neg ha, if_pos rfl]
    · rw [S_X11_cat L (d + 3), m_isIn L, cI_some, bI_neg ha, if_pos rfl]
  replace ha := Classical.not_not.mp ha
  by_cases hb : ¬ (0 ≤ b ∧ b ≤ 1)
  · refine ⟨-1, h, h, ?_, ?_, I⟩
    · rw [S_X10_cat L (d + 3), c_within L, cI_some, bI_pos ha, if_neg i10, c_within L, cI_some, bI_neg hb, if_pos rfl]
    · rw [S_X11_cat L (d + 3), m_isIn L, cI_some, bI_pos ha, if_neg i10, m_isIn L, cI_some, bI_neg hb, if_pos rfl]
  replace hb := Classical.not_not.mp hb
  have ht := c_tipNow L (d + 2) tAt10 t
  have hm := m_tipNow L d m
  generalize zI (tipZ n W P SN) = z at ht hm
  -- the class's loops as one
  have cQ25 : ∀ j o w l, j < 9 → G_X10_cat_25 (d + 3) a b (a - z) w l (nI (j + 1)) o h = G_X10_cat_30 (d + 3) a b (a - z) w l (nI (j + 1)) 0 h := by
    intro j o w l hj
    rw [S_X10_cat_25 L (d + 3), if_pos ((nIL (by omega) (by omega)).mpr (by omega))]
  have cQ : ∀ (k : Nat) (s : Int32 × Int32), k < 81 → ∃ o, G_X10_cat_30 (d + 3) a b (a - z) s.1 s.2 (nI (k / 9 + 1)) (nI (k % 9)) h = (if k + 1 < 81 then G_X10_cat_30 (d + 3) a b (a - z) (catS (a - z) k s).1 (catS (a - z) k s).2 (nI ((k + 1) / 9 + 1)) (nI ((k + 1) % 9)) h else G_X10_cat_25 (d + 3) a b (a - z) (catS (a - z) k s).1 (catS (a - z) k s).2 (nI 10) o h) := by
    intro k s hk
    have e1 : G_X10_cat_30 (d + 3) a b (a - z) s.1 s.2 (nI (k / 9 + 1)) (nI (k % 9)) h = G_X10_cat_30 (d + 3) a b (a - z) (catS (a - z) k s).1 (catS (a - z) k s).2 (nI (k / 9 + 1)) (nI (k % 9 + 1)) h := by
      rw [S_X10_cat_30 L (d + 3), if_pos ((nIl (by omega) (by omega)).mpr (by omega)), S_X10_cat_51 L, S_X10_cat_51 L, S_X10_cat_52 L, S_X10_cat_52 L, S_X10_cat_52 L, nI_1]
      by_cases q : catC (a - z) k
      · have e : catS (a - z) k s = (s.1 + 1, if s.2 = -1 then catV k else s.2) := if_pos q
        rw [if_pos (show nI (k / 9 + 1) * (nI (k % 9) - 4) = a - z from q), e]
        dsimp only
        split <;> rfl
      · have e : catS (a - z) k s = s := if_neg q
        rw [if_neg (show ¬ nI (k / 9 + 1) * (nI (k % 9) - 4) = a - z from q), e]
    by_cases h8 : k % 9 = 8
    · refine ⟨some (.int (nI 9)), e1.trans ?_⟩
      rw [h8, S_X10_cat_30 L (d + 3), if_neg (by decide), nI_1]
      by_cases hl : k + 1 < 81
      · rw [if_pos hl, cQ25 _ _ _ _ (by omega), show (k + 1) / 9 = k / 9 + 1 by omega, show (k + 1) % 9 = 0 by omega]
        rfl
      · rw [if_neg hl, show k / 9 + 1 + 1 = 10 by omega]
    · refine ⟨none, e1.trans ?_⟩
      rw [if_pos (by omega), show (k + 1) / 9 = k / 9 by omega, show (k + 1) % 9 = k % 9 + 1 by omega]
  have cfin : F_X10_cat (d + 4) a b h = (if b = 0 then some (.int (itr (catS (a - z)) (0, -1) 81).1, h) else some (.int (itr (catS (a - z)) (0, -1) 81).2, h)) := by
    rw [S_X10_cat L (d + 3), c_within L, cI_some, bI_pos ha, if_neg i10, c_within L, cI_some, bI_pos hb, if_neg i10, ht, cI_some]
    refine (cQ25 0 none 0 (-1) (by omega)).trans ?_
    have e := loop_itr (n := 80) (f := catS (a - z)) (G := fun k s => G_X10_cat_30 (d + 3) a b (a - z) s.1 s.2 (nI (k / 9 + 1)) (nI (k % 9)) h) (fun k s hk => by
      obtain ⟨o, e⟩ := cQ k s (by omega)
      rw [if_pos (by omega)] at e
      exact e) (0, -1)
    refine e.trans ?_
    obtain ⟨o, e⟩ := cQ 80 (itr (catS (a - z)) (0, -1) 80) (by omega)
    rw [if_neg (by omega)] at e
    refine e.trans ?_
    rw [S_X10_cat_25 L (d + 3), if_neg (by decide)]
    rfl
  -- the reference's loops as one
  have mQ16 : ∀ j o w, j < 9 → G_X11_cat_16 (d + 3) a b w (nI (j + 1)) o h = G_X11_cat_21 (d + 3) a b w (nI (j + 1)) 0 h := by
    intro j o w hj
    rw [S_X11_cat_16 L (d + 3), if_pos ((nIl (by omega) (by omega)).mpr (by omega))]
  have mQ : ∀ (k : Nat) (w : Int32), k < 81 → ∃ o, ∀ w', (if k + 1 < 81 then G_X11_cat_21 (d + 3) a b w' (nI ((k + 1) / 9 + 1)) (nI ((k + 1) % 9)) h else G_X11_cat_16 (d + 3) a b w' (nI 10) o h) = G_X11_cat_21 (d + 3) a b w' (nI (k / 9 + 1)) (nI (k % 9 + 1)) h := by
    intro k w hk
    by_cases h8 : k % 9 = 8
    · refine ⟨some (.int (nI 9)), fun w' => ?_⟩
      rw [h8, S_X11_cat_21 L (d + 3) a b w' (nI (k / 9 + 1)) (nI (8 + 1)), if_neg (show ¬ nI (8 + 1) < 9 by decide), nI_1]
      by_cases hl : k + 1 < 81
      · rw [if_pos hl, mQ16 _ _ _ (by omega), show (k + 1) / 9 = k / 9 + 1 by omega, show (k + 1) % 9 = 0 by omega]
        rfl
      · rw [if_neg hl, show k / 9 + 1 + 1 = 10 by omega]
    · refine ⟨none, fun w' => ?_⟩
      rw [if_pos (by omega), show (k + 1) / 9 = k / 9 by omega, show (k + 1) % 9 = k % 9 + 1 by omega]
  have mstep : ∀ (k : Nat) (w : Int32), k < 81 → G_X11_cat_21 (d + 3) a b w (nI (k / 9 + 1)) (nI (k % 9)) h = @ite _ (catC (a - z) k) (mcD _) (if b = 1 then some (.int (catV k), h) else G_X11_cat_21 (d + 3) a b (w + 1) (nI (k / 9 + 1)) (nI (k % 9 + 1)) h) (G_X11_cat_21 (d + 3) a b w (nI (k / 9 + 1)) (nI (k % 9 + 1)) h) := by
    intro k w hk
    rw [S_X11_cat_21 L (d + 3), if_pos ((nIl (by omega) (by omega)).mpr (by omega)), hm, cI_some, S_X11_cat_45 L, S_X11_cat_45 L, nI_1]
    have e : z + nI (k / 9 + 1) * (nI (k % 9) - 4) = a ↔ catC (a - z) k := by
      unfold catC
      generalize nI (k / 9 + 1) * (nI (k % 9) - 4) = y
      constructor
      · intro e; rw [← e]; grind
      · intro e; rw [e]; grind
    by_cases q : catC (a - z) k
    · rw [if_pos q, if_pos (e.mpr q)]
      rfl
    · rw [if_neg q, if_neg (fun w => q (e.mp w))]
  have mstart : F_X11_cat (d + 4) a b h = G_X11_cat_21 (d + 3) a b 0 (nI (0 / 9 + 1)) (nI (0 % 9)) h := by
    rw [S_X11_cat L (d + 3), m_isIn L, cI_some, bI_pos ha, if_neg i10, m_isIn L, cI_some, bI_pos hb, if_neg i10]
    exact mQ16 0 none 0 (by omega)
  rcases in_cases (a := b) (N := 2) (by omega) with ⟨e, hne⟩ | ⟨j, hj, rfl, e⟩
  · exact absurd ((ib_iff (n := 2) (by omega)).mp hb) hne
  by_cases hj0 : j = 0
  · subst hj0
    refine ⟨_, h, h, by rw [cfin, if_pos (show nI 0 = 0 from rfl)], ?_, I⟩
    rw [mstart]
    have b1 : ¬ nI 0 = 1 := by decide
    have st : ∀ k, k < 81 → ∃ o, G_X11_cat_21 (d + 3) a (nI 0) (itr (catS (a - z)) (0, -1) k).1 (nI (k / 9 + 1)) (nI (k % 9)) h = (if k + 1 < 81 then G_X11_cat_21 (d + 3) a (nI 0) (itr (catS (a - z)) (0, -1) (k + 1)).1 (nI ((k + 1) / 9 + 1)) (nI ((k + 1) % 9)) h else G_X11_cat_16 (d + 3) a (nI 0) (itr (catS (a - z)) (0, -1) (k + 1)).1 (nI 10) o h) := by
      intro k hk
      obtain ⟨o, e⟩ := mQ k 0 hk
      refine ⟨o, ?_⟩
      rw [e, mstep k _ hk, itr]
      by_cases q : catC (a - z) k
      · have e2 : catS (a - z) k (itr (catS (a - z)) (0, -1) k) = ((itr (catS (a - z)) (0, -1) k).1 + 1, if (itr (catS (a - z)) (0, -1) k).2 = -1 then catV k else (itr (catS (a - z)) (0, -1) k).2) := if_pos q
        rw [if_pos q, if_neg b1, e2]
      · have e2 : catS (a - z) k (itr (catS (a - z)) (0, -1) k) = itr (catS (a - z)) (0, -1) k := if_neg q
        rw [if_neg q, e2]
    refine (loop_all (n := 80) (F := fun k => G_X11_cat_21 (d + 3) a (nI 0) (itr (catS (a - z)) (0, -1) k).1 (nI (k / 9 + 1)) (nI (k % 9)) h) (fun k hk => ?_)).trans ?_
    · obtain ⟨o, e⟩ := st k (by omega)
      rw [if_pos (by omega)] at e
      exact e
    · obtain ⟨o, e⟩ := st 80 (by omega)
      rw [if_neg (by omega)] at e
      refine e.trans ?_
      rw [S_X11_cat_16 L (d + 3), if_neg (by decide), if_neg b1]
  · obtain rfl : j = 1 := by omega
    have b1 : nI 1 = 1 := rfl
    have b0 : ¬ nI 1 = 0 := by decide
    refine ⟨_, h, h, by rw [cfin, if_neg b0], ?_, I⟩
    rw [mstart]
    have st : ∀ k, k < 81 → ¬ catC (a - z) k → ∃ o, G_X11_cat_21 (d + 3) a (nI 1) 0 (nI (k / 9 + 1)) (nI (k % 9)) h = (if k + 1 < 81 then G_X11_cat_21 (d + 3) a (nI 1) 0 (nI ((k + 1) / 9 + 1)) (nI ((k + 1) % 9)) h else G_X11_cat_16 (d + 3) a (nI 1) 0 (nI 10) o h) := by
      intro k hk q
      obtain ⟨o, e⟩ := mQ k 0 hk
      refine ⟨o, ?_⟩
      rw [e, mstep k _ hk, if_neg q]
    have lw := cat_low (m := a - z) 81 (Nat.le_refl _)
    rcases loop_find (n := 80) (P := catC (a - z)) (G := fun k => G_X11_cat_21 (d + 3) a (nI 1) 0 (nI (k / 9 + 1)) (nI (k % 9)) h) (fun k hk q => by
      obtain ⟨o, e⟩ := st k (by omega) q
      rw [if_pos (by omega)] at e
      exact e) with ⟨i, hi, q, hf, e⟩ | ⟨hf, e⟩
    · refine e.trans ?_
      rw [mstep i _ (by omega), if_pos q, if_pos b1, lw.2 i (by omega) q hf]
    · refine e.trans ?_
      by_cases q : catC (a - z) 80
      · rw [mstep 80 _ (by omega), if_pos q, if_pos b1, lw.2 80 (by omega) q hf]
      · obtain ⟨o, e⟩ := st 80 (by omega) q
        rw [if_neg (by omega)] at e
        refine e.trans ?_
        rw [S_X11_cat_16 L (d + 3), if_neg (by decide), if_pos b1, lw.1 (fun i hi => by
          by_cases hh : i = 80
          · subst hh; exact q
          · exact hf i (by omega))]
end API5
