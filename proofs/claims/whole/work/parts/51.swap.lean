--deps:19.lay 21.facts 22.00.names 22.01.eq 22.02.eq 22.03.eq 22.04.eq 22.05.eq 22.06.eq 22.07.eq 22.08.eq 22.09.eq 22.10.eq 22.11.eq 22.12.eq 22.13.eq 22.14.eq 22.15.eq 22.16.eq 22.17.eq 22.18.eq 22.19.eq 22.20.eq 22.21.eq 22.22.eq 22.23.eq 23.num 24.town 25.evc 26.evm 27.law 28.says 29.inv 30.api1 31.copy 32.api2 33.api3 34.api4 35.api5 36.deeds 37.hours 38.mdeeds 39.mhours 40.hist 41.full 42.acts 43.acts2 44.played 45.undo 46.trial 47.sets 48.sets2 49.image 50.ask
/-! SWAP; STANDINGS as numbers; LEVEL -/
set_option linter.unusedSectionVars false
def swZ (tip : Int) (W P : Nat → Nat) (a b : Nat) : Int := tip + ((W a : Int) - W b) * ((P b : Int) - P a)
def swS (tip : Int) (W P : Nat → Nat) (p q : Nat) (o : Option (Nat × Nat)) : Option (Nat × Nat) := match o with
  | none => some (p, q)
  | some r => if (swZ tip W P p q).natAbs < (swZ tip W P r.1 r.2).natAbs then some (p, q) else some r
def swI (tip : Int) (W P : Nat → Nat) (n p : Nat) (o : Option (Nat × Nat)) : Option (Nat × Nat) := itr (fun i o => swS tip W P p (p + 1 + i) o) o (n - (p + 1))
def swE (o : Option (Nat × Nat)) : Int32 := match o with
  | none => -1
  | some r => nI (10 * r.1 + r.2)
def swB (tip : Int) (W P : Nat → Nat) (o : Option (Nat × Nat)) : Int32 := match o with
  | none => -1000
  | some r => zI (swZ tip W P r.1 r.2)
def swV (n : Nat) (o : Option (Nat × Nat)) : Prop := ∀ r, o = some r → r.1 < n ∧ r.2 < n
theorem swS_v {tip : Int} {W P : Nat → Nat} {n p q : Nat} {o : Option (Nat × Nat)} (hp : p < n) (hq : q < n) (v : swV n o) : swV n (swS tip W P p q o) := by
  intro r e
  unfold swS at e
  cases o with
  | none => cases e; exact ⟨hp, hq⟩
  | some r' =>
    dsimp only at e
    split at e
    · cases e; exact ⟨hp, hq⟩
    · cases e; exact v r rfl
theorem A_swap {c : Nat} {h : MH} (I : INV c h) (d : Nat) (a : Int32) : AGI c (F_X10_swap (d + 5) a) (F_X11_swap (d + 5) a) h := by
  have L := I.1
  obtain ⟨_, ⟨n, W, P, SN, H, X, wr, tn, N, K⟩, M, R⟩ := id I
  have t := NOW_t N
  have m := NOW_m N
  have hn := t.1
  have tb' := twn_b t
  have hW : ∀ p, p < n → W p ≤ 9 := fun p hp => (t.2.2.1 p hp).2
  have hP : ∀ p, p < n → P p ≤ 8 := fun p hp => (t.2.2.2.1 p hp).2
  have ct : ∀ x y, x < n → y < n → F_X9_tipSwapped (d + 4) 10 (nI x) (nI y) h = some (.int (zI (swZ (tipZ n W P SN) W P x y)), h) := fun x y hx hy => c_tipSwapped L (d + 2) tAt10 t hx hy
  have mt : ∀ x y, x < n → y < n → F_X11_swapped (d + 4) (nI x) (nI y) h = some (.int (zI (swZ (tipZ n W P SN) W P x y)), h) := by
    intro x y hx hy
    rw [S_X11_swapped L (d + 3), m_tipNow L d m, cI_some, nIa, ck_pos (ib_nI (by omega) (by omega)), nIa, ck_pos (ib_nI (by omega) (by omega)), nIa, ck_pos (ib_nI (by omega) (by omega)), nIa, ck_pos (ib_nI (by omega) (by omega)), ix_nI (by omega), ix_nI (by omega), ix_nI (by omega), ix_nI (by omega), (m.2.2.1 x hx).1, (m.2.2.1 y hy).1, (m.2.2.2.1 x hx).1, (m.2.2.2.1 y hy).1]
    unfold swZ
    simp only [nI_zI, zI_sub, zI_mul, zI_add]
  have bd : ∀ x y, x < n → y < n → -1000 < swZ (tipZ n W P SN) W P x y ∧ swZ (tipZ n W P SN) W P x y < 1000 := by
    intro x y hx hy
    have mb : ∀ w1 w2 p1 p2 : Nat, w1 < 10 → w2 < 10 → p1 < 9 → p2 < 9 → -72 ≤ ((w1 : Int) - w2) * ((p1 : Int) - p2) ∧ ((w1 : Int) - w2) * ((p1 : Int) - p2) ≤ 72 := by
      have q : ∀ (u : Int), -9 ≤ u → u ≤ 9 → ∀ v : Int, -8 ≤ v → v ≤ 8 → -72 ≤ u * v ∧ u * v ≤ 72 := by
        intro u h1 h2 v h3 h4
        have : ∀ k : Nat, k < 19 → ∀ j : Nat, j < 17 → -72 ≤ ((k : Int) - 9) * ((j : Int) - 8) ∧ ((k : Int) - 9) * ((j : Int) - 8) ≤ 72 := by decide +kernel
        have z := this (u + 9).toNat (by omega) (v + 8).toNat (by omega)
        rw [show (((u + 9).toNat : Nat) : Int) - 9 = u by omega, show (((v + 8).toNat : Nat) : Int) - 8 = v by omega] at z
        exact z
      intro w1 w2 p1 p2 h1 h2 h3 h4
      exact q _ (by omega) (by omega) _ (by omega) (by omega)
    have := mb (W x) (W y) (P y) (P x) (by have := hW x hx; omega) (by have := hW y hy; omega) (by have := hP y hy; omega) (by have := hP x hx; omega)
    unfold swZ
    omega
  have sz : ∀ x y, x < n → y < n → F_X11_size (d + 4) (zI (swZ (tipZ n W P SN) W P x y)) h = some (.int (nI (swZ (tipZ n W P SN) W P x y).natAbs), h) := by
    intro x y hx hy
    have := bd x y hx hy
    rw [m_size L (d + 3) (by omega), ← nI_zI]
  have ja : ∀ x y, x < n → y < n → jabs (zI (swZ (tipZ n W P SN) W P x y)) = nI (swZ (tipZ n W P SN) W P x y).natAbs := by
    intro x y hx hy
    have := bd x y hx hy
    rw [zI_abs (by omega), ← nI_zI]
  generalize tipZ n W P SN = tip at ct mt bd sz ja tb'
  have dv : ∀ r : Nat × Nat, r.1 < n → r.2 < n → nI (10 * r.1 + r.2) / 10 = nI r.1 ∧ nI (10 * r.1 + r.2) - nI (10 * r.1 + r.2) / 10 * 10 = nI r.2 ∧ ¬ nI (10 * r.1 + r.2) = -1 := by
    intro r h1 h2
    refine ⟨?_, ?_, nI_m1 (by omega)⟩
    · rw [nId (by omega) (by omega) (by omega)]; congr 1; omega
    · rw [nIr (by omega) (by omega) (by omega)]; congr 1; omega
  have e10 : gI h 10 0 = nI n := t.2.1
  -- the class's inner loop
  have ci : ∀ p o o7, p < n → swV n o → ∃ o7', swV n (swI tip W P n p o) ∧ G_X10_swap_18 (d + 4) a (swB tip W P o) (swE o) (nI p) (nI (p + 1)) o7 h = G_X10_swap_10 (d + 4) a (swB tip W P (swI tip W P n p o)) (swE (swI tip W P n p o)) (nI (p + 1)) (some (.int (nI n))) o7' h := by
    intro p o o7 hp v
    obtain ⟨o7', vv, e⟩ := loop_rel (n := n - (p + 1)) (σ := Option Value) (I := fun i _ => swV n (itr (fun i o => swS tip W P p (p + 1 + i) o) o i)) (G := fun i o7 => G_X10_swap_18 (d + 4) a (swB tip W P (itr (fun i o => swS tip W P p (p + 1 + i) o) o i)) (swE (itr (fun i o => swS tip W P p (p + 1 + i) o) o i)) (nI p) (nI (p + 1 + i)) o7 h) (s := o7) (fun i o7 hi vi => by
      have hq : p + 1 + i < n := by omega
      refine ⟨some (.int (zI (swZ tip W P p (p + 1 + i)))), swS_v hp hq vi, ?_⟩
      show G_X10_swap_18 _ _ _ _ _ _ _ _ = G_X10_swap_18 (d + 4) a (swB tip W P (swS tip W P p (p + 1 + i) _)) (swE (swS tip W P p (p + 1 + i) _)) _ _ _ _
      generalize itr (fun i o => swS tip W P p (p + 1 + i) o) o i = r at vi
      have b1 := bd p (p + 1 + i) hp hq
      rw [S_X10_swap_18 L (d + 4), e10, if_pos (nI_lt hq (by omega)), ct p _ hp hq, cI_some, S_X10_swap_35 L (d + 4), lt_def, S_X10_swap_43 L (d + 4), S_X10_swap_43 L (d + 4), nI_1, nIm, nI_add]
      cases r with
      | none => rfl
      | some r =>
        obtain ⟨v1, v2⟩ := vi r rfl
        have b2 := bd r.1 r.2 v1 v2
        show (if nI (10 * r.1 + r.2) = -1 then _ else (if jabs _ < jabs (zI (swZ tip W P r.1 r.2)) then _ else G_X10_swap_18 _ _ (zI (swZ tip W P r.1 r.2)) (nI (10 * r.1 + r.2)) _ _ _ _)) = _
        rw [if_neg (dv r v1 v2).2.2, ja p _ hp hq, ja r.1 r.2 v1 v2]
        unfold swS
        by_cases q : (swZ tip W P p (p + 1 + i)).natAbs < (swZ tip W P r.1 r.2).natAbs
        · rw [if_pos (nI_lt q (by omega))]
          dsimp only
          rw [if_pos q]
          rfl
        · rw [if_neg (nI_nlt (by omega) (by omega))]
          dsimp only
          rw [if_neg q]
          rfl) v
    refine ⟨o7', vv, e.trans ?_⟩
    show G_X10_swap_18 _ _ _ _ _ _ _ _ = _
    rw [show p + 1 + (n - (p + 1)) = n by omega, S_X10_swap_18 L (d + 4), e10, if_neg (nI_nlt (Nat.le_refl _) (by omega)), nI_1]
    rfl
  have mi : ∀ p o, p < n → swV n o → G_X11_swap_14 (d + 4) a (swE o) (nI p) (nI (p + 1)) h = G_X11_swap_4 (d + 4) a (swE (swI tip W P n p o)) (nI (p + 1)) (some (.int (nI n))) h := by
    intro p o hp v
    obtain ⟨_, vv, e⟩ := loop_rel (n := n - (p + 1)) (σ := Unit) (I := fun i _ => swV n (itr (fun i o => swS tip W P p (p + 1 + i) o) o i)) (G := fun i _ => G_X11_swap_14 (d + 4) a (swE (itr (fun i o => swS tip W P p (p + 1 + i) o) o i)) (nI p) (nI (p + 1 + i)) h) (s := ()) (fun i _ hi vi => by
      have hq : p + 1 + i < n := by omega
      refine ⟨(), swS_v hp hq vi, ?_⟩
      show G_X11_swap_14 _ _ _ _ _ _ = G_X11_swap_14 (d + 4) a (swE (swS tip W P p (p + 1 + i) _)) _ _ _
      generalize itr (fun i o => swS tip W P p (p + 1 + i) o) o i = r at vi
      have b1 := bd p (p + 1 + i) hp hq
      rw [S_X11_swap_14 L (d + 4), m.2.1, if_pos (nI_lt hq (by omega)), S_X11_swap_38 L (d + 4), lt_def, S_X11_swap_44 L (d + 4), nI_1, nIm, nI_add]
      cases r with
      | none => rfl
      | some r =>
        obtain ⟨v1, v2⟩ := vi r rfl
        have b2 := bd r.1 r.2 v1 v2
        obtain ⟨d1, d2, d3⟩ := dv r v1 v2
        rw [show swE (some r) = nI (10 * r.1 + r.2) from rfl, if_neg d3, mt p _ hp hq, cI_some, sz p _ hp hq, cI_some, d2, d1, mt r.1 r.2 v1 v2, cI_some, sz r.1 r.2 v1 v2, cI_some, S_X11_swap_38 L (d + 4), lt_def, S_X11_swap_44 L (d + 4), S_X11_swap_44 L (d + 4), nI_1, nIm, nI_add]
        unfold swS
        by_cases q : (swZ tip W P p (p + 1 + i)).natAbs < (swZ tip W P r.1 r.2).natAbs
        · rw [if_pos (nI_lt q (by omega))]
          dsimp only
          rw [if_pos q]
          rfl
        · rw [if_neg (nI_nlt (by omega) (by omega))]
          dsimp only
          rw [if_neg q]
          rfl) v
    refine e.trans ?_
    show G_X11_swap_14 _ _ _ _ _ _ = _
    rw [show p + 1 + (n - (p + 1)) = n by omega, S_X11_swap_14 L (d + 4), m.2.1, if_neg (nI_nlt (Nat.le_refl _) (by omega)), nI_1]
    rfl
  have cl : F_X10_swap (d + 5) a h = some (.int (if a = 0 then swB tip W P (itr (swI tip W P n) none n) else swE (itr (swI tip W P n) none n)), h) := by
    rw [S_X10_swap L (d + 4)]
    obtain ⟨st, vv, e⟩ := loop_rel (n := n) (σ := Option Value × Option Value) (I := fun i _ => swV n (itr (swI tip W P n) none i)) (G := fun i st => G_X10_swap_10 (d + 4) a (swB tip W P (itr (swI tip W P n) none i)) (swE (itr (swI tip W P n) none i)) (nI i) st.1 st.2 h) (s := (none, none)) (fun i st hi vi => by
      obtain ⟨o7', vv, e⟩ := ci i (itr (swI tip W P n) none i) st.2 hi vi
      refine ⟨(some (.int (nI n)), o7'), vv, ?_⟩
      show G_X10_swap_10 _ _ _ _ _ _ _ _ = G_X10_swap_10 (d + 4) a (swB tip W P (swI tip W P n i _)) (swE (swI tip W P n i _)) _ _ _ _
      rw [S_X10_swap_10 L (d + 4), e10, if_pos (nI_lt hi (by omega)), nI_1, e]) (fun r e => by cases e)
    refine (show G_X10_swap_10 (d + 4) a (-1000) (-1) 0 none none h = _ from e).trans ?_
    rw [S_X10_swap_10 L (d + 4), e10, if_neg (nI_nlt (Nat.le_refl _) (by omega))]
    split <;> rfl
  have ml : F_X11_swap (d + 5) a h = some (.int (if a = 0 then swB tip W P (itr (swI tip W P n) none n) else swE (itr (swI tip W P n) none n)), h) := by
    rw [S_X11_swap L (d + 4)]
    obtain ⟨st, vv, e⟩ := loop_rel (n := n) (σ := Option Value) (I := fun i _ => swV n (itr (swI tip W P n) none i)) (G := fun i st => G_X11_swap_4 (d + 4) a (swE (itr (swI tip W P n) none i)) (nI i) st h) (s := none) (fun i st hi vi => by
      obtain ⟨_, vv, _⟩ := ci i (itr (swI tip W P n) none i) none hi vi
      refine ⟨some (.int (nI n)), vv, ?_⟩
      show G_X11_swap_4 _ _ _ _ _ _ = G_X11_swap_4 (d + 4) a (swE (swI tip W P n i _)) _ _ _
      rw [S_X11_swap_4 L (d + 4), m.2.1, if_pos (nI_lt hi (by omega)), nI_1, mi i _ hi vi]) (fun r e => by cases e)
    refine (show G_X11_swap_4 (d + 4) a (-1) 0 none h = _ from e).trans ?_
    rw [S_X11_swap_4 L (d + 4), m.2.1, if_neg (nI_nlt (Nat.le_refl _) (by omega))]
    generalize itr (swI tip W P n) none n = r at vv
    by_cases a0 : a = 0
    · rw [if_pos a0, if_pos a0]
      cases r with
      | none => rfl
      | some r =>
        obtain ⟨v1, v2⟩ := vv r rfl
        obtain ⟨d1, d2, d3⟩ := dv r v1 v2
        rw [show swE (some r) = nI (10 * r.1 + r.2) from rfl, if_neg d3, d2, d1, mt r.1 r.2 v1 v2, cI_some]
        rfl
    · rw [if_neg a0, if_neg a0]
  exact ⟨_, h, h, cl, ml, I⟩
/-! standings -/
def dg (n k : Nat) (P : Nat → Nat) : Nat → Nat := fun p => if p < n then k / 9 ^ p % 9 else P p
theorem dg_0 (k : Nat) (P : Nat → Nat) : dg 0 k P = P := by
  funext p
  unfold dg
  rw [if_neg (by omega)]
theorem dg_s (i k : Nat) (P : Nat → Nat) : va_up (dg i k P) i (k / 9 ^ i % 9) = dg (i + 1) k P := by
  funext p
  by_cases e : p = i
  · subst e
    rw [up_s]
    unfold dg
    rw [if_pos (by omega)]
  · rw [up_o _ _ e]
    unfold dg
    by_cases c : p < i
    · rw [if_pos c, if_pos (by omega)]
    · rw [if_neg c, if_neg (by omega)]
theorem pow9 : ∀ p, p < 5 → 0 < 9 ^ p ∧ 9 ^ p ≤ 6561 := by decide
theorem c_standAs {h : MH} (L : lay h) (d : Nat) {q : Nat} (T : tAt q) {n : Nat} {W : Nat → Nat} {s : TS} (t : CT h q n W s) {k : Nat} (hk : k < 2 ^ 31) : ∃ h', F_X9_standAs (d + 1) q (nI k) h = some (.int 0, h') ∧ CT h' q n W (dg n k s.1, s.2) ∧ CF q h h' := by
  have hn := t.1
  have z2 : q + 2 ∈ cZ q := by unfold cZ; simp
  rw [S_X9_standAs L d q _ T]
  obtain ⟨h', ⟨t', f'⟩, e⟩ := loop_rel (n := n) (σ := MH) (I := fun i k' => CT k' q n W (dg i k s.1, s.2) ∧ CF q h k') (G := fun i k' => G_X9_standAs_2 d q (nI k) (nI i) k') (s := h) (fun i k' hi ⟨ti, fi⟩ => by
    have p9 := pow9 i (by omega)
    have l9 : k / 9 ^ i ≤ k := Nat.div_le_self _ _
    refine ⟨sI k' (q + 2) i (nI (k / 9 ^ i % 9)), ⟨?_, CF_trans fi (CF_sI T fi.2.2 z2)⟩, ?_⟩
    · have := CT_P (p := i) (v := k / 9 ^ i % 9) ti (by omega)
      dsimp only at this
      rw [dg_s] at this
      exact this
    · show G_X9_standAs_2 _ _ _ _ _ = G_X9_standAs_2 _ _ _ _ _
      rw [S_X9_standAs_2 fi.2.2 d q T, ti.2.1, if_pos (nI_lt hi (by omega)), ck_pos (ib_nI (by omega) (by omega)), ix_nI (by omega), fi.2.2.2.2.2.2.1, mpw_9 i (by omega), ck_pos (nI_ne0 p9.1 (by omega)), ck_pos (ib_nI (by omega) (by omega)), lt_def, pk_div hk p9.1 (by omega), nIr (by omega) (by omega) (by omega), nI_1]) ⟨by rw [dg_0]; exact t, CF_refl L⟩
  refine ⟨h', ?_, t', f'⟩
  refine (show G_X9_standAs_2 d q (nI k) 0 h = _ from e).trans ?_
  rw [S_X9_standAs_2 f'.2.2 d q T, t'.2.1, if_neg (nI_nlt (Nat.le_refl _) (by omega))]
theorem m_standSo {h : MH} (L : lay h) (d : Nat) {w : Bool} {n : Nat} {W : Nat → Nat} {s : TS} (t : MTh w h n W s) {k : Nat} (hk : k < 2 ^ 31) : ∃ h', F_X11_standSo (d + 1) (nI k) h = some (.int 0, h') ∧ MTh w h' n W (dg n k s.1, s.2) ∧ MF w h h' ∧ gI h' 67 = gI h 67 ∧ ∀ j, ¬ (9 ≤ j ∧ j < 13) → gI h' 68 j = gI h 68 j := by
  have hn := t.1
  rw [S_X11_standSo L d]
  obtain ⟨h', ⟨t', f', g', j'⟩, e⟩ := loop_rel (n := n) (σ := MH) (I := fun i k' => MTh w k' n W (dg i k s.1, s.2) ∧ MF w h k' ∧ gI k' 67 = gI h 67 ∧ ∀ j, ¬ (9 ≤ j ∧ j < 13) → gI k' 68 j = gI h 68 j) (G := fun i k' => G_X11_standSo_4 d (nI k) (nI (k / 9 ^ i)) (nI i) k') (s := h) (fun i k' hi ⟨ti, fi, gi, ji⟩ => by
    have p9 := pow9 i (by omega)
    have l9 : k / 9 ^ i ≤ k := Nat.div_le_self _ _
    refine ⟨sI k' 68 (9 + i) (nI (k / 9 ^ i % 9)), ⟨?_, MF_trans fi (MF_sI fi.2.1 (by omega)), by rw [gI_sIo _ _ _ _ _ (by decide), gi], fun j hj => by rw [gI_sIs, up_o _ _ (by omega)]; exact ji j hj⟩, ?_⟩
    · have := MTa_P (p := i) (v := k / 9 ^ i % 9) ti (by omega) (by omega)
      dsimp only at this
      rw [dg_s] at this
      unfold MTh
      rw [gI_sIs]
      exact this
    · show G_X11_standSo_4 _ _ _ _ _ = G_X11_standSo_4 _ _ _ _ _
      rw [S_X11_standSo_4 fi.2.1 d, ti.2.1, if_pos (nI_lt hi (by omega)), nIa, ck_pos (ib_nI (by omega) (by omega)), lt_def, ix_nI (by omega), nIr (by omega) (by omega) (by omega), nId (by omega) (by omega) (by omega), nI_1, Nat.div_div_eq_div_mul, ← Nat.pow_succ]) ⟨by rw [dg_0]; exact t, MF_refl L, rfl, fun _ _ => rfl⟩
  refine ⟨h', ?_, t', f', g', j'⟩
  have e' : G_X11_standSo_4 d (nI k) (nI (k / 9 ^ 0)) (nI 0) h = _ := e
  rw [Nat.pow_zero, Nat.div_one] at e'
  refine (show G_X11_standSo_4 d (nI k) (nI k) 0 h = _ from e').trans ?_
  rw [S_X11_standSo_4 f'.2.1 d, t'.2.1, if_neg (nI_nlt (Nat.le_refl _) (by omega))]
/-- the number of a standing -/
def stN (n : Nat) (P : Nat → Nat) : Nat := sumN (fun p => P p * 9 ^ p) n
theorem stN_lt {P : Nat → Nat} {n : Nat} (h : ∀ p, p < n → P p ≤ 8) : stN n P < 9 ^ n := by
  induction n with
  | zero => exact Nat.one_pos
  | succ n ih =>
    have h1 := ih (fun p hp => h p (by omega))
    have h2 := h n (by omega)
    unfold stN at *
    rw [sumN_s, Nat.pow_succ]
    have : P n * 9 ^ n ≤ 8 * 9 ^ n := Nat.mul_le_mul_right _ h2
    omega
theorem stN_dg {P : Nat → Nat} {n : Nat} (h : ∀ p, p < n → P p ≤ 8) : ∀ p, p < n → stN n P / 9 ^ p % 9 = P p := by
  induction n with
  | zero => intro p hp; omega
  | succ n ih =>
    intro p hp
    have h2 := h n (by omega)
    have lt := stN_lt (n := n) (P := P) (fun p hp => h p (by omega))
    have e : stN (n + 1) P = stN n P + P n * 9 ^ n := rfl
    have pos : 0 < 9 ^ n := Nat.pow_pos (by decide)
    rw [e]
    by_cases c : p = n
    · subst c
      rw [Nat.add_mul_div_right _ _ pos, Nat.div_eq_of_lt lt, Nat.zero_add]
      omega
    · have hp' : p < n := by omega
      obtain ⟨j, rfl⟩ : ∃ j, n = p + 1 + j := ⟨n - (p + 1), by omega⟩
      have pp : 0 < 9 ^ p := Nat.pow_pos (by decide)
      have : P (p + 1 + j) * 9 ^ (p + 1 + j) = (P (p + 1 + j) * 9 ^ j * 9) * 9 ^ p := by
        rw [Nat.pow_add, Nat.pow_add, Nat.pow_one]
        simp only [Nat.mul_comm, Nat.mul_left_comm, Nat.mul_assoc]
      rw [this, Nat.add_mul_div_right _ _ pp, Nat.add_mul_mod_self_right]
      exact ih (fun p hp => h p (by omega)) p hp'
theorem dg_st {n : Nat} {P : Nat → Nat} (h : ∀ p, p < n → P p ≤ 8) : ∀ Q : Nat → Nat, (∀ p, n ≤ p → Q p = P p) → dg n (stN n P) Q = P := by
  intro Q hq
  funext p
  unfold dg
  by_cases c : p < n
  · rw [if_pos c, stN_dg h p c]
  · rw [if_neg c]; exact hq p (by omega)
theorem dg_dg (n k j : Nat) (P : Nat → Nat) : dg n k (dg n j P) = dg n k P := by
  funext p
  unfold dg
  by_cases c : p < n
  · rw [if_pos c, if_pos c]
  · rw [if_neg c, if_neg c, if_neg c]
theorem m_standNow {h : MH} (L : lay h) (d : Nat) {n : Nat} {W P SN : Nat → Nat} (m : mdl h n W P SN) : F_X11_standNow (d + 1) h = some (.int (nI (stN n P)), h) := by
  obtain ⟨hn, e0, hW, hP, hS⟩ := m
  rw [S_X11_standNow L d, lt_def, e0]
  have key : ∀ i v, i ≤ n → G_X11_standNow_9 d (nI v) (nI i - 1) h = some (.int (nI (v * 9 ^ i + stN i P)), h) := by
    intro i
    induction i with
    | zero =>
      intro v _
      rw [S_X11_standNow_9 L d, if_pos (by decide)]
      show some (Value.int (nI v), h) = some (Value.int (nI (v * 1 + 0)), h)
      rw [Nat.mul_one, Nat.add_zero]
    | succ i ih =>
      intro v hi
      have := ih (9 * v + P i) (by omega)
      rw [show nI (i + 1) - 1 = nI i from nI_pred i, S_X11_standNow_9 L d, if_neg (nIz (by omega)), nIa, ck_pos (ib_nI (by omega) (by omega)), lt_def, ix_nI (by omega), (hP i (by omega)).1, nIm, nI_add]
      have e1 : nI i + (-1) = nI i - 1 := by rw [Int32.sub_eq_add_neg]
      rw [e1, this]
      congr 4
      unfold stN
      rw [sumN_s, Nat.pow_succ, Nat.add_mul]
      have : 9 * v * 9 ^ i = v * (9 ^ i * 9) := by rw [Nat.mul_comm 9 v, Nat.mul_assoc, Nat.mul_comm 9]
      omega
  have := key n 0 (Nat.le_refl n)
  rw [Nat.zero_mul, Nat.zero_add] at this
  exact this
theorem m_nines {h : MH} (L : lay h) (d : Nat) {n : Nat} (hn : n ≤ 4) : F_X11_nines (d + 1) (nI n) h = some (.int (nI (9 ^ n)), h) := by
  rw [S_X11_nines L d]
  refine (loop_all (n := n) (F := fun i => G_X11_nines_4 d (nI n) (nI (9 ^ i)) (nI i) h) (fun i hi => ?_)).trans ?_
  · show G_X11_nines_4 _ _ _ _ _ = _
    rw [S_X11_nines_4 L d, if_pos (nI_lt hi (by omega)), nIn, nI_1, ← Nat.pow_succ]
  · show G_X11_nines_4 _ _ _ _ _ = _
    rw [S_X11_nines_4 L d, if_neg (nI_nlt (Nat.le_refl _) (by omega))]
