--deps:19.lay 21.facts 22.00.names 22.01.eq 22.02.eq 22.03.eq 22.04.eq 22.05.eq 22.06.eq 22.07.eq 22.08.eq 22.09.eq 22.10.eq 22.11.eq 22.12.eq 22.13.eq 22.14.eq 22.15.eq 22.16.eq 22.17.eq 22.18.eq 22.19.eq 22.20.eq 22.21.eq 22.22.eq 22.23.eq 23.num 24.town 25.evc 26.evm 27.law 28.says 29.inv 30.api1 31.copy 32.api2 33.api3 34.api4 35.api5 36.deeds 37.hours 38.mdeeds 39.mhours 40.hist
/-! THE WHOLE BOROUGH, pure: deeds that are steps, on both sides -/
set_option linter.unusedSectionVars false
/-- people and weights, goals, where told, town, steps -/
abbrev FS : Type := (Nat × (Nat → Nat)) × (Nat → Int32) × (Nat → Nat) × TS × HS
def CFS (h : MH) (F : FS) : Prop := CT h 10 F.1.1 F.1.2 F.2.2.2.1 ∧ (∀ p, p < 4 → gI h 11 p = nI (F.1.2 p)) ∧ (∀ p, p < F.1.1 → gI h 13 p = F.2.1 p) ∧ RC (gI h 17) (gI h 18) F.2.2.2.2
def MFS (h : MH) (F : FS) : Prop := MTh true h F.1.1 F.1.2 F.2.2.2.1 ∧ (∀ p, p < 4 → gI h 68 (22 + p) = nI (F.1.2 p)) ∧ (∀ p, p < 4 → gI h 68 (30 + p) = if p < F.1.1 then F.2.1 p else -1) ∧ (∀ p, p < F.1.1 → gI h 68 (26 + p) = nI (F.2.2.1 p)) ∧ RM (gI h 68) F.2.2.2.2
def OKF (F : FS) : Prop := (∀ p, p < F.1.1 → 1 ≤ F.1.2 p) ∧ (∀ p, p < 4 → F.1.2 p ≤ 9) ∧ (∀ p, p < 4 → F.1.1 ≤ p → F.2.2.2.1.1 p = 0) ∧ (∀ p, p < F.1.1 → F.2.1 p = -1 ∨ ∃ c, c ≤ 8 ∧ F.2.1 p = nI c) ∧ (∀ p, p < F.1.1 → F.2.2.1 p ≤ 8) ∧ HI F.1.1 (fun p => nI (F.2.2.1 p)) (fun p => nI (F.2.2.2.1.1 p)) F.2.2.2.2
def zC : List Nat := [10, 11, 12, 13, 14, 15, 16, 17, 18]
def CFr (h h' : MH) : Prop := sm zC h h' ∧ gR h' 10 = gR h 10 ∧ lay h'
def MFr (h h' : MH) : Prop := sm mZ h h' ∧ lay h' ∧ (∀ k, ¬ k = 24 → gI h' 67 k = gI h 67 k) ∧ (∀ k, (k = 1 ∨ k = 2 ∨ k = 3 ∨ k = 5 ∨ 34 ≤ k ∧ k < 58) → gI h' 68 k = gI h 68 k)
theorem CFr_refl {h : MH} (L : lay h) : CFr h h := ⟨sm_refl _ h, rfl, L⟩
theorem CFr_trans {h1 h2 h3 : MH} (a : CFr h1 h2) (b : CFr h2 h3) : CFr h1 h3 := ⟨sm_trans a.1 b.1, b.2.1.trans a.2.1, b.2.2⟩
theorem MFr_refl {h : MH} (L : lay h) : MFr h h := ⟨sm_refl _ h, L, fun _ _ => rfl, fun _ _ => rfl⟩
theorem MFr_trans {h1 h2 h3 : MH} (a : MFr h1 h2) (b : MFr h2 h3) : MFr h1 h3 := ⟨sm_trans a.1 b.1, b.2.1, fun k hk => (b.2.2.1 k hk).trans (a.2.2.1 k hk), fun k hk => (b.2.2.2 k hk).trans (a.2.2.2 k hk)⟩
theorem CFr_CF {h h' : MH} (c : CF 10 h h') : CFr h h' := ⟨sm_mono c.1 (by decide), c.2.1, c.2.2⟩
theorem MFr_MF {h h' : MH} (c : MF true h h') : MFr h h' := ⟨c.1, c.2.1, c.2.2.1, fun k hk => c.2.2.2 k (by omega)⟩
theorem CFr_rI {h : MH} {a : Nat} {f : Nat → Int32} (L : lay h) (ha : a ∈ zC) : CFr h (rI h a f) := by
  have hx : 10 ≤ a ∧ a < 84 := by
    unfold zC at ha
    simp only [List.mem_cons, List.not_mem_nil, or_false] at ha
    omega
  exact ⟨sm_rI (Or.inl ⟨ha, hx.2⟩), rfl, lay_rI L (by omega)⟩
theorem CFr_rl {h h' : MH} (c : CFr h h') {dt ds : Option Den} (rl : rlC h (gR h 10 9) dt ds) : rlC h' (gR h' 10 9) dt ds := by
  rw [c.2.1]
  exact rlC_sm c.1 rl
theorem MFr_rl {h h' : MH} (c : MFr h h') {dt ds : Option Den} (rl : rlM h (gI h 68 3) dt ds) : rlM h' (gI h' 68 3) dt ds := by
  rw [c.2.2.2 3 (by omega)]
  exact rlM_sm' c.1 (by decide) rl
/-- the town alone has changed -/
def Fs (F : FS) (s : TS) : FS := (F.1, F.2.1, F.2.2.1, s, F.2.2.2.2)
theorem CFS_town {h h' : MH} {F : FS} {s : TS} (c : CFS h F) (t : CT h' 10 F.1.1 F.1.2 s) (f : CF 10 h h') : CFS h' (Fs F s) := by
  obtain ⟨c1, c2, c3, c4⟩ := c
  refine ⟨t, fun p hp => ?_, fun p hp => ?_, ?_⟩
  · rw [sm_gI f.1 (by decide) (by decide)]; exact c2 p hp
  · rw [sm_gI f.1 (by decide) (by decide)]; exact c3 p hp
  · rw [sm_gI f.1 (a := 17) (by decide) (by decide), sm_gI f.1 (a := 18) (by decide) (by decide)]; exact c4
theorem RM_eq {a a' : Nat → Int32} {q : HS} (r : RM a q) (e : ∀ k, (k = 4 ∨ 58 ≤ k ∧ k < 1468) → a' k = a k) : RM a' q := by
  obtain ⟨r1, r2, r3⟩ := r
  exact ⟨r1, (e 4 (Or.inl rfl)).trans r2, fun k hk j hj => (e _ (by omega)).trans (r3 k hk j hj)⟩
theorem MFS_town {h h' : MH} {F : FS} {s : TS} (c : MFS h F) (t : MTh true h' F.1.1 F.1.2 s) (f : MF true h h') : MFS h' (Fs F s) := by
  obtain ⟨c1, c2, c3, c4, c5⟩ := c
  have hn := c1.1
  refine ⟨t, fun p hp => ?_, fun p hp => ?_, fun p hp => ?_, ?_⟩
  · rw [f.2.2.2 _ (by omega)]; exact c2 p hp
  · rw [f.2.2.2 _ (by omega)]; exact c3 p hp
  · have hp' : p < F.1.1 := hp
    rw [f.2.2.2 _ (by omega)]; exact c4 p hp
  · exact RM_eq c5 (fun k hk => f.2.2.2 k (by omega))
/-- an argument that names a person, or nobody -/
def argP (a : Int32) (p : Nat) : Prop := (p < 4 ∧ a = nI p) ∨ (p = 4 ∧ ¬ ib a 4)
theorem argP_ex (a : Int32) : ∃ p, argP a p := by
  by_cases c : ib a 4
  · obtain ⟨j, hj, e⟩ := ib_at c (by omega)
    exact ⟨j, Or.inl ⟨hj, e⟩⟩
  · exact ⟨4, Or.inr ⟨rfl, c⟩⟩
theorem argP_n {a : Int32} {p n : Nat} (h : argP a p) (hn : n ≤ 4) : (p < n ∧ a = nI p) ∨ (¬ p < n ∧ ¬ ib a n) := by
  rcases h with ⟨h1, h2⟩ | ⟨h1, h2⟩
  · by_cases c : p < n
    · exact Or.inl ⟨c, h2⟩
    · exact Or.inr ⟨c, by rw [h2, ib_nIi (by omega)]; exact c⟩
  · refine Or.inr ⟨by omega, fun q => h2 ?_⟩
    obtain ⟨j, hj, rfl⟩ := ib_at q (by omega)
    exact ib_nI (by omega) (by omega)
theorem argP_eq {a b : Int32} {p r : Nat} (h : argP a p) (h2 : argP b r) (hp : p < 4 ∨ r < 4) : a = b ↔ p = r := by
  rcases h with ⟨h1, e1⟩ | ⟨h1, e1⟩ <;> rcases h2 with ⟨g1, e2⟩ | ⟨g1, e2⟩
  · rw [e1, e2, nI_eq (by omega) (by omega)]
  · refine ⟨fun e => absurd ?_ e2, fun e => by omega⟩
    rw [← e, e1]; exact ib_nI h1 (by omega)
  · refine ⟨fun e => absurd ?_ e1, fun e => by omega⟩
    rw [e, e2]; exact ib_nI g1 (by omega)
  · omega
/-- a step was taken -/
def Fk (F : FS) (s : TS) : FS := (F.1, F.2.1, F.2.2.1, s, pushR F.2.2.2.2 (rowN F.1.1 F.2.2.2.1))
noncomputable def walS (dt : Option Den) (F : FS) (p : Nat) (r : Bool) : Option FS := if p < F.1.1 then (goS F.1.1 F.1.2 dt F.2.2.2.1 p r).map (Fk F) else none
noncomputable def parS (dt : Option Den) (F : FS) (p : Nat) (r : Bool) (p2 : Nat) (r2 : Bool) : Option FS := if p < F.1.1 ∧ p2 < F.1.1 then (pairS F.1.1 F.1.2 dt F.2.2.2.1 p r p2 r2).map (Fk F) else none
noncomputable def shoS (dt : Option Den) (F : FS) (c k : Nat) : Option FS := (clearS F.1.1 F.1.2 dt F.2.2.2.1 c k).map (Fk F)
def DOC (f : MH → Option (Value × MH)) (F : FS) (o : Option FS) (h : MH) : Prop := ∃ h', f h = some (.int (oz o), h') ∧ CFS h' (o.getD F) ∧ CFr h h'
def DOM (f : MH → Option (Value × MH)) (F : FS) (o : Option FS) (h : MH) : Prop := ∃ h', f h = some (.int (oz o), h') ∧ MFS h' (o.getD F) ∧ MFr h h'
theorem omap {α β : Type} (o : Option α) (f : α → β) : oz (o.map f) = oz o := by cases o <;> rfl
section CSTEP
/-- a deed marked ahead and kept if it was done -/
theorem c_stepF {h : MH} (L : lay h) (d : Nat) {F : FS} (c : CFS h F) {f : MH → Option (Value × MH)} {o : Option TS} (hf : ∀ k, lay k → CT k 10 F.1.1 F.1.2 F.2.2.2.1 → CFr h k → DO f 10 F.1.1 F.1.2 F.2.2.2.1 o k) : DOC (fun h => cV (F_X6_mark (d + 1) h) (fun h1 => cI (f h1) (fun x3 h2 => cI (F_X6_keptIf (d + 1) x3 h2) (fun x5 h4 => ck (mrt 1 x5) (some (.int x5, h4)))))) F (o.map (Fk F)) h := by
  obtain ⟨c1, c2, c3, c4⟩ := c
  obtain ⟨g, e1, m1⟩ := c_mark L d c1 c4
  have f1 : CFr h (rI h 18 g) := CFr_rI L (by decide)
  have t1 : CT (rI h 18 g) 10 F.1.1 F.1.2 F.2.2.2.1 := CT_eq (gI_rI' _ _ _ _ (by decide)) (gI_rI' _ _ _ _ (by decide)) (gI_rI' _ _ _ _ (by decide)) (gI_rI' _ _ _ _ (by decide)) (gI_rI' _ _ _ _ (by decide)) c1
  obtain ⟨h2, e2, t2, f2⟩ := hf _ f1.2.2 t1 f1
  have m2 : MK h2 F.2.2.2.2 (rowN F.1.1 F.2.2.2.1) := MK_eq m1 (sm_gI f2.1 (by decide) (by decide)) (sm_gI f2.1 (by decide) (by decide))
  have o11 : ∀ p, p < 4 → gI h2 11 p = nI (F.1.2 p) := fun p hp => by rw [sm_gI f2.1 (by decide) (by decide), gI_rI' _ _ _ _ (by decide)]; exact c2 p hp
  have o13 : ∀ p, p < F.1.1 → gI h2 13 p = F.2.1 p := fun p hp => by rw [sm_gI f2.1 (by decide) (by decide), gI_rI' _ _ _ _ (by decide)]; exact c3 p hp
  unfold DOC
  dsimp only
  rw [e1, cV_some, e2, cI_some, omap]
  cases o with
  | none =>
    have e3 : F_X6_keptIf (d + 1) (oz (none : Option TS)) h2 = some (.int 0, h2) := c_kept0 f2.2.2 d
    rw [e3, cI_some, ck_pos mrt0]
    exact ⟨h2, rfl, ⟨t2, o11, o13, MK_RC m2⟩, CFr_trans f1 (CFr_CF f2)⟩
  | some s' =>
    obtain ⟨g3, e3, r3⟩ := c_kept1 f2.2.2 d m2
    have e3' : F_X6_keptIf (d + 1) (oz (some s')) h2 = _ := e3
    rw [e3', cI_some, ck_pos mrt1]
    have f3 : CFr h2 (rI h2 17 g3) := CFr_rI f2.2.2 (by decide)
    refine ⟨_, rfl, ⟨?_, fun p hp => ?_, fun p hp => ?_, ?_⟩, CFr_trans f1 (CFr_trans (CFr_CF f2) f3)⟩
    · exact CT_eq (gI_rI' _ _ _ _ (by decide)) (gI_rI' _ _ _ _ (by decide)) (gI_rI' _ _ _ _ (by decide)) (gI_rI' _ _ _ _ (by decide)) (gI_rI' _ _ _ _ (by decide)) t2
    · rw [gI_rI' _ _ _ _ (by decide)]; exact o11 p hp
    · rw [gI_rI' _ _ _ _ (by decide)]; exact o13 p hp
    · rw [gI_rIs, gI_rI' _ _ _ _ (by decide)]; exact r3
theorem c_walks {h : MH} (L : lay h) (d : Nat) {F : FS} (c : CFS h F) {dt : Option Den} {ds : Option Den} (rl : rlC h (gR h 10 9) dt ds) {a1 : Int32} {p : Nat} (hp : argP a1 p) (a : Int32) : DOC (F_X0_walks (d + 6) a1 a) F (walS dt F p (tb a)) h := by
  have e : (fun k => F_X0_walks (d + 6) a1 a k) h = (fun h => cV (F_X6_mark (d + 5) h) (fun h1 => cI (F_X9_go (d + 5) 10 a1 a h1) (fun x3 h2 => cI (F_X6_keptIf (d + 5) x3 h2) (fun x5 h4 => ck (mrt 1 x5) (some (.int x5, h4)))))) h := S_X0_walks L (d + 5) a1 a
  have key := c_stepF L (d + 4) c (f := F_X9_go (d + 5) 10 a1 a) (o := if p < F.1.1 then goS F.1.1 F.1.2 dt F.2.2.2.1 p (tb a) else none) (fun k Lk tk fk => by
    rcases argP_n hp tk.1 with ⟨h1, rfl⟩ | ⟨h1, h2⟩
    · rw [if_pos h1]
      exact c_go Lk d tAt10 tk (CFr_rl fk rl) h1 a
    · rw [if_neg h1]
      refine ⟨k, ?_, tk, CF_refl Lk⟩
      rw [S_X9_go Lk (d + 4) 10 _ _ tAt10, c_has Lk (d + 2) tAt10 (CT_twn tk), cI_some, bI_neg h2, if_pos rfl]
      rfl)
  unfold DOC walS at *
  dsimp only at e
  rw [e]
  by_cases c0 : p < F.1.1
  · rw [if_pos c0] at key ⊢; exact key
  · rw [if_neg c0] at key ⊢; exact key
theorem c_walksPaired {h : MH} (L : lay h) (d : Nat) {F : FS} (c : CFS h F) {dt : Option Den} {ds : Option Den} (rl : rlC h (gR h 10 9) dt ds) {a1 a3 : Int32} {p p2 : Nat} (hp : argP a1 p) (hp2 : argP a3 p2) (a b : Int32) : DOC (F_X0_walksPaired (d + 6) a1 a a3 b) F (parS dt F p (tb a) p2 (tb b)) h := by
  have e : (fun k => F_X0_walksPaired (d + 6) a1 a a3 b k) h = (fun h => cV (F_X6_mark (d + 5) h) (fun h1 => cI (F_X9_goPaired (d + 5) 10 a1 a a3 b h1) (fun x3 h2 => cI (F_X6_keptIf (d + 5) x3 h2) (fun x5 h4 => ck (mrt 1 x5) (some (.int x5, h4)))))) h := S_X0_walksPaired L (d + 5) a1 a a3 b
  have key := c_stepF L (d + 4) c (f := F_X9_goPaired (d + 5) 10 a1 a a3 b) (o := if p < F.1.1 ∧ p2 < F.1.1 then pairS F.1.1 F.1.2 dt F.2.2.2.1 p (tb a) p2 (tb b) else none) (fun k Lk tk fk => by
    have none' : ¬ (p < F.1.1 ∧ p2 < F.1.1) → F_X9_goPaired (d + 5) 10 a1 a a3 b k = some (.int 0, k) := by
      intro hno
      rw [S_X9_goPaired Lk (d + 4) 10 _ _ _ _ tAt10]
      by_cases ee : a1 = a3
      · rw [if_pos ee]
      rw [if_neg ee, c_has Lk (d + 2) tAt10 (CT_twn tk), cI_some]
      rcases argP_n hp tk.1 with ⟨h1, rfl⟩ | ⟨h1, h2⟩
      · rw [bI_pos (ib_nI h1 (by have := tk.1; omega)), if_neg i10, c_has Lk (d + 2) tAt10 (CT_twn tk), cI_some]
        rcases argP_n hp2 tk.1 with ⟨h3, rfl⟩ | ⟨h3, h4⟩
        · exact absurd ⟨h1, h3⟩ hno
        · rw [bI_neg h4, if_pos rfl]
      · rw [bI_neg h2, if_pos rfl]
    by_cases c0 : p < F.1.1 ∧ p2 < F.1.1
    · rw [if_pos c0]
      rcases argP_n hp tk.1 with ⟨h1, rfl⟩ | ⟨h1, h2⟩
      · rcases argP_n hp2 tk.1 with ⟨h3, rfl⟩ | ⟨h3, h4⟩
        · exact c_goPaired Lk d tAt10 tk (CFr_rl fk rl) h1 h3 a b
        · exact absurd c0.2 h3
      · exact absurd c0.1 h1
    · rw [if_neg c0]
      exact ⟨k, none' c0, tk, CF_refl Lk⟩)
  unfold DOC parS at *
  dsimp only at e
  rw [e]
  by_cases c0 : p < F.1.1 ∧ p2 < F.1.1
  · rw [if_pos c0] at key ⊢; exact key
  · rw [if_neg c0] at key ⊢; exact key
theorem c_shovels {h : MH} (L : lay h) (d : Nat) {F : FS} (c : CFS h F) {dt : Option Den} {ds : Option Den} (rl : rlC h (gR h 10 9) dt ds) {x k : Nat} (hx : x < 9) (hk : k ≤ 9) : DOC (F_X0_shovels (d + 6) (nI x) (nI k)) F (shoS dt F x k) h := by
  have e : (fun z => F_X0_shovels (d + 6) (nI x) (nI k) z) h = (fun h => cV (F_X6_mark (d + 5) h) (fun h1 => cI (F_X9_clear (d + 5) 10 (nI x) (nI k) h1) (fun x3 h2 => cI (F_X6_keptIf (d + 5) x3 h2) (fun x5 h4 => ck (mrt 1 x5) (some (.int x5, h4)))))) h := S_X0_shovels L (d + 5) (nI x) (nI k)
  have key := c_stepF L (d + 4) c (f := F_X9_clear (d + 5) 10 (nI x) (nI k)) (fun z Lz tz fz => c_clear Lz d tAt10 tz (CFr_rl fz rl) hx hk)
  unfold DOC shoS at *
  dsimp only at e
  rw [e]
  exact key
end CSTEP
section MSTEP
theorem MTa_keep {h : MH} (L : lay h) {F : FS} (c : MFS h F) {a a' : Nat → Int32} {n : Nat} {W : Nat → Nat} {s : TS} (t : MTa true a n W s) (e : ∀ k, ¬ k = 4 → (k < 58 ∨ 1468 ≤ k) → a' k = a k) : MTa true a' n W s := by
  obtain ⟨t0, t1, t2, t3, t4, t5, t6, t7, t8⟩ := t
  refine ⟨t0, by rw [e _ (by omega) (by omega)]; exact t1, fun p hp => by rw [e _ (by omega) (by omega)]; exact t2 p hp, fun p hp => by rw [e _ (by omega) (by omega)]; exact t3 p hp, fun p hp => by rw [e _ (by omega) (by omega)]; exact t4 p hp, by rw [e _ (by omega) (by omega)]; exact t5, by rw [e _ (by omega) (by omega)]; exact t6, fun hw => by rw [e _ (by omega) (by omega)]; exact t7 hw, fun hw k hk => by rw [e _ (by omega) (by omega)]; exact t8 hw k hk⟩
/-- the row kept -/
theorem m_kept {h : MH} (L : lay h) (d : Nat) {F : FS} (c : MFS h F) : ∃ h', F_X11_keep (d + 1) h = some (.int 0, h') ∧ MFS h' (Fk F F.2.2.2.1) ∧ MFr h h' ∧ gI h' 67 = gI h 67 := by
  obtain ⟨c1, c2, c3, c4, c5⟩ := c
  have hn := c1.1
  obtain ⟨a, e, r, o⟩ := m_keep L d (w := true) c1 c5
  refine ⟨_, e, ⟨?_, fun p hp => ?_, fun p hp => ?_, fun p hp => ?_, ?_⟩, ⟨sm_rI (Or.inl ⟨by decide, by decide⟩), lay_rI L (by decide), fun k hk => by rw [gI_rI' _ _ _ _ (by decide)], fun k hk => by rw [gI_rIs]; exact o k (by omega) (by omega)⟩, gI_rI' _ _ _ _ (by decide)⟩
  · unfold MTh
    rw [gI_rIs]
    exact MTa_keep L ⟨c1, c2, c3, c4, c5⟩ c1 o
  · rw [gI_rIs, o _ (by omega) (by omega)]; exact c2 p hp
  · rw [gI_rIs, o _ (by omega) (by omega)]; exact c3 p hp
  · have hp' : p < F.1.1 := hp
    rw [gI_rIs, o _ (by omega) (by omega)]; exact c4 p hp
  · rw [gI_rIs]; exact r
theorem m_walk {h : MH} (L : lay h) (d : Nat) {F : FS} (c : MFS h F) {dt : Option Den} {ds : Option Den} (rl : rlM h (gI h 68 3) dt ds) {a1 : Int32} {p : Nat} (hp : argP a1 p) (a : Int32) : DOM (F_X11_walk (d + 11) a1 a) F (walS dt F p (tb a)) h := by
  have c1 := c.1
  have hn := c1.1
  unfold DOM walS
  rw [S_X11_walk L (d + 10)]
  rcases argP_n hp hn with ⟨h1, rfl⟩ | ⟨h1, h2⟩
  · rw [if_pos h1, omap]
    obtain ⟨k1, e1, t1, f1, g1⟩ := m_canWalk L d c1 rl h1 a
    have F1 := MFS_town c t1 f1
    rw [e1, cI_some]
    cases hg : goS F.1.1 F.1.2 dt F.2.2.2.1 p (tb a) with
    | none => exact ⟨k1, rfl, F1, MFr_MF f1⟩
    | some s' =>
      unfold goS at hg
      rw [stepP_V] at hg
      cases hv : stepV (F.2.2.2.1.1 p) (tb a) with
      | none => rw [hv] at hg; cases hg
      | some v =>
        rw [hv] at hg
        dsimp only [Option.map] at hg
        cases hst : stl F.1.1 F.1.2 (va_up F.2.2.2.1.1 p v) F.2.2.2.1.2.1 F.2.2.2.1.2.2.1 dt with
        | true =>
          rw [hst] at hg
          cases hg
          obtain ⟨k2, e2, F2, f2, g2⟩ := m_kept f1.2.1 (d + 9) F1
          obtain ⟨k3, e3, t3, f3, g3⟩ := m_move f2.2.1 (d + 8) F2.1 (p := p) (v := v) (a := a) (by omega) hv
          rw [if_neg (oz1 _), e2, cV_some, e3, cV_some]
          exact ⟨k3, rfl, MFS_town F2 t3 f3, MFr_trans (MFr_MF f1) (MFr_trans f2 (MFr_MF f3))⟩
        | false => rw [hst] at hg; cases hg
  · rw [if_neg h1, S_X11_canWalk L (d + 9), m_canStepN L (d + 6) c1 h2, cI_some, if_pos rfl, cI_some, if_pos rfl]
    exact ⟨h, rfl, c, MFr_refl L⟩
theorem m_pair {h : MH} (L : lay h) (d : Nat) {F : FS} (c : MFS h F) {dt : Option Den} {ds : Option Den} (rl : rlM h (gI h 68 3) dt ds) {a1 a3 : Int32} {p p2 : Nat} (hp : argP a1 p) (hp2 : argP a3 p2) (a b : Int32) : DOM (F_X11_pair (d + 11) a1 a a3 b) F (parS dt F p (tb a) p2 (tb b)) h := by
  have c1 := c.1
  have hn := c1.1
  unfold DOM parS
  rw [S_X11_pair L (d + 10)]
  by_cases c0 : p < F.1.1 ∧ p2 < F.1.1
  · rcases argP_n hp hn with ⟨h1, rfl⟩ | ⟨h1, h2⟩
    · rcases argP_n hp2 hn with ⟨h3, rfl⟩ | ⟨h3, h4⟩
      · rw [if_pos c0, omap]
        obtain ⟨k1, e1, t1, f1, g1⟩ := m_canPair L d c1 rl h1 h3 a b
        have F1 := MFS_town c t1 f1
        rw [e1, cI_some]
        cases hg : pairS F.1.1 F.1.2 dt F.2.2.2.1 p (tb a) p2 (tb b) with
        | none => exact ⟨k1, rfl, F1, MFr_MF f1⟩
        | some s' =>
          unfold pairS at hg
          split at hg
          · cases hg
          rename_i hpp
          rw [stepP_V] at hg
          cases hv : stepV (F.2.2.2.1.1 p) (tb a) with
          | none => rw [hv] at hg; cases hg
          | some v =>
            rw [hv] at hg
            dsimp only [Option.map] at hg
            rw [stepP_V, up_o _ _ (fun q => hpp q.symm)] at hg
            cases hv2 : stepV (F.2.2.2.1.1 p2) (tb b) with
            | none => rw [hv2] at hg; cases hg
            | some v2 =>
              rw [hv2] at hg
              dsimp only [Option.map] at hg
              cases hst : stl F.1.1 F.1.2 (va_up (va_up F.2.2.2.1.1 p v) p2 v2) F.2.2.2.1.2.1 F.2.2.2.1.2.2.1 dt with
              | true =>
                rw [hst] at hg
                cases hg
                obtain ⟨k2, e2, F2, f2, g2⟩ := m_kept f1.2.1 (d + 9) F1
                obtain ⟨k3, e3, t3, f3, g3⟩ := m_move f2.2.1 (d + 8) F2.1 (p := p) (v := v) (a := a) (by omega) hv
                have F3 := MFS_town F2 t3 f3
                obtain ⟨k4, e4, t4, f4, g4⟩ := m_move f3.2.1 (d + 8) t3 (p := p2) (v := v2) (a := b) (by omega) (by
                  show stepV (va_up F.2.2.2.1.1 p v p2) (tb b) = _
                  rw [up_o _ _ (fun q => hpp q.symm)]; exact hv2)
                rw [if_neg (oz1 _), e2, cV_some, e3, cV_some, e4, cV_some]
                exact ⟨k4, rfl, MFS_town F3 t4 f4, MFr_trans (MFr_MF f1) (MFr_trans f2 (MFr_trans (MFr_MF f3) (MFr_MF f4)))⟩
              | false => rw [hst] at hg; cases hg
      · exact absurd c0.2 h3
    · exact absurd c0.1 h1
  · rw [if_neg c0, S_X11_canPair L (d + 9)]
    by_cases ee : a1 = a3
    · rw [if_pos ee, cI_some, if_pos rfl]
      exact ⟨h, rfl, c, MFr_refl L⟩
    rw [if_neg ee]
    rcases argP_n hp hn with ⟨h1, rfl⟩ | ⟨h1, h2⟩
    · rcases argP_n hp2 hn with ⟨h3, rfl⟩ | ⟨h3, h4⟩
      · exact absurd ⟨h1, h3⟩ c0
      · rw [m_canStep L (d + 6) c1 h1, cI_some, m_canStepN L (d + 6) c1 h4, cI_some, if_pos rfl]
        refine ⟨h, ?_, c, MFr_refl L⟩
        split <;> rfl
    · rw [m_canStepN L (d + 6) c1 h2, cI_some, if_pos rfl, cI_some, if_pos rfl]
      exact ⟨h, rfl, c, MFr_refl L⟩
theorem m_shovel {h : MH} (L : lay h) (d : Nat) {F : FS} (c : MFS h F) {dt : Option Den} {ds : Option Den} (rl : rlM h (gI h 68 3) dt ds) {x k : Nat} (hx : x < 9) (hk1 : 1 ≤ k) (hk : k ≤ 9) : DOM (F_X11_shovel (d + 11) (nI x) (nI k)) F (shoS dt F x k) h := by
  have c1 := c.1
  unfold DOM shoS
  obtain ⟨k1, e1, t1, f1, g1⟩ := m_canShovel L d c1 rl hx hk1 hk
  have F1 := MFS_town c t1 f1
  rw [S_X11_shovel L (d + 10), e1, cI_some, omap]
  cases hg : clearS F.1.1 F.1.2 dt F.2.2.2.1 x k with
  | none => exact ⟨k1, rfl, F1, MFr_MF f1⟩
  | some s' =>
    unfold clearS at hg
    split at hg
    · cases hg
    rename_i hlt
    cases hst : stl F.1.1 F.1.2 F.2.2.2.1.1 (va_up F.2.2.2.1.2.1 x (F.2.2.2.1.2.1 x - k)) F.2.2.2.1.2.2.1 dt with
    | true =>
      rw [hst] at hg
      cases hg
      obtain ⟨k2, e2, F2, f2, g2⟩ := m_kept f1.2.1 (d + 9) F1
      have tc := F2.1.2.2.2.2.1 x hx
      have tc' : gI k2 68 (13 + x) = nI (F.2.2.2.1.2.1 x) := tc.1
      have tc2 : F.2.2.2.1.2.1 x ≤ 9 := tc.2
      rw [if_neg (oz1 _), e2, cV_some, nIa, ck_pos (ib_nI (by omega) (by omega)), ck_pos (ib_nI (by omega) (by omega)), ix_nI (by omega), lt_def, tc', pk_sub (by omega)]
      have f3 : MF true k2 (sI k2 68 (13 + x) (nI (F.2.2.2.1.2.1 x - k))) := MF_sI f2.2.1 (by omega)
      refine ⟨_, rfl, MFS_town F2 ?_ f3, MFr_trans (MFr_MF f1) (MFr_trans f2 (MFr_MF f3))⟩
      unfold MTh
      rw [gI_sIs]
      exact MTa_S F2.1 hx (by omega)
    | false => rw [hst] at hg; cases hg
end MSTEP
