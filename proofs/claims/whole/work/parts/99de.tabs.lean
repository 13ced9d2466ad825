/-! TWO PROGRAMS: their tables (written by wip/gen/gen99t.py) -/
set_option maxRecDepth 100000 in
theorem lmeth_all : lmeth 0 mtab = true := by decide +kernel
set_option maxRecDepth 100000 in
theorem tr_0 : tabR 0 mtab_0 jtab_0 := ⟨fun _ => ⟨rfl, (tau_ids (by decide +kernel)).symm⟩, ⟨fun _ => ⟨rfl, (tau_ids (by decide +kernel)).symm⟩, ⟨fun _ => ⟨rfl, (tau_ids (by decide +kernel)).symm⟩, ⟨fun _ => ⟨rfl, (tau_ids (by decide +kernel)).symm⟩, ⟨fun _ => ⟨rfl, (tau_ids (by decide +kernel)).symm⟩, ⟨fun q => absurd q (by decide), ⟨fun _ => ⟨rfl, (tau_ids (by decide +kernel)).symm⟩, ⟨fun _ => ⟨rfl, (tau_ids (by decide +kernel)).symm⟩, ⟨fun q => absurd q (by decide), ⟨fun _ => ⟨rfl, (tau_ids (by decide +kernel)).symm⟩, ⟨fun _ => ⟨rfl, (tau_ids (by decide +kernel)).symm⟩, ⟨fun _ => ⟨rfl, (tau_ids (by decide +kernel)).symm⟩, ⟨fun _ => ⟨rfl, (tau_ids (by decide +kernel)).symm⟩, ⟨fun _ => ⟨rfl, (tau_ids (by decide +kernel)).symm⟩, ⟨fun _ => ⟨rfl, (tau_ids (by decide +kernel)).symm⟩, ⟨fun _ => ⟨rfl, (tau_ids (by decide +kernel)).symm⟩, trivial⟩⟩⟩⟩⟩⟩⟩⟩⟩⟩⟩⟩⟩⟩⟩⟩
set_option maxRecDepth 100000 in
theorem tr_1 : tabR 16 mtab_1 jtab_1 := ⟨fun _ => ⟨rfl, (tau_ids (by decide +kernel)).symm⟩, ⟨fun _ => ⟨rfl, (tau_ids (by decide +kernel)).symm⟩, ⟨fun _ => ⟨rfl, (tau_ids (by decide +kernel)).symm⟩, ⟨fun _ => ⟨rfl, (tau_ids (by decide +kernel)).symm⟩, ⟨fun _ => ⟨rfl, (tau_ids (by decide +kernel)).symm⟩, ⟨fun _ => ⟨rfl, (tau_ids (by decide +kernel)).symm⟩, ⟨fun _ => ⟨rfl, (tau_ids (by decide +kernel)).symm⟩, ⟨fun _ => ⟨rfl, (tau_ids (by decide +kernel)).symm⟩, ⟨fun _ => ⟨rfl, (tau_ids (by decide +kernel)).symm⟩, ⟨fun _ => ⟨rfl, (tau_ids (by decide +kernel)).symm⟩, ⟨fun _ => ⟨rfl, rfl⟩, ⟨fun _ => ⟨rfl, (tau_ids (by decide +kernel)).symm⟩, ⟨fun _ => ⟨rfl, (tau_ids (by decide +kernel)).symm⟩, ⟨fun _ => ⟨rfl, rfl⟩, ⟨fun _ => ⟨rfl, (tau_ids (by decide +kernel)).symm⟩, ⟨fun _ => ⟨rfl, (tau_ids (by decide +kernel)).symm⟩, trivial⟩⟩⟩⟩⟩⟩⟩⟩⟩⟩⟩⟩⟩⟩⟩⟩
set_option maxRecDepth 100000 in
theorem tr_2 : tabR 32 mtab_2 jtab_2 := tabR_same (by decide +kernel)
set_option maxRecDepth 100000 in
theorem tr_3 : tabR 48 mtab_3 jtab_3 := tabR_same (by decide +kernel)
set_option maxRecDepth 100000 in
theorem tr_4 : tabR 64 mtab_4 jtab_4 := tabR_same (by decide +kernel)
set_option maxRecDepth 100000 in
theorem tr_5 : tabR 80 mtab_5 jtab_5 := ⟨fun _ => ⟨rfl, (tau_ids (by decide +kernel)).symm⟩, ⟨fun _ => ⟨rfl, (tau_ids (by decide +kernel)).symm⟩, ⟨fun _ => ⟨rfl, (tau_ids (by decide +kernel)).symm⟩, ⟨fun _ => ⟨rfl, (tau_ids (by decide +kernel)).symm⟩, ⟨fun _ => ⟨rfl, (tau_ids (by decide +kernel)).symm⟩, ⟨fun _ => ⟨rfl, (tau_ids (by decide +kernel)).symm⟩, ⟨fun _ => ⟨rfl, (tau_ids (by decide +kernel)).symm⟩, ⟨fun _ => ⟨rfl, (tau_ids (by decide +kernel)).symm⟩, ⟨fun _ => ⟨rfl, (tau_ids (by decide +kernel)).symm⟩, ⟨fun _ => ⟨rfl, (tau_ids (by decide +kernel)).symm⟩, ⟨fun _ => ⟨rfl, (tau_ids (by decide +kernel)).symm⟩, ⟨fun _ => ⟨rfl, (tau_ids (by decide +kernel)).symm⟩, ⟨fun _ => ⟨rfl, (tau_ids (by decide +kernel)).symm⟩, ⟨fun _ => ⟨rfl, (tau_ids (by decide +kernel)).symm⟩, ⟨fun _ => ⟨rfl, (tau_ids (by decide +kernel)).symm⟩, ⟨fun _ => ⟨rfl, rfl⟩, trivial⟩⟩⟩⟩⟩⟩⟩⟩⟩⟩⟩⟩⟩⟩⟩⟩
set_option maxRecDepth 100000 in
theorem tr_6 : tabR 96 mtab_6 jtab_6 := tabR_same (by decide +kernel)
set_option maxRecDepth 100000 in
theorem tr_7 : tabR 112 mtab_7 jtab_7 := tabR_same (by decide +kernel)
set_option maxRecDepth 100000 in
theorem tr_8 : tabR 128 mtab_8 jtab_8 := ⟨fun _ => ⟨rfl, (tau_ids (by decide +kernel)).symm⟩, ⟨fun _ => ⟨rfl, (tau_ids (by decide +kernel)).symm⟩, ⟨fun _ => ⟨rfl, (tau_ids (by decide +kernel)).symm⟩, ⟨fun _ => ⟨rfl, rfl⟩, ⟨fun _ => ⟨rfl, (tau_ids (by decide +kernel)).symm⟩, ⟨fun _ => ⟨rfl, (tau_ids (by decide +kernel)).symm⟩, ⟨fun _ => ⟨rfl, (tau_ids (by decide +kernel)).symm⟩, ⟨fun _ => ⟨rfl, (tau_ids (by decide +kernel)).symm⟩, ⟨fun _ => ⟨rfl, (tau_ids (by decide +kernel)).symm⟩, ⟨fun _ => ⟨rfl, (tau_ids (by decide +kernel)).symm⟩, ⟨fun _ => ⟨rfl, (tau_ids (by decide +kernel)).symm⟩, ⟨fun _ => ⟨rfl, (tau_ids (by decide +kernel)).symm⟩, ⟨fun _ => ⟨rfl, (tau_ids (by decide +kernel)).symm⟩, ⟨fun _ => ⟨rfl, (tau_ids (by decide +kernel)).symm⟩, ⟨fun _ => ⟨rfl, (tau_ids (by decide +kernel)).symm⟩, ⟨fun _ => ⟨rfl, (tau_ids (by decide +kernel)).symm⟩, trivial⟩⟩⟩⟩⟩⟩⟩⟩⟩⟩⟩⟩⟩⟩⟩⟩
set_option maxRecDepth 100000 in
theorem tr_9 : tabR 144 mtab_9 jtab_9 := tabR_same (by decide +kernel)
set_option maxRecDepth 100000 in
theorem tr_10 : tabR 160 mtab_10 jtab_10 := tabR_same (by decide +kernel)
set_option maxRecDepth 100000 in
theorem tr_11 : tabR 176 mtab_11 jtab_11 := tabR_same (by decide +kernel)
set_option maxRecDepth 100000 in
theorem tr_12 : tabR 192 mtab_12 jtab_12 := tabR_same (by decide +kernel)
set_option maxRecDepth 100000 in
theorem tr_13 : tabR 208 mtab_13 jtab_13 := tabR_same (by decide +kernel)
set_option maxRecDepth 100000 in
theorem tr_14 : tabR 224 mtab_14 jtab_14 := tabR_same (by decide +kernel)
set_option maxRecDepth 100000 in
theorem tr_15 : tabR 240 mtab_15 jtab_15 := ⟨fun _ => ⟨rfl, (tau_ids (by decide +kernel)).symm⟩, ⟨fun _ => ⟨rfl, (tau_ids (by decide +kernel)).symm⟩, ⟨fun q => absurd q (by decide), ⟨fun _ => ⟨rfl, (tau_ids (by decide +kernel)).symm⟩, ⟨fun _ => ⟨rfl, (tau_ids (by decide +kernel)).symm⟩, ⟨fun _ => ⟨rfl, (tau_ids (by decide +kernel)).symm⟩, ⟨fun _ => ⟨rfl, (tau_ids (by decide +kernel)).symm⟩, ⟨fun _ => ⟨rfl, (tau_ids (by decide +kernel)).symm⟩, ⟨fun _ => ⟨rfl, (tau_ids (by decide +kernel)).symm⟩, ⟨fun _ => ⟨rfl, (tau_ids (by decide +kernel)).symm⟩, ⟨fun _ => ⟨rfl, (tau_ids (by decide +kernel)).symm⟩, ⟨fun _ => ⟨rfl, (tau_ids (by decide +kernel)).symm⟩, ⟨fun _ => ⟨rfl, (tau_ids (by decide +kernel)).symm⟩, ⟨fun _ => ⟨rfl, (tau_ids (by decide +kernel)).symm⟩, ⟨fun _ => ⟨rfl, (tau_ids (by decide +kernel)).symm⟩, ⟨fun q => absurd q (by decide), trivial⟩⟩⟩⟩⟩⟩⟩⟩⟩⟩⟩⟩⟩⟩⟩⟩
set_option maxRecDepth 100000 in
theorem tr_16 : tabR 256 mtab_16 jtab_16 := tabR_same (by decide +kernel)
set_option maxRecDepth 100000 in
theorem tr_17 : tabR 272 mtab_17 jtab_17 := ⟨fun _ => ⟨rfl, (tau_ids (by decide +kernel)).symm⟩, ⟨fun _ => ⟨rfl, (tau_ids (by decide +kernel)).symm⟩, ⟨fun _ => ⟨rfl, (tau_ids (by decide +kernel)).symm⟩, ⟨fun _ => ⟨rfl, (tau_ids (by decide +kernel)).symm⟩, ⟨fun _ => ⟨rfl, (tau_ids (by decide +kernel)).symm⟩, ⟨fun _ => ⟨rfl, (tau_ids (by decide +kernel)).symm⟩, ⟨fun _ => ⟨rfl, (tau_ids (by decide +kernel)).symm⟩, ⟨fun _ => ⟨rfl, (tau_ids (by decide +kernel)).symm⟩, ⟨fun _ => ⟨rfl, rfl⟩, ⟨fun _ => ⟨rfl, (tau_ids (by decide +kernel)).symm⟩, ⟨fun _ => ⟨rfl, (tau_ids (by decide +kernel)).symm⟩, ⟨fun _ => ⟨rfl, (tau_ids (by decide +kernel)).symm⟩, ⟨fun _ => ⟨rfl, rfl⟩, ⟨fun _ => ⟨rfl, (tau_ids (by decide +kernel)).symm⟩, ⟨fun _ => ⟨rfl, (tau_ids (by decide +kernel)).symm⟩, ⟨fun _ => ⟨rfl, (tau_ids (by decide +kernel)).symm⟩, trivial⟩⟩⟩⟩⟩⟩⟩⟩⟩⟩⟩⟩⟩⟩⟩⟩
set_option maxRecDepth 100000 in
theorem tr_18 : tabR 288 mtab_18 jtab_18 := ⟨fun _ => ⟨rfl, rfl⟩, ⟨fun _ => ⟨rfl, (tau_ids (by decide +kernel)).symm⟩, ⟨fun _ => ⟨rfl, (tau_ids (by decide +kernel)).symm⟩, ⟨fun _ => ⟨rfl, (tau_ids (by decide +kernel)).symm⟩, ⟨fun _ => ⟨rfl, rfl⟩, ⟨fun _ => ⟨rfl, (tau_ids (by decide +kernel)).symm⟩, ⟨fun _ => ⟨rfl, (tau_ids (by decide +kernel)).symm⟩, ⟨fun _ => ⟨rfl, (tau_ids (by decide +kernel)).symm⟩, ⟨fun _ => ⟨rfl, (tau_ids (by decide +kernel)).symm⟩, ⟨fun _ => ⟨rfl, (tau_ids (by decide +kernel)).symm⟩, ⟨fun _ => ⟨rfl, (tau_ids (by decide +kernel)).symm⟩, ⟨fun _ => ⟨rfl, (tau_ids (by decide +kernel)).symm⟩, ⟨fun _ => ⟨rfl, (tau_ids (by decide +kernel)).symm⟩, ⟨fun _ => ⟨rfl, (tau_ids (by decide +kernel)).symm⟩, ⟨fun _ => ⟨rfl, (tau_ids (by decide +kernel)).symm⟩, ⟨fun _ => ⟨rfl, (tau_ids (by decide +kernel)).symm⟩, trivial⟩⟩⟩⟩⟩⟩⟩⟩⟩⟩⟩⟩⟩⟩⟩⟩
set_option maxRecDepth 100000 in
theorem tr_19 : tabR 304 mtab_19 jtab_19 := tabR_same (by decide +kernel)
set_option maxRecDepth 100000 in
theorem tr_20 : tabR 320 mtab_20 jtab_20 := tabR_same (by decide +kernel)
set_option maxRecDepth 100000 in
theorem tr_21 : tabR 336 mtab_21 jtab_21 := ⟨fun _ => ⟨rfl, rfl⟩, ⟨fun _ => ⟨rfl, (tau_ids (by decide +kernel)).symm⟩, trivial⟩⟩
theorem tr_all : tabR 0 mtab jtab := by
  unfold mtab jtab
  exact tabR_app (n := 16) rfl rfl tr_0 (tabR_app (n := 16) rfl rfl tr_1 (tabR_app (n := 16) rfl rfl tr_2 (tabR_app (n := 16) rfl rfl tr_3 (tabR_app (n := 16) rfl rfl tr_4 (tabR_app (n := 16) rfl rfl tr_5 (tabR_app (n := 16) rfl rfl tr_6 (tabR_app (n := 16) rfl rfl tr_7 (tabR_app (n := 16) rfl rfl tr_8 (tabR_app (n := 16) rfl rfl tr_9 (tabR_app (n := 16) rfl rfl tr_10 (tabR_app (n := 16) rfl rfl tr_11 (tabR_app (n := 16) rfl rfl tr_12 (tabR_app (n := 16) rfl rfl tr_13 (tabR_app (n := 16) rfl rfl tr_14 (tabR_app (n := 16) rfl rfl tr_15 (tabR_app (n := 16) rfl rfl tr_16 (tabR_app (n := 16) rfl rfl tr_17 (tabR_app (n := 16) rfl rfl tr_18 (tabR_app (n := 16) rfl rfl tr_19 (tabR_app (n := 16) rfl rfl tr_20 (tr_21)))))))))))))))))))))
/-- every call that both know alike -/
theorem sim_call : ∀ d D, d ≤ D → SE okl (mE mtab d) (mE jtab D) := by
  intro d
  induction d with
  | zero => intro D _ y as as' h g v h' m _ e; cases e
  | succ d ih =>
    intro D hD y as as' h g v h' m hy e S A
    obtain ⟨D, rfl⟩ : ∃ D', D = D' + 1 := ⟨D - 1, by omega⟩
    rw [mE] at e
    rw [mE]
    dsimp only at e ⊢
    cases hq : mtab[y]? with
    | none => rw [hq] at e; cases e
    | some q =>
      rw [hq] at e
      dsimp only at e
      obtain ⟨q', e1, e2, e3⟩ := tabR_get mtab jtab 0 tr_all y q hq (by rwa [Nat.zero_add])
      have hl := lmeth_of mtab 0 lmeth_all y q hq (by rwa [Nat.zero_add])
      rw [e1]
      dsimp only
      rw [e2, e3, Rl_len (Rl_mL0 A)]
      split at e
      · exact sim_X (ih D (by omega)) (fun k i _ hi => ⟨List.all_eq_true.mp hl i (List.mem_of_getElem? hi), jge_0 i⟩) (Nat.zero_le 0) e S (Rl_mL A _) rfl
      · cases e
