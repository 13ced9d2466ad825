--deps:19.lay 21.facts 22.00.names
/-! EQUATIONS over the fixed cells (written by wip/gen/sgen.py) -/
theorem S_X9_tipsNow {h : MH} (L : lay h) (d : Nat) (q : Nat) (T : tAt q) : F_X9_tipsNow (d + 1) q h = (if (gR h q 9) = 0 then some (.int 9, h) else ck (kd h (gR h q 9) = 9) ((if (gR h (gR h q 9) 0) = 0 then some (.int 9, h) else ck (kd h (gR h q 9) = 9) (ck (kd h (gR h (gR h q 9) 0) = 4) (cI (F_X3_valueFor d (gR h (gR h q 9) 0) q (-1) h) (fun x2 h1 => some (.int (jmin (jmax x2 0) 99), h1))))))) := by
  refine mE_eq (q := (yX9_tipsNow, cX9_tipsNow, 1, (some .int), KX9_tipsNow)) (C := KX9_tipsNow) (ls := [some (.ref q)]) rfl rfl rfl rfl ?_
  refine mX_to 1 (k' := 1) (ls' := [some (.ref q)]) (st' := [.ref q]) (h' := h) rfl ?_
  refine mX_ckv (v := .ref (gR h q 9)) (v' := .ref (gR h q 9)) (k' := 2) (ls' := [some (.ref q)]) (st' := []) (h' := h) (kT0 L T) rfl rfl ?_
  refine mX_br (t := 7) (f := 3) (ls' := [some (.ref q)]) (st' := []) (h' := h) rfl ?_ ?_
  · refine mX_to 1 (k' := 8) (ls' := [some (.ref q)]) (st' := [.int 9]) (h' := h) rfl ?_
    exact mX_reti rfl
  · refine mX_to 1 (k' := 4) (ls' := [some (.ref q)]) (st' := [.ref q]) (h' := h) rfl ?_
    refine mX_ckv (v := .ref (gR h q 9)) (v' := .ref (gR h q 9)) (k' := 5) (ls' := [some (.ref q)]) (st' := []) (h' := h) (kT0 L T) rfl rfl ?_
    refine mX_ckw (v := .ref (gR h (gR h q 9) 0)) (v' := .ref (gR h (gR h q 9) 0)) (k' := 6) (ls' := [some (.ref q)]) (st' := []) (h' := h) Iff.rfl rfl rfl fun c4 => ?_
    refine mX_br (t := 7) (f := 9) (ls' := [some (.ref q)]) (st' := []) (h' := h) rfl ?_ ?_
    · refine mX_to 1 (k' := 8) (ls' := [some (.ref q)]) (st' := [.int 9]) (h' := h) rfl ?_
      exact mX_reti rfl
    · refine mX_to 1 (k' := 10) (ls' := [some (.ref q)]) (st' := [.ref q]) (h' := h) rfl ?_
      refine mX_ckv (v := .ref (gR h q 9)) (v' := .ref (gR h q 9)) (k' := 11) (ls' := [some (.ref q)]) (st' := []) (h' := h) (kT0 L T) rfl rfl ?_
      refine mX_ckw (v := .ref (gR h (gR h q 9) 0)) (v' := .ref (gR h (gR h q 9) 0)) (k' := 12) (ls' := [some (.ref q)]) (st' := []) (h' := h) Iff.rfl rfl rfl fun c3 => ?_
      refine mX_to 2 (k' := 14) (ls' := [some (.ref q)]) (st' := [.int (-1), .ref q, .ref (gR h (gR h q 9) 0)]) (h' := h) rfl ?_
      refine mX_ckc (m := mcl (mE mtab d 144 [.ref (gR h (gR h q 9) 0), .ref q, .int (-1)] h) 1 15 [some (.ref q)] []) rfl ?_
      refine mk_cIe (o := F_X3_valueFor d (gR h (gR h q 9) 0) q (-1) h) ?_
      intro x2 h1 eh1
      have L1 : lay h1 := lay_call d 144 [.ref (gR h (gR h q 9) 0), .ref q, .int (-1)] h _ h1 rfl eh1 L
      refine mX_to 4 (k' := 19) (ls' := [some (.ref q)]) (st' := [.int (jmin (jmax x2 0) 99)]) (h' := h1) rfl ?_
      exact mX_reti rfl
theorem S_X9_holdsStill {h : MH} (L : lay h) (d : Nat) (q : Nat) (T : tAt q) : F_X9_holdsStill (d + 1) q h = cI (F_X9_tipNow d q h) (fun x2 h1 => cI (F_X9_tipsNow d q h1) (fun x4 h3 => (if (jabs x2) ≤ x4 then some (.int 1, h3) else some (.int 0, h3)))) := by
  refine mE_eq (q := (yX9_holdsStill, cX9_holdsStill, 1, (some .boolean), KX9_holdsStill)) (C := KX9_holdsStill) (ls := [some (.ref q)]) rfl rfl rfl rfl ?_
  refine mX_to 1 (k' := 1) (ls' := [some (.ref q)]) (st' := [.ref q]) (h' := h) rfl ?_
  refine mX_ckct (m := mcl (mE mtab d 139 [.ref q] h) 1 2 [some (.ref q)] []) (kT0 L T) rfl ?_
  refine mk_cIe (o := F_X9_tipNow d q h) ?_
  intro x2 h1 eh1
  have L1 : lay h1 := lay_call d 139 [.ref q] h _ h1 rfl eh1 L
  refine mX_to 2 (k' := 4) (ls' := [some (.ref q)]) (st' := [.ref q, .int (jabs x2)]) (h' := h1) rfl ?_
  refine mX_ckct (m := mcl (mE mtab d 145 [.ref q] h1) 1 5 [some (.ref q)] [.int (jabs x2)]) (kT0 L1 T) rfl ?_
  refine mk_cIe (o := F_X9_tipsNow d q h1) ?_
  intro x4 h3 eh3
  have L3 : lay h3 := lay_call d 145 [.ref q] h1 _ h3 rfl eh3 L1
  refine mX_br (t := 6) (f := 8) (ls' := [some (.ref q)]) (st' := []) (h' := h3) rfl ?_ ?_
  · refine mX_to 2 (k' := 9) (ls' := [some (.ref q)]) (st' := [.int 1]) (h' := h3) rfl ?_
    exact mX_retb (by decide) rfl
  · refine mX_to 1 (k' := 9) (ls' := [some (.ref q)]) (st' := [.int 0]) (h' := h3) rfl ?_
    exact mX_retb (by decide) rfl
theorem S_X9_go_21 {h : MH} (L : lay h) (d : Nat) (q : Nat) (T : tAt q) (l1 : Int32) (l2 : Int32) (l3 : Int32) : G_X9_go_21 d q l1 l2 l3 h = ck (ib l1 4) (lt_ (sI h (q + 2) (ix l1) l3) fun h10 => some (.int 0, h10)) := by
  refine mX_to 1 (k' := 22) (ls' := [some (.ref q), some (.int l1), some (.int l2), some (.int l3)]) (st' := [.ref q]) (h' := h) rfl ?_
  refine mX_ckv (v := .ref (gR h q 2)) (v' := .ref (q + 2)) (k' := 23) (ls' := [some (.ref q), some (.int l1), some (.int l2), some (.int l3)]) (st' := []) (h' := h) (kT0 L T) (congrArg Value.ref (rT2 L T)) rfl ?_
  refine mX_to 2 (k' := 25) (ls' := [some (.ref q), some (.int l1), some (.int l2), some (.int l3)]) (st' := [.int l3, .int l1, .ref (q + 2)]) (h' := h) rfl ?_
  refine mX_cki (k' := 26) (ls' := [some (.ref q), some (.int l1), some (.int l2), some (.int l3)]) (st' := []) (h' := (sI h (q + 2) (ix l1) l3)) (ckA0 (kT2 L T) (nT2 L T)) rfl fun c9 => ?_
  refine lt_geq2 (X := fun h10 : MH => mX (mE mtab d) KX9_go 26 [some (.ref q), some (.int l1), some (.int l2), some (.int l3)] [] h10) (a := (sI h (q + 2) (ix l1) l3)) (a' := (sI h (q + 2) (ix l1) l3)) rfl fun h10 eh10 => ?_
  have L10 : lay h10 := eh10 ▸ layI L (neT2 T)
  refine mX_to 1 (k' := 27) (ls' := [some (.ref q), some (.int l1), some (.int l2), some (.int l3)]) (st' := [.int 0]) (h' := h10) rfl ?_
  exact mX_retb (by decide) rfl
theorem S_X9_go {h : MH} (L : lay h) (d : Nat) (q : Nat) (a1 : Int32) (a2 : Int32) (T : tAt q) : F_X9_go (d + 1) q a1 a2 h = cI (F_X9_has d q a1 h) (fun x2 h1 => (if x2 = 0 then some (.int 0, h1) else ck (ib a1 4) (lt_ (gI h1 (q + 2) (ix a1)) fun v3 => cI (F_X9_shift d q a1 a2 h1) (fun x5 h4 => (if x5 = 0 then G_X9_go_21 d q a1 a2 v3 h4 else cI (F_X9_holdsStill d q h4) (fun x7 h6 => (if x7 = 0 then G_X9_go_21 d q a1 a2 v3 h6 else some (.int 1, h6)))))))) := by
  refine mE_eq (q := (yX9_go, cX9_go, 4, (some .boolean), KX9_go)) (C := KX9_go) (ls := [some (.ref q), some (.int a1), some (.int a2), none]) rfl rfl rfl rfl ?_
  refine mX_to 2 (k' := 2) (ls' := [some (.ref q), some (.int a1), some (.int a2), none]) (st' := [.int a1, .ref q]) (h' := h) rfl ?_
  refine mX_ckct (m := mcl (mE mtab d 17 [.ref q, .int a1] h) 1 3 [some (.ref q), some (.int a1), some (.int a2), none] []) (kT0 L T) rfl ?_
  refine mk_cIe (o := F_X9_has d q a1 h) ?_
  intro x2 h1 eh1
  have L1 : lay h1 := lay_call d 17 [.ref q, .int a1] h _ h1 rfl eh1 L
  refine mX_br (t := 4) (f := 6) (ls' := [some (.ref q), some (.int a1), some (.int a2), none]) (st' := []) (h' := h1) rfl ?_ ?_
  · refine mX_to 1 (k' := 5) (ls' := [some (.ref q), some (.int a1), some (.int a2), none]) (st' := [.int 0]) (h' := h1) rfl ?_
    exact mX_retb (by decide) rfl
  · refine mX_to 1 (k' := 7) (ls' := [some (.ref q), some (.int a1), some (.int a2), none]) (st' := [.ref q]) (h' := h1) rfl ?_
    refine mX_ckv (v := .ref (gR h1 q 2)) (v' := .ref (q + 2)) (k' := 8) (ls' := [some (.ref q), some (.int a1), some (.int a2), none]) (st' := []) (h' := h1) (kT0 L1 T) (congrArg Value.ref (rT2 L1 T)) rfl ?_
    refine mX_to 1 (k' := 9) (ls' := [some (.ref q), some (.int a1), some (.int a2), none]) (st' := [.int a1, .ref (q + 2)]) (h' := h1) rfl ?_
    refine mX_ckw (v := .int (gI h1 (q + 2) (ix a1))) (v' := .int (gI h1 (q + 2) (ix a1))) (k' := 10) (ls' := [some (.ref q), some (.int a1), some (.int a2), none]) (st' := []) (h' := h1) (ckA1 (kT2 L1 T) (nT2 L1 T)) rfl rfl fun c8 => ?_
    refine lt_gen (X := fun v3 : Int32 => mX (mE mtab d) KX9_go 10 [some (.ref q), some (.int a1), some (.int a2), none] [.int v3] h1) fun v3 => ?_
    refine mX_to 4 (k' := 14) (ls' := [some (.ref q), some (.int a1), some (.int a2), some (.int v3)]) (st' := [.int a2, .int a1, .ref q]) (h' := h1) rfl ?_
    refine mX_ckct (m := mcl (mE mtab d 138 [.ref q, .int a1, .int a2] h1) 1 15 [some (.ref q), some (.int a1), some (.int a2), some (.int v3)] []) (kT0 L1 T) rfl ?_
    refine mk_cIe (o := F_X9_shift d q a1 a2 h1) ?_
    intro x5 h4 eh4
    have L4 : lay h4 := lay_call d 138 [.ref q, .int a1, .int a2] h1 _ h4 rfl eh4 L1
    refine mX_br (t := 21) (f := 16) (ls' := [some (.ref q), some (.int a1), some (.int a2), some (.int v3)]) (st' := []) (h' := h4) rfl ?_ ?_
    · rfl
    · refine mX_to 1 (k' := 17) (ls' := [some (.ref q), some (.int a1), some (.int a2), some (.int v3)]) (st' := [.ref q]) (h' := h4) rfl ?_
      refine mX_ckct (m := mcl (mE mtab d 146 [.ref q] h4) 1 18 [some (.ref q), some (.int a1), some (.int a2), some (.int v3)] []) (kT0 L4 T) rfl ?_
      refine mk_cIe (o := F_X9_holdsStill d q h4) ?_
      intro x7 h6 eh6
      have L6 : lay h6 := lay_call d 146 [.ref q] h4 _ h6 rfl eh6 L4
      refine mX_br (t := 21) (f := 19) (ls' := [some (.ref q), some (.int a1), some (.int a2), some (.int v3)]) (st' := []) (h' := h6) rfl ?_ ?_
      · rfl
      · refine mX_to 1 (k' := 20) (ls' := [some (.ref q), some (.int a1), some (.int a2), some (.int v3)]) (st' := [.int 1]) (h' := h6) rfl ?_
        exact mX_retb (by decide) rfl
theorem S_X6_keptIf_13 {h : MH} (L : lay h) (d : Nat) (l1 : Int32) : G_X6_keptIf_13 d l1 h = (if l1 = 0 then ck (mrt 1 l1) (some (.int l1, h)) else lt_ (sI h 17 1 (((gI h 17 1) + 1) - ((gI h 17 1) + 1) / 31 * 31)) fun h4 => ck (mrt 1 l1) (some (.int l1, h4))) := by
  refine mX_to 1 (k' := 14) (ls' := [some (.ref 17), some (.int l1)]) (st' := [.int l1]) (h' := h) rfl ?_
  refine mX_br (t := 23) (f := 15) (ls' := [some (.ref 17), some (.int l1)]) (st' := []) (h' := h) rfl ?_ ?_
  · refine mX_to 1 (k' := 24) (ls' := [some (.ref 17), some (.int l1)]) (st' := [.int l1]) (h' := h) rfl ?_
    exact mX_retc rfl
  · refine mX_to 2 (k' := 17) (ls' := [some (.ref 17), some (.int l1)]) (st' := [.ref 17, .ref 17]) (h' := h) rfl ?_
    refine mX_ckv (v := .int (gI h 17 1)) (v' := .int (gI h 17 1)) (k' := 18) (ls' := [some (.ref 17), some (.int l1)]) (st' := [.ref 17]) (h' := h) (k_17 L) rfl rfl ?_
    refine mX_to 3 (k' := 21) (ls' := [some (.ref 17), some (.int l1)]) (st' := [.int 31, .int ((gI h 17 1) + 1), .ref 17]) (h' := h) rfl ?_
    refine mX_ckt (c := ¬ (31 : Int32) = 0) (k' := 22) (ls' := [some (.ref 17), some (.int l1)]) (st' := [.int (((gI h 17 1) + 1) - ((gI h 17 1) + 1) / 31 * 31), .ref 17]) (h' := h) (by decide) rfl ?_
    refine mX_ckt (k' := 23) (ls' := [some (.ref 17), some (.int l1)]) (st' := []) (h' := (sI h 17 1 (((gI h 17 1) + 1) - ((gI h 17 1) + 1) / 31 * 31))) (k_17 L) rfl ?_
    refine lt_geq2 (X := fun h4 : MH => mX (mE mtab d) KX6_keptIf 23 [some (.ref 17), some (.int l1)] [] h4) (a := (sI h 17 1 (((gI h 17 1) + 1) - ((gI h 17 1) + 1) / 31 * 31))) (a' := (sI h 17 1 (((gI h 17 1) + 1) - ((gI h 17 1) + 1) / 31 * 31))) rfl fun h4 eh4 => ?_
    have L4 : lay h4 := eh4 ▸ layI L (by decide)
    refine mX_to 1 (k' := 24) (ls' := [some (.ref 17), some (.int l1)]) (st' := [.int l1]) (h' := h4) rfl ?_
    exact mX_retc rfl
theorem S_X6_keptIf {h : MH} (L : lay h) (d : Nat) (a1 : Int32) : F_X6_keptIf (d + 1) a1 h = (if a1 = 0 then G_X6_keptIf_13 d a1 h else (if (gI h 17 2) < 30 then lt_ (sI h 17 2 ((gI h 17 2) + 1)) fun h2 => ck (mrt 1 a1) (some (.int a1, h2)) else G_X6_keptIf_13 d a1 h)) := by
  refine mE_eq (q := (yX6_keptIf, cX6_keptIf, 2, (some .boolean), KX6_keptIf)) (C := KX6_keptIf) (ls := [some (.ref 17), some (.int a1)]) rfl rfl rfl rfl ?_
  refine mX_to 1 (k' := 1) (ls' := [some (.ref 17), some (.int a1)]) (st' := [.int a1]) (h' := h) rfl ?_
  refine mX_br (t := 13) (f := 2) (ls' := [some (.ref 17), some (.int a1)]) (st' := []) (h' := h) rfl ?_ ?_
  · rfl
  · refine mX_to 1 (k' := 3) (ls' := [some (.ref 17), some (.int a1)]) (st' := [.ref 17]) (h' := h) rfl ?_
    refine mX_ckv (v := .int (gI h 17 2)) (v' := .int (gI h 17 2)) (k' := 4) (ls' := [some (.ref 17), some (.int a1)]) (st' := []) (h' := h) (k_17 L) rfl rfl ?_
    refine mX_to 1 (k' := 5) (ls' := [some (.ref 17), some (.int a1)]) (st' := [.int 30, .int (gI h 17 2)]) (h' := h) rfl ?_
    refine mX_br (t := 6) (f := 13) (ls' := [some (.ref 17), some (.int a1)]) (st' := []) (h' := h) rfl ?_ ?_
    · refine mX_to 2 (k' := 8) (ls' := [some (.ref 17), some (.int a1)]) (st' := [.ref 17, .ref 17]) (h' := h) rfl ?_
      refine mX_ckv (v := .int (gI h 17 2)) (v' := .int (gI h 17 2)) (k' := 9) (ls' := [some (.ref 17), some (.int a1)]) (st' := [.ref 17]) (h' := h) (k_17 L) rfl rfl ?_
      refine mX_to 2 (k' := 11) (ls' := [some (.ref 17), some (.int a1)]) (st' := [.int ((gI h 17 2) + 1), .ref 17]) (h' := h) rfl ?_
      refine mX_ckt (k' := 12) (ls' := [some (.ref 17), some (.int a1)]) (st' := []) (h' := (sI h 17 2 ((gI h 17 2) + 1))) (k_17 L) rfl ?_
      refine lt_geq2 (X := fun h2 : MH => mX (mE mtab d) KX6_keptIf 12 [some (.ref 17), some (.int a1)] [] h2) (a := (sI h 17 2 ((gI h 17 2) + 1))) (a' := (sI h 17 2 ((gI h 17 2) + 1))) rfl fun h2 eh2 => ?_
      have L2 : lay h2 := eh2 ▸ layI L (by decide)
      refine mX_to 2 (k' := 24) (ls' := [some (.ref 17), some (.int a1)]) (st' := [.int a1]) (h' := h2) rfl ?_
      exact mX_retc rfl
    · rfl
theorem S_X0_walks {h : MH} (L : lay h) (d : Nat) (a1 : Int32) (a2 : Int32) : F_X0_walks (d + 1) a1 a2 h = cV (F_X6_mark d h) (fun h1 => cI (F_X9_go d 10 a1 a2 h1) (fun x3 h2 => cI (F_X6_keptIf d x3 h2) (fun x5 h4 => ck (mrt 1 x5) (some (.int x5, h4))))) := by
  refine mE_eq (q := (yX0_walks, cX0_walks, 3, (some .boolean), KX0_walks)) (C := KX0_walks) (ls := [some (.ref 9), some (.int a1), some (.int a2)]) rfl rfl rfl rfl ?_
  refine mX_to 1 (k' := 1) (ls' := [some (.ref 9), some (.int a1), some (.int a2)]) (st' := [.ref 9]) (h' := h) rfl ?_
  refine mX_ckv (v := .ref (gR h 9 1)) (v' := .ref 17) (k' := 2) (ls' := [some (.ref 9), some (.int a1), some (.int a2)]) (st' := []) (h' := h) (k_9 L) (congrArg Value.ref (r_9_1 L)) rfl ?_
  refine mX_to 1 (k' := 3) (ls' := [some (.ref 9), some (.int a1), some (.int a2)]) (st' := [.ref 9, .ref 17]) (h' := h) rfl ?_
  refine mX_ckv (v := .ref (gR h 9 0)) (v' := .ref 10) (k' := 4) (ls' := [some (.ref 9), some (.int a1), some (.int a2)]) (st' := [.ref 17]) (h' := h) (k_9 L) (congrArg Value.ref (r_9_0 L)) rfl ?_
  refine mX_ckct (m := mcl (mE mtab d 137 [.ref 17, .ref 10] h) 0 5 [some (.ref 9), some (.int a1), some (.int a2)] []) (k_17 L) rfl ?_
  refine mk_cVe (o := F_X6_mark d h) ?_
  intro wh1 h1 eh1
  have L1 : lay h1 := lay_call d 137 [.ref 17, .ref 10] h _ h1 rfl eh1 L
  refine mX_to 1 (k' := 6) (ls' := [some (.ref 9), some (.int a1), some (.int a2)]) (st' := [.ref 9]) (h' := h1) rfl ?_
  refine mX_ckv (v := .ref (gR h1 9 1)) (v' := .ref 17) (k' := 7) (ls' := [some (.ref 9), some (.int a1), some (.int a2)]) (st' := []) (h' := h1) (k_9 L1) (congrArg Value.ref (r_9_1 L1)) rfl ?_
  refine mX_to 1 (k' := 8) (ls' := [some (.ref 9), some (.int a1), some (.int a2)]) (st' := [.ref 9, .ref 17]) (h' := h1) rfl ?_
  refine mX_ckv (v := .ref (gR h1 9 0)) (v' := .ref 10) (k' := 9) (ls' := [some (.ref 9), some (.int a1), some (.int a2)]) (st' := [.ref 17]) (h' := h1) (k_9 L1) (congrArg Value.ref (r_9_0 L1)) rfl ?_
  refine mX_to 2 (k' := 11) (ls' := [some (.ref 9), some (.int a1), some (.int a2)]) (st' := [.int a2, .int a1, .ref 10, .ref 17]) (h' := h1) rfl ?_
  refine mX_ckct (m := mcl (mE mtab d 147 [.ref 10, .int a1, .int a2] h1) 1 12 [some (.ref 9), some (.int a1), some (.int a2)] [.ref 17]) (k_10 L1) rfl ?_
  refine mk_cIe (o := F_X9_go d 10 a1 a2 h1) ?_
  intro x3 h2 eh2
  have L2 : lay h2 := lay_call d 147 [.ref 10, .int a1, .int a2] h1 _ h2 rfl eh2 L1
  refine mX_ckct (m := mcl (mE mtab d 148 [.ref 17, .int x3] h2) 1 13 [some (.ref 9), some (.int a1), some (.int a2)] []) (k_17 L2) rfl ?_
  refine mk_cIe (o := F_X6_keptIf d x3 h2) ?_
  intro x5 h4 eh4
  have L4 : lay h4 := lay_call d 148 [.ref 17, .int x3] h2 _ h4 rfl eh4 L2
  exact mX_retc rfl
theorem S_X10_walk {h : MH} (L : lay h) (d : Nat) (a1 : Int32) (a2 : Int32) : F_X10_walk (d + 1) a1 a2 h = cI (F_X0_walks d a1 a2 h) (fun x2 h1 => ck (mrt 1 x2) (some (.int x2, h1))) := by
  refine mE_eq (q := (yX10_walk, cX10_walk, 3, (some .boolean), KX10_walk)) (C := KX10_walk) (ls := [some (.ref 8), some (.int a1), some (.int a2)]) rfl rfl rfl rfl ?_
  refine mX_to 1 (k' := 1) (ls' := [some (.ref 8), some (.int a1), some (.int a2)]) (st' := [.ref 8]) (h' := h) rfl ?_
  refine mX_ckv (v := .ref (gR h 8 0)) (v' := .ref 9) (k' := 2) (ls' := [some (.ref 8), some (.int a1), some (.int a2)]) (st' := []) (h' := h) (k_8 L) (congrArg Value.ref (r_8_0 L)) rfl ?_
  refine mX_to 2 (k' := 4) (ls' := [some (.ref 8), some (.int a1), some (.int a2)]) (st' := [.int a2, .int a1, .ref 9]) (h' := h) rfl ?_
  refine mX_ckct (m := mcl (mE mtab d 149 [.ref 9, .int a1, .int a2] h) 1 5 [some (.ref 8), some (.int a1), some (.int a2)] []) (k_9 L) rfl ?_
  refine mk_cIe (o := F_X0_walks d a1 a2 h) ?_
  intro x2 h1 eh1
  have L1 : lay h1 := lay_call d 149 [.ref 9, .int a1, .int a2] h _ h1 rfl eh1 L
  exact mX_retc rfl
theorem S_X11_step {h : MH} (L : lay h) (d : Nat) (a0 : Int32) : F_X11_step (d + 1) a0 h = (if a0 = 0 then some (.int (-1), h) else some (.int 1, h)) := by
  refine mE_eq (q := (yX11_step, cX11_step, 1, (some .int), KX11_step)) (C := KX11_step) (ls := [some (.int a0)]) rfl rfl rfl rfl ?_
  refine mX_to 1 (k' := 1) (ls' := [some (.int a0)]) (st' := [.int a0]) (h' := h) rfl ?_
  refine mX_br (t := 4) (f := 2) (ls' := [some (.int a0)]) (st' := []) (h' := h) rfl ?_ ?_
  · refine mX_to 1 (k' := 5) (ls' := [some (.int a0)]) (st' := [.int (-1)]) (h' := h) rfl ?_
    exact mX_reti rfl
  · refine mX_to 2 (k' := 5) (ls' := [some (.int a0)]) (st' := [.int 1]) (h' := h) rfl ?_
    exact mX_reti rfl
theorem S_X11_canStep {h : MH} (L : lay h) (d : Nat) (a1 : Int32) (a2 : Int32) : F_X11_canStep (d + 1) a1 a2 h = cI (F_X11_isPerson d a1 h) (fun x2 h1 => (if x2 = 0 then some (.int 0, h1) else ck (ib (9 + a1) 1498) (cI (F_X11_step d a2 h1) (fun x4 h3 => cI (F_X11_isPlace d ((gI h1 68 (ix (9 + a1))) + x4) h3) (fun x6 h5 => (if x6 = 0 then some (.int 0, h5) else some (.int 1, h5))))))) := by
  refine mE_eq (q := (yX11_canStep, cX11_canStep, 3, (some .boolean), KX11_canStep)) (C := KX11_canStep) (ls := [some (.ref 67), some (.int a1), some (.int a2)]) rfl rfl rfl rfl ?_
  refine mX_to 2 (k' := 2) (ls' := [some (.ref 67), some (.int a1), some (.int a2)]) (st' := [.int a1, .ref 67]) (h' := h) rfl ?_
  refine mX_ckct (m := mcl (mE mtab d 20 [.ref 67, .int a1] h) 1 3 [some (.ref 67), some (.int a1), some (.int a2)] []) (k_67 L) rfl ?_
  refine mk_cIe (o := F_X11_isPerson d a1 h) ?_
  intro x2 h1 eh1
  have L1 : lay h1 := lay_call d 20 [.ref 67, .int a1] h _ h1 rfl eh1 L
  refine mX_br (t := 17) (f := 4) (ls' := [some (.ref 67), some (.int a1), some (.int a2)]) (st' := []) (h' := h1) rfl ?_ ?_
  · refine mX_to 1 (k' := 18) (ls' := [some (.ref 67), some (.int a1), some (.int a2)]) (st' := [.int 0]) (h' := h1) rfl ?_
    exact mX_retb (by decide) rfl
  · refine mX_to 1 (k' := 5) (ls' := [some (.ref 67), some (.int a1), some (.int a2)]) (st' := [.ref 67]) (h' := h1) rfl ?_
    refine mX_ckv (v := .ref (gR h1 67 0)) (v' := .ref 68) (k' := 6) (ls' := [some (.ref 67), some (.int a1), some (.int a2)]) (st' := []) (h' := h1) (k_67 L1) (congrArg Value.ref (r_67_0 L1)) rfl ?_
    refine mX_to 3 (k' := 9) (ls' := [some (.ref 67), some (.int a1), some (.int a2)]) (st' := [.int (9 + a1), .ref 68]) (h' := h1) rfl ?_
    refine mX_ckw (v := .int (gI h1 68 (ix (9 + a1)))) (v' := .int (gI h1 68 (ix (9 + a1)))) (k' := 10) (ls' := [some (.ref 67), some (.int a1), some (.int a2)]) (st' := []) (h' := h1) (ckA1 (k_68 L1) (n_68 L1)) rfl rfl fun c7 => ?_
    refine mX_to 1 (k' := 11) (ls' := [some (.ref 67), some (.int a1), some (.int a2)]) (st' := [.int a2, .int (gI h1 68 (ix (9 + a1)))]) (h' := h1) rfl ?_
    refine mX_cIe (o := F_X11_step d a2 h1) (k' := 12) (ls' := [some (.ref 67), some (.int a1), some (.int a2)]) (st' := [.int (gI h1 68 (ix (9 + a1)))]) rfl ?_
    intro x4 h3 eh3
    have L3 : lay h3 := lay_call d 151 [.int a2] h1 _ h3 rfl eh3 L1
    refine mX_to 1 (k' := 13) (ls' := [some (.ref 67), some (.int a1), some (.int a2)]) (st' := [.int ((gI h1 68 (ix (9 + a1))) + x4)]) (h' := h3) rfl ?_
    refine mX_cIe (o := F_X11_isPlace d ((gI h1 68 (ix (9 + a1))) + x4) h3) (k' := 14) (ls' := [some (.ref 67), some (.int a1), some (.int a2)]) (st' := []) rfl ?_
    intro x6 h5 eh5
    have L5 : lay h5 := lay_call d 15 [.int ((gI h1 68 (ix (9 + a1))) + x4)] h3 _ h5 rfl eh5 L3
    refine mX_br (t := 17) (f := 15) (ls' := [some (.ref 67), some (.int a1), some (.int a2)]) (st' := []) (h' := h5) rfl ?_ ?_
    · refine mX_to 1 (k' := 18) (ls' := [some (.ref 67), some (.int a1), some (.int a2)]) (st' := [.int 0]) (h' := h5) rfl ?_
      exact mX_retb (by decide) rfl
    · refine mX_to 2 (k' := 18) (ls' := [some (.ref 67), some (.int a1), some (.int a2)]) (st' := [.int 1]) (h' := h5) rfl ?_
      exact mX_retb (by decide) rfl
theorem S_X11_move {h : MH} (L : lay h) (d : Nat) (a1 : Int32) (a2 : Int32) : F_X11_move (d + 1) a1 a2 h = ck (ib (9 + a1) 1498) (cI (F_X11_step d a2 h) (fun x2 h1 => ck (ib (9 + a1) 1498) (lt_ (sI h1 68 (ix (9 + a1)) ((gI h 68 (ix (9 + a1))) + x2)) fun h4 => some (.int 0, h4)))) := by
  refine mE_eq (q := (yX11_move, cX11_move, 3, none, KX11_move)) (C := KX11_move) (ls := [some (.ref 67), some (.int a1), some (.int a2)]) rfl rfl rfl rfl ?_
  refine mX_to 1 (k' := 1) (ls' := [some (.ref 67), some (.int a1), some (.int a2)]) (st' := [.ref 67]) (h' := h) rfl ?_
  refine mX_ckv (v := .ref (gR h 67 0)) (v' := .ref 68) (k' := 2) (ls' := [some (.ref 67), some (.int a1), some (.int a2)]) (st' := []) (h' := h) (k_67 L) (congrArg Value.ref (r_67_0 L)) rfl ?_
  refine mX_to 4 (k' := 6) (ls' := [some (.ref 67), some (.int a1), some (.int a2)]) (st' := [.int (9 + a1), .ref 68, .int (9 + a1), .ref 68]) (h' := h) rfl ?_
  refine mX_ckw (v := .int (gI h 68 (ix (9 + a1)))) (v' := .int (gI h 68 (ix (9 + a1)))) (k' := 7) (ls' := [some (.ref 67), some (.int a1), some (.int a2)]) (st' := [.int (9 + a1), .ref 68]) (h' := h) (ckA1 (k_68 L) (n_68 L)) rfl rfl fun c5 => ?_
  refine mX_to 1 (k' := 8) (ls' := [some (.ref 67), some (.int a1), some (.int a2)]) (st' := [.int a2, .int (gI h 68 (ix (9 + a1))), .int (9 + a1), .ref 68]) (h' := h) rfl ?_
  refine mX_cIe (o := F_X11_step d a2 h) (k' := 9) (ls' := [some (.ref 67), some (.int a1), some (.int a2)]) (st' := [.int (gI h 68 (ix (9 + a1))), .int (9 + a1), .ref 68]) rfl ?_
  intro x2 h1 eh1
  have L1 : lay h1 := lay_call d 151 [.int a2] h _ h1 rfl eh1 L
  refine mX_to 1 (k' := 10) (ls' := [some (.ref 67), some (.int a1), some (.int a2)]) (st' := [.int ((gI h 68 (ix (9 + a1))) + x2), .int (9 + a1), .ref 68]) (h' := h1) rfl ?_
  refine mX_cki (k' := 11) (ls' := [some (.ref 67), some (.int a1), some (.int a2)]) (st' := []) (h' := (sI h1 68 (ix (9 + a1)) ((gI h 68 (ix (9 + a1))) + x2))) (ckA0 (k_68 L1) (n_68 L1)) rfl fun c3 => ?_
  refine lt_geq2 (X := fun h4 : MH => mX (mE mtab d) KX11_move 11 [some (.ref 67), some (.int a1), some (.int a2)] [] h4) (a := (sI h1 68 (ix (9 + a1)) ((gI h 68 (ix (9 + a1))) + x2))) (a' := (sI h1 68 (ix (9 + a1)) ((gI h 68 (ix (9 + a1))) + x2))) rfl fun h4 eh4 => ?_
  have L4 : lay h4 := eh4 ▸ layI L1 (by decide)
  exact mX_ret rfl
theorem S_X11_everyone {h : MH} (L : lay h) (d : Nat) : F_X11_everyone (d + 1) h = some (.int ((1 <<< ((gI h 68 0) &&& 31)) - 1), h) := by
  refine mE_eq (q := (yX11_everyone, cX11_everyone, 1, (some .int), KX11_everyone)) (C := KX11_everyone) (ls := [some (.ref 67)]) rfl rfl rfl rfl ?_
  refine mX_to 2 (k' := 2) (ls' := [some (.ref 67)]) (st' := [.ref 67, .int 1]) (h' := h) rfl ?_
  refine mX_ckv (v := .ref (gR h 67 0)) (v' := .ref 68) (k' := 3) (ls' := [some (.ref 67)]) (st' := [.int 1]) (h' := h) (k_67 L) (congrArg Value.ref (r_67_0 L)) rfl ?_
  refine mX_to 1 (k' := 4) (ls' := [some (.ref 67)]) (st' := [.int 0, .ref 68, .int 1]) (h' := h) rfl ?_
  refine mX_ckv (v := .int (gI h 68 (ix (0 : Int32)))) (v' := .int (gI h 68 0)) (k' := 5) (ls' := [some (.ref 67)]) (st' := [.int 1]) (h' := h) ((ckA1 (k_68 L) (n_68 L)).mpr (ib_lit (n := 0) rfl (by decide) (by decide))) (congrArg (fun j => Value.int (gI h 68 j)) (ix_lit (n := 0) rfl (by decide))) rfl ?_
  refine mX_to 3 (k' := 8) (ls' := [some (.ref 67)]) (st' := [.int ((1 <<< ((gI h 68 0) &&& 31)) - 1)]) (h' := h) rfl ?_
  exact mX_reti rfl
theorem S_X11_tipOf_4 {h : MH} (L : lay h) (d : Nat) (l1 : Int32) (l2 : Int32) (l3 : Int32) : G_X11_tipOf_4 d l1 l2 l3 h = (if l3 < 9 then ck (ib (13 + l3) 1498) (lt_ (l2 + ((gI h 68 (ix (13 + l3))) * (l3 - 4))) fun v1 => G_X11_tipOf_4 d l1 v1 (l3 + 1) h) else G_X11_tipOf_24 d l1 l2 0 h) := by
  refine mX_to 2 (k' := 6) (ls' := [some (.ref 67), some (.int l1), some (.int l2), some (.int l3)]) (st' := [.int 9, .int l3]) (h' := h) rfl ?_
  refine mX_br (t := 7) (f := 22) (ls' := [some (.ref 67), some (.int l1), some (.int l2), some (.int l3)]) (st' := []) (h' := h) rfl ?_ ?_
  · refine mX_to 2 (k' := 9) (ls' := [some (.ref 67), some (.int l1), some (.int l2), some (.int l3)]) (st' := [.ref 67, .int l2]) (h' := h) rfl ?_
    refine mX_ckv (v := .ref (gR h 67 0)) (v' := .ref 68) (k' := 10) (ls' := [some (.ref 67), some (.int l1), some (.int l2), some (.int l3)]) (st' := [.int l2]) (h' := h) (k_67 L) (congrArg Value.ref (r_67_0 L)) rfl ?_
    refine mX_to 3 (k' := 13) (ls' := [some (.ref 67), some (.int l1), some (.int l2), some (.int l3)]) (st' := [.int (13 + l3), .ref 68, .int l2]) (h' := h) rfl ?_
    refine mX_ckw (v := .int (gI h 68 (ix (13 + l3)))) (v' := .int (gI h 68 (ix (13 + l3)))) (k' := 14) (ls' := [some (.ref 67), some (.int l1), some (.int l2), some (.int l3)]) (st' := [.int l2]) (h' := h) (ckA1 (k_68 L) (n_68 L)) rfl rfl fun c2 => ?_
    refine mX_to 5 (k' := 19) (ls' := [some (.ref 67), some (.int l1), some (.int l2), some (.int l3)]) (st' := [.int (l2 + ((gI h 68 (ix (13 + l3))) * (l3 - 4)))]) (h' := h) rfl ?_
    refine lt_gen (X := fun v1 : Int32 => mX (mE mtab d) KX11_tipOf 19 [some (.ref 67), some (.int l1), some (.int l2), some (.int l3)] [.int v1] h) fun v1 => ?_
    refine mX_to 3 (k' := 4) (ls' := [some (.ref 67), some (.int l1), some (.int v1), some (.int (l3 + 1))]) (st' := []) (h' := h) rfl ?_
    rfl
  · refine mX_to 2 (k' := 24) (ls' := [some (.ref 67), some (.int l1), some (.int l2), some (.int 0)]) (st' := []) (h' := h) rfl ?_
    rfl
theorem S_X11_tipOf_24 {h : MH} (L : lay h) (d : Nat) (l1 : Int32) (l2 : Int32) (l3 : Int32) : G_X11_tipOf_24 d l1 l2 l3 h = (if l3 < (gI h 68 0) then cI (F_X11_has d l1 l3 h) (fun x4 h3 => (if x4 = 0 then G_X11_tipOf_52 d l1 l2 l3 0 l2 h3 else ck (ib (22 + l3) 1498) (ck (ib (9 + l3) 1498) (G_X11_tipOf_52 d l1 l2 l3 ((gI h3 68 (ix (22 + l3))) * ((gI h3 68 (ix (9 + l3))) - 4)) l2 h3)))) else some (.int l2, h)) := by
  refine mX_to 2 (k' := 26) (ls' := [some (.ref 67), some (.int l1), some (.int l2), some (.int l3)]) (st' := [.ref 67, .int l3]) (h' := h) rfl ?_
  refine mX_ckv (v := .ref (gR h 67 0)) (v' := .ref 68) (k' := 27) (ls' := [some (.ref 67), some (.int l1), some (.int l2), some (.int l3)]) (st' := [.int l3]) (h' := h) (k_67 L) (congrArg Value.ref (r_67_0 L)) rfl ?_
  refine mX_to 1 (k' := 28) (ls' := [some (.ref 67), some (.int l1), some (.int l2), some (.int l3)]) (st' := [.int 0, .ref 68, .int l3]) (h' := h) rfl ?_
  refine mX_ckv (v := .int (gI h 68 (ix (0 : Int32)))) (v' := .int (gI h 68 0)) (k' := 29) (ls' := [some (.ref 67), some (.int l1), some (.int l2), some (.int l3)]) (st' := [.int l3]) (h' := h) ((ckA1 (k_68 L) (n_68 L)).mpr (ib_lit (n := 0) rfl (by decide) (by decide))) (congrArg (fun j => Value.int (gI h 68 j)) (ix_lit (n := 0) rfl (by decide))) rfl ?_
  refine mX_br (t := 30) (f := 56) (ls' := [some (.ref 67), some (.int l1), some (.int l2), some (.int l3)]) (st' := []) (h' := h) rfl ?_ ?_
  · refine mX_to 3 (k' := 33) (ls' := [some (.ref 67), some (.int l1), some (.int l2), some (.int l3)]) (st' := [.int l3, .int l1, .int l2]) (h' := h) rfl ?_
    refine mX_cIe (o := F_X11_has d l1 l3 h) (k' := 34) (ls' := [some (.ref 67), some (.int l1), some (.int l2), some (.int l3)]) (st' := [.int l2]) rfl ?_
    intro x4 h3 eh3
    have L3 : lay h3 := lay_call d 108 [.int l1, .int l3] h _ h3 rfl eh3 L
    refine mX_br (t := 51) (f := 35) (ls' := [some (.ref 67), some (.int l1), some (.int l2), some (.int l3)]) (st' := [.int l2]) (h' := h3) rfl ?_ ?_
    · refine mX_to 1 (k' := 52) (ls' := [some (.ref 67), some (.int l1), some (.int l2), some (.int l3)]) (st' := [.int 0, .int l2]) (h' := h3) rfl ?_
      rfl
    · refine mX_to 1 (k' := 36) (ls' := [some (.ref 67), some (.int l1), some (.int l2), some (.int l3)]) (st' := [.ref 67, .int l2]) (h' := h3) rfl ?_
      refine mX_ckv (v := .ref (gR h3 67 0)) (v' := .ref 68) (k' := 37) (ls' := [some (.ref 67), some (.int l1), some (.int l2), some (.int l3)]) (st' := [.int l2]) (h' := h3) (k_67 L3) (congrArg Value.ref (r_67_0 L3)) rfl ?_
      refine mX_to 3 (k' := 40) (ls' := [some (.ref 67), some (.int l1), some (.int l2), some (.int l3)]) (st' := [.int (22 + l3), .ref 68, .int l2]) (h' := h3) rfl ?_
      refine mX_ckw (v := .int (gI h3 68 (ix (22 + l3)))) (v' := .int (gI h3 68 (ix (22 + l3)))) (k' := 41) (ls' := [some (.ref 67), some (.int l1), some (.int l2), some (.int l3)]) (st' := [.int l2]) (h' := h3) (ckA1 (k_68 L3) (n_68 L3)) rfl rfl fun c6 => ?_
      refine mX_to 1 (k' := 42) (ls' := [some (.ref 67), some (.int l1), some (.int l2), some (.int l3)]) (st' := [.ref 67, .int (gI h3 68 (ix (22 + l3))), .int l2]) (h' := h3) rfl ?_
      refine mX_ckv (v := .ref (gR h3 67 0)) (v' := .ref 68) (k' := 43) (ls' := [some (.ref 67), some (.int l1), some (.int l2), some (.int l3)]) (st' := [.int (gI h3 68 (ix (22 + l3))), .int l2]) (h' := h3) (k_67 L3) (congrArg Value.ref (r_67_0 L3)) rfl ?_
      refine mX_to 3 (k' := 46) (ls' := [some (.ref 67), some (.int l1), some (.int l2), some (.int l3)]) (st' := [.int (9 + l3), .ref 68, .int (gI h3 68 (ix (22 + l3))), .int l2]) (h' := h3) rfl ?_
      refine mX_ckw (v := .int (gI h3 68 (ix (9 + l3)))) (v' := .int (gI h3 68 (ix (9 + l3)))) (k' := 47) (ls' := [some (.ref 67), some (.int l1), some (.int l2), some (.int l3)]) (st' := [.int (gI h3 68 (ix (22 + l3))), .int l2]) (h' := h3) (ckA1 (k_68 L3) (n_68 L3)) rfl rfl fun c5 => ?_
      refine mX_to 4 (k' := 52) (ls' := [some (.ref 67), some (.int l1), some (.int l2), some (.int l3)]) (st' := [.int ((gI h3 68 (ix (22 + l3))) * ((gI h3 68 (ix (9 + l3))) - 4)), .int l2]) (h' := h3) rfl ?_
      rfl
  · refine mX_to 1 (k' := 57) (ls' := [some (.ref 67), some (.int l1), some (.int l2), some (.int l3)]) (st' := [.int l2]) (h' := h) rfl ?_
    exact mX_reti rfl
theorem S_X11_tipOf_52 {h : MH} (L : lay h) (d : Nat) (l1 : Int32) (l2 : Int32) (l3 : Int32) (s0 : Int32) (s1 : Int32) : G_X11_tipOf_52 d l1 l2 l3 s0 s1 h = G_X11_tipOf_24 d l1 (s1 + s0) (l3 + 1) h := by
  refine mX_to 4 (k' := 24) (ls' := [some (.ref 67), some (.int l1), some (.int (s1 + s0)), some (.int (l3 + 1))]) (st' := []) (h' := h) rfl ?_
  rfl
theorem S_X11_tipOf {h : MH} (L : lay h) (d : Nat) (a1 : Int32) : F_X11_tipOf (d + 1) a1 h = G_X11_tipOf_4 d a1 0 0 h := by
  refine mE_eq (q := (yX11_tipOf, cX11_tipOf, 4, (some .int), KX11_tipOf)) (C := KX11_tipOf) (ls := [some (.ref 67), some (.int a1), none, none]) rfl rfl rfl rfl ?_
  refine mX_to 4 (k' := 4) (ls' := [some (.ref 67), some (.int a1), some (.int 0), some (.int 0)]) (st' := []) (h' := h) rfl ?_
  rfl
theorem S_X11_tipNow {h : MH} (L : lay h) (d : Nat) : F_X11_tipNow (d + 1) h = cI (F_X11_everyone d h) (fun x2 h1 => cI (F_X11_tipOf d x2 h1) (fun x4 h3 => some (.int x4, h3))) := by
  refine mE_eq (q := (yX11_tipNow, cX11_tipNow, 1, (some .int), KX11_tipNow)) (C := KX11_tipNow) (ls := [some (.ref 67)]) rfl rfl rfl rfl ?_
  refine mX_to 2 (k' := 2) (ls' := [some (.ref 67)]) (st' := [.ref 67, .ref 67]) (h' := h) rfl ?_
  refine mX_ckct (m := mcl (mE mtab d 154 [.ref 67] h) 1 3 [some (.ref 67)] [.ref 67]) (k_67 L) rfl ?_
  refine mk_cIe (o := F_X11_everyone d h) ?_
  intro x2 h1 eh1
  have L1 : lay h1 := lay_call d 154 [.ref 67] h _ h1 rfl eh1 L
  refine mX_ckct (m := mcl (mE mtab d 155 [.ref 67, .int x2] h1) 1 4 [some (.ref 67)] []) (k_67 L1) rfl ?_
  refine mk_cIe (o := F_X11_tipOf d x2 h1) ?_
  intro x4 h3 eh3
  have L3 : lay h3 := lay_call d 155 [.ref 67, .int x2] h1 _ h3 rfl eh3 L1
  exact mX_reti rfl
theorem S_X11_size {h : MH} (L : lay h) (d : Nat) (a0 : Int32) : F_X11_size (d + 1) a0 h = (if a0 < 0 then some (.int (-a0), h) else some (.int a0, h)) := by
  refine mE_eq (q := (yX11_size, cX11_size, 1, (some .int), KX11_size)) (C := KX11_size) (ls := [some (.int a0)]) rfl rfl rfl rfl ?_
  refine mX_to 1 (k' := 1) (ls' := [some (.int a0)]) (st' := [.int a0]) (h' := h) rfl ?_
  refine mX_br (t := 2) (f := 5) (ls' := [some (.int a0)]) (st' := []) (h' := h) rfl ?_ ?_
  · refine mX_to 3 (k' := 6) (ls' := [some (.int a0)]) (st' := [.int (-a0)]) (h' := h) rfl ?_
    exact mX_reti rfl
  · refine mX_to 1 (k' := 6) (ls' := [some (.int a0)]) (st' := [.int a0]) (h' := h) rfl ?_
    exact mX_reti rfl
theorem S_X11_weightOf_4 {h : MH} (L : lay h) (d : Nat) (l1 : Int32) (l2 : Int32) (l3 : Int32) : G_X11_weightOf_4 d l1 l2 l3 h = (if l3 < (gI h 68 0) then cI (F_X11_has d l1 l3 h) (fun x2 h1 => (if x2 = 0 then G_X11_weightOf_23 d l1 l2 l3 0 l2 h1 else ck (ib (22 + l3) 1498) (G_X11_weightOf_23 d l1 l2 l3 (gI h1 68 (ix (22 + l3))) l2 h1))) else some (.int l2, h)) := by
  refine mX_to 2 (k' := 6) (ls' := [some (.ref 67), some (.int l1), some (.int l2), some (.int l3)]) (st' := [.ref 67, .int l3]) (h' := h) rfl ?_
  refine mX_ckv (v := .ref (gR h 67 0)) (v' := .ref 68) (k' := 7) (ls' := [some (.ref 67), some (.int l1), some (.int l2), some (.int l3)]) (st' := [.int l3]) (h' := h) (k_67 L) (congrArg Value.ref (r_67_0 L)) rfl ?_
  refine mX_to 1 (k' := 8) (ls' := [some (.ref 67), some (.int l1), some (.int l2), some (.int l3)]) (st' := [.int 0, .ref 68, .int l3]) (h' := h) rfl ?_
  refine mX_ckv (v := .int (gI h 68 (ix (0 : Int32)))) (v' := .int (gI h 68 0)) (k' := 9) (ls' := [some (.ref 67), some (.int l1), some (.int l2), some (.int l3)]) (st' := [.int l3]) (h' := h) ((ckA1 (k_68 L) (n_68 L)).mpr (ib_lit (n := 0) rfl (by decide) (by decide))) (congrArg (fun j => Value.int (gI h 68 j)) (ix_lit (n := 0) rfl (by decide))) rfl ?_
  refine mX_br (t := 10) (f := 27) (ls' := [some (.ref 67), some (.int l1), some (.int l2), some (.int l3)]) (st' := []) (h' := h) rfl ?_ ?_
  · refine mX_to 3 (k' := 13) (ls' := [some (.ref 67), some (.int l1), some (.int l2), some (.int l3)]) (st' := [.int l3, .int l1, .int l2]) (h' := h) rfl ?_
    refine mX_cIe (o := F_X11_has d l1 l3 h) (k' := 14) (ls' := [some (.ref 67), some (.int l1), some (.int l2), some (.int l3)]) (st' := [.int l2]) rfl ?_
    intro x2 h1 eh1
    have L1 : lay h1 := lay_call d 108 [.int l1, .int l3] h _ h1 rfl eh1 L
    refine mX_br (t := 22) (f := 15) (ls' := [some (.ref 67), some (.int l1), some (.int l2), some (.int l3)]) (st' := [.int l2]) (h' := h1) rfl ?_ ?_
    · refine mX_to 1 (k' := 23) (ls' := [some (.ref 67), some (.int l1), some (.int l2), some (.int l3)]) (st' := [.int 0, .int l2]) (h' := h1) rfl ?_
      rfl
    · refine mX_to 1 (k' := 16) (ls' := [some (.ref 67), some (.int l1), some (.int l2), some (.int l3)]) (st' := [.ref 67, .int l2]) (h' := h1) rfl ?_
      refine mX_ckv (v := .ref (gR h1 67 0)) (v' := .ref 68) (k' := 17) (ls' := [some (.ref 67), some (.int l1), some (.int l2), some (.int l3)]) (st' := [.int l2]) (h' := h1) (k_67 L1) (congrArg Value.ref (r_67_0 L1)) rfl ?_
      refine mX_to 3 (k' := 20) (ls' := [some (.ref 67), some (.int l1), some (.int l2), some (.int l3)]) (st' := [.int (22 + l3), .ref 68, .int l2]) (h' := h1) rfl ?_
      refine mX_ckw (v := .int (gI h1 68 (ix (22 + l3)))) (v' := .int (gI h1 68 (ix (22 + l3)))) (k' := 21) (ls' := [some (.ref 67), some (.int l1), some (.int l2), some (.int l3)]) (st' := [.int l2]) (h' := h1) (ckA1 (k_68 L1) (n_68 L1)) rfl rfl fun c3 => ?_
      refine mX_to 1 (k' := 23) (ls' := [some (.ref 67), some (.int l1), some (.int l2), some (.int l3)]) (st' := [.int (gI h1 68 (ix (22 + l3))), .int l2]) (h' := h1) rfl ?_
      rfl
  · refine mX_to 1 (k' := 28) (ls' := [some (.ref 67), some (.int l1), some (.int l2), some (.int l3)]) (st' := [.int l2]) (h' := h) rfl ?_
    exact mX_reti rfl
theorem S_X11_weightOf_23 {h : MH} (L : lay h) (d : Nat) (l1 : Int32) (l2 : Int32) (l3 : Int32) (s0 : Int32) (s1 : Int32) : G_X11_weightOf_23 d l1 l2 l3 s0 s1 h = G_X11_weightOf_4 d l1 (s1 + s0) (l3 + 1) h := by
  refine mX_to 4 (k' := 4) (ls' := [some (.ref 67), some (.int l1), some (.int (s1 + s0)), some (.int (l3 + 1))]) (st' := []) (h' := h) rfl ?_
  rfl
theorem S_X11_weightOf {h : MH} (L : lay h) (d : Nat) (a1 : Int32) : F_X11_weightOf (d + 1) a1 h = G_X11_weightOf_4 d a1 0 0 h := by
  refine mE_eq (q := (yX11_weightOf, cX11_weightOf, 4, (some .int), KX11_weightOf)) (C := KX11_weightOf) (ls := [some (.ref 67), some (.int a1), none, none]) rfl rfl rfl rfl ?_
  refine mX_to 4 (k' := 4) (ls' := [some (.ref 67), some (.int a1), some (.int 0), some (.int 0)]) (st' := []) (h' := h) rfl ?_
  rfl
theorem S_X11_allSnow_4 {h : MH} (L : lay h) (d : Nat) (l1 : Int32) (l2 : Int32) : G_X11_allSnow_4 d l1 l2 h = (if l2 < 9 then ck (ib (13 + l2) 1498) (lt_ (l1 + (gI h 68 (ix (13 + l2)))) fun v1 => G_X11_allSnow_4 d v1 (l2 + 1) h) else some (.int l1, h)) := by
  refine mX_to 2 (k' := 6) (ls' := [some (.ref 67), some (.int l1), some (.int l2)]) (st' := [.int 9, .int l2]) (h' := h) rfl ?_
  refine mX_br (t := 7) (f := 18) (ls' := [some (.ref 67), some (.int l1), some (.int l2)]) (st' := []) (h' := h) rfl ?_ ?_
  · refine mX_to 2 (k' := 9) (ls' := [some (.ref 67), some (.int l1), some (.int l2)]) (st' := [.ref 67, .int l1]) (h' := h) rfl ?_
    refine mX_ckv (v := .ref (gR h 67 0)) (v' := .ref 68) (k' := 10) (ls' := [some (.ref 67), some (.int l1), some (.int l2)]) (st' := [.int l1]) (h' := h) (k_67 L) (congrArg Value.ref (r_67_0 L)) rfl ?_
    refine mX_to 3 (k' := 13) (ls' := [some (.ref 67), some (.int l1), some (.int l2)]) (st' := [.int (13 + l2), .ref 68, .int l1]) (h' := h) rfl ?_
    refine mX_ckw (v := .int (gI h 68 (ix (13 + l2)))) (v' := .int (gI h 68 (ix (13 + l2)))) (k' := 14) (ls' := [some (.ref 67), some (.int l1), some (.int l2)]) (st' := [.int l1]) (h' := h) (ckA1 (k_68 L) (n_68 L)) rfl rfl fun c2 => ?_
    refine mX_to 1 (k' := 15) (ls' := [some (.ref 67), some (.int l1), some (.int l2)]) (st' := [.int (l1 + (gI h 68 (ix (13 + l2))))]) (h' := h) rfl ?_
    refine lt_gen (X := fun v1 : Int32 => mX (mE mtab d) KX11_allSnow 15 [some (.ref 67), some (.int l1), some (.int l2)] [.int v1] h) fun v1 => ?_
    refine mX_to 3 (k' := 4) (ls' := [some (.ref 67), some (.int v1), some (.int (l2 + 1))]) (st' := []) (h' := h) rfl ?_
    rfl
  · refine mX_to 1 (k' := 19) (ls' := [some (.ref 67), some (.int l1), some (.int l2)]) (st' := [.int l1]) (h' := h) rfl ?_
    exact mX_reti rfl
theorem S_X11_allSnow {h : MH} (L : lay h) (d : Nat) : F_X11_allSnow (d + 1) h = G_X11_allSnow_4 d 0 0 h := by
  refine mE_eq (q := (yX11_allSnow, cX11_allSnow, 3, (some .int), KX11_allSnow)) (C := KX11_allSnow) (ls := [some (.ref 67), none, none]) rfl rfl rfl rfl ?_
  refine mX_to 4 (k' := 4) (ls' := [some (.ref 67), some (.int 0), some (.int 0)]) (st' := []) (h' := h) rfl ?_
  rfl
theorem S_X11_name {h : MH} (L : lay h) (d : Nat) : F_X11_name (d + 1) h = lt_ (sI h 73 0 (gI h 68 6)) fun h2 => cI (F_X11_tipNow d h2) (fun x4 h3 => lt_ (sI h3 73 1 x4) fun h6 => cI (F_X11_everyone d h6) (fun x8 h7 => cI (F_X11_weightOf d x8 h7) (fun x10 h9 => cI (F_X11_allSnow d h9) (fun x12 h11 => lt_ (sI h11 73 2 (x10 + x12)) fun h14 => cI (F_X11_allSnow d h14) (fun x16 h15 => lt_ (sI h15 73 3 x16) fun h18 => some (.int 0, h18)))))) := by
  refine mE_eq (q := (yX11_name, cX11_name, 1, none, KX11_name)) (C := KX11_name) (ls := [some (.ref 67)]) rfl rfl rfl rfl ?_
  refine mX_to 1 (k' := 1) (ls' := [some (.ref 67)]) (st' := [.ref 67]) (h' := h) rfl ?_
  refine mX_ckv (v := .ref (gR h 67 20)) (v' := .ref 73) (k' := 2) (ls' := [some (.ref 67)]) (st' := []) (h' := h) (k_67 L) (congrArg Value.ref (r_67_20 L)) rfl ?_
  refine mX_to 2 (k' := 4) (ls' := [some (.ref 67)]) (st' := [.ref 67, .int 0, .ref 73]) (h' := h) rfl ?_
  refine mX_ckv (v := .ref (gR h 67 0)) (v' := .ref 68) (k' := 5) (ls' := [some (.ref 67)]) (st' := [.int 0, .ref 73]) (h' := h) (k_67 L) (congrArg Value.ref (r_67_0 L)) rfl ?_
  refine mX_to 1 (k' := 6) (ls' := [some (.ref 67)]) (st' := [.int 6, .ref 68, .int 0, .ref 73]) (h' := h) rfl ?_
  refine mX_ckv (v := .int (gI h 68 (ix (6 : Int32)))) (v' := .int (gI h 68 6)) (k' := 7) (ls' := [some (.ref 67)]) (st' := [.int 0, .ref 73]) (h' := h) ((ckA1 (k_68 L) (n_68 L)).mpr (ib_lit (n := 6) rfl (by decide) (by decide))) (congrArg (fun j => Value.int (gI h 68 j)) (ix_lit (n := 6) rfl (by decide))) rfl ?_
  refine mX_ckt (k' := 8) (ls' := [some (.ref 67)]) (st' := []) (h' := (sI h 73 (ix (0 : Int32)) (gI h 68 6))) ((ckA0 (k_73 L) (n_73 L)).mpr (ib_lit (n := 0) rfl (by decide) (by decide))) rfl ?_
  refine lt_geq2 (X := fun h2 : MH => mX (mE mtab d) KX11_name 8 [some (.ref 67)] [] h2) (a := (sI h 73 (ix (0 : Int32)) (gI h 68 6))) (a' := (sI h 73 0 (gI h 68 6))) (congrArg (fun j => sI h 73 j (gI h 68 6)) (ix_lit (n := 0) rfl (by decide))) fun h2 eh2 => ?_
  have L2 : lay h2 := eh2 ▸ layI L (by decide)
  refine mX_to 1 (k' := 9) (ls' := [some (.ref 67)]) (st' := [.ref 67]) (h' := h2) rfl ?_
  refine mX_ckv (v := .ref (gR h2 67 20)) (v' := .ref 73) (k' := 10) (ls' := [some (.ref 67)]) (st' := []) (h' := h2) (k_67 L2) (congrArg Value.ref (r_67_20 L2)) rfl ?_
  refine mX_to 2 (k' := 12) (ls' := [some (.ref 67)]) (st' := [.ref 67, .int 1, .ref 73]) (h' := h2) rfl ?_
  refine mX_ckct (m := mcl (mE mtab d 156 [.ref 67] h2) 1 13 [some (.ref 67)] [.int 1, .ref 73]) (k_67 L2) rfl ?_
  refine mk_cIe (o := F_X11_tipNow d h2) ?_
  intro x4 h3 eh3
  have L3 : lay h3 := lay_call d 156 [.ref 67] h2 _ h3 rfl eh3 L2
  refine mX_ckt (k' := 14) (ls' := [some (.ref 67)]) (st' := []) (h' := (sI h3 73 (ix (1 : Int32)) x4)) ((ckA0 (k_73 L3) (n_73 L3)).mpr (ib_lit (n := 1) rfl (by decide) (by decide))) rfl ?_
  refine lt_geq2 (X := fun h6 : MH => mX (mE mtab d) KX11_name 14 [some (.ref 67)] [] h6) (a := (sI h3 73 (ix (1 : Int32)) x4)) (a' := (sI h3 73 1 x4)) (congrArg (fun j => sI h3 73 j x4) (ix_lit (n := 1) rfl (by decide))) fun h6 eh6 => ?_
  have L6 : lay h6 := eh6 ▸ layI L3 (by decide)
  refine mX_to 1 (k' := 15) (ls' := [some (.ref 67)]) (st' := [.ref 67]) (h' := h6) rfl ?_
  refine mX_ckv (v := .ref (gR h6 67 20)) (v' := .ref 73) (k' := 16) (ls' := [some (.ref 67)]) (st' := []) (h' := h6) (k_67 L6) (congrArg Value.ref (r_67_20 L6)) rfl ?_
  refine mX_to 3 (k' := 19) (ls' := [some (.ref 67)]) (st' := [.ref 67, .ref 67, .int 2, .ref 73]) (h' := h6) rfl ?_
  refine mX_ckct (m := mcl (mE mtab d 154 [.ref 67] h6) 1 20 [some (.ref 67)] [.ref 67, .int 2, .ref 73]) (k_67 L6) rfl ?_
  refine mk_cIe (o := F_X11_everyone d h6) ?_
  intro x8 h7 eh7
  have L7 : lay h7 := lay_call d 154 [.ref 67] h6 _ h7 rfl eh7 L6
  refine mX_ckct (m := mcl (mE mtab d 158 [.ref 67, .int x8] h7) 1 21 [some (.ref 67)] [.int 2, .ref 73]) (k_67 L7) rfl ?_
  refine mk_cIe (o := F_X11_weightOf d x8 h7) ?_
  intro x10 h9 eh9
  have L9 : lay h9 := lay_call d 158 [.ref 67, .int x8] h7 _ h9 rfl eh9 L7
  refine mX_to 1 (k' := 22) (ls' := [some (.ref 67)]) (st' := [.ref 67, .int x10, .int 2, .ref 73]) (h' := h9) rfl ?_
  refine mX_ckct (m := mcl (mE mtab d 159 [.ref 67] h9) 1 23 [some (.ref 67)] [.int x10, .int 2, .ref 73]) (k_67 L9) rfl ?_
  refine mk_cIe (o := F_X11_allSnow d h9) ?_
  intro x12 h11 eh11
  have L11 : lay h11 := lay_call d 159 [.ref 67] h9 _ h11 rfl eh11 L9
  refine mX_to 1 (k' := 24) (ls' := [some (.ref 67)]) (st' := [.int (x10 + x12), .int 2, .ref 73]) (h' := h11) rfl ?_
  refine mX_ckt (k' := 25) (ls' := [some (.ref 67)]) (st' := []) (h' := (sI h11 73 (ix (2 : Int32)) (x10 + x12))) ((ckA0 (k_73 L11) (n_73 L11)).mpr (ib_lit (n := 2) rfl (by decide) (by decide))) rfl ?_
  refine lt_geq2 (X := fun h14 : MH => mX (mE mtab d) KX11_name 25 [some (.ref 67)] [] h14) (a := (sI h11 73 (ix (2 : Int32)) (x10 + x12))) (a' := (sI h11 73 2 (x10 + x12))) (congrArg (fun j => sI h11 73 j (x10 + x12)) (ix_lit (n := 2) rfl (by decide))) fun h14 eh14 => ?_
  have L14 : lay h14 := eh14 ▸ layI L11 (by decide)
  refine mX_to 1 (k' := 26) (ls' := [some (.ref 67)]) (st' := [.ref 67]) (h' := h14) rfl ?_
  refine mX_ckv (v := .ref (gR h14 67 20)) (v' := .ref 73) (k' := 27) (ls' := [some (.ref 67)]) (st' := []) (h' := h14) (k_67 L14) (congrArg Value.ref (r_67_20 L14)) rfl ?_
  refine mX_to 2 (k' := 29) (ls' := [some (.ref 67)]) (st' := [.ref 67, .int 3, .ref 73]) (h' := h14) rfl ?_
  refine mX_ckct (m := mcl (mE mtab d 159 [.ref 67] h14) 1 30 [some (.ref 67)] [.int 3, .ref 73]) (k_67 L14) rfl ?_
  refine mk_cIe (o := F_X11_allSnow d h14) ?_
  intro x16 h15 eh15
  have L15 : lay h15 := lay_call d 159 [.ref 67] h14 _ h15 rfl eh15 L14
  refine mX_ckt (k' := 31) (ls' := [some (.ref 67)]) (st' := []) (h' := (sI h15 73 (ix (3 : Int32)) x16)) ((ckA0 (k_73 L15) (n_73 L15)).mpr (ib_lit (n := 3) rfl (by decide) (by decide))) rfl ?_
  refine lt_geq2 (X := fun h18 : MH => mX (mE mtab d) KX11_name 31 [some (.ref 67)] [] h18) (a := (sI h15 73 (ix (3 : Int32)) x16)) (a' := (sI h15 73 3 x16)) (congrArg (fun j => sI h15 73 j x16) (ix_lit (n := 3) rfl (by decide))) fun h18 eh18 => ?_
  have L18 : lay h18 := eh18 ▸ layI L15 (by decide)
  exact mX_ret rfl
theorem S_X11_peopleIn_4 {h : MH} (L : lay h) (d : Nat) (l1 : Int32) (l2 : Int32) (l3 : Int32) : G_X11_peopleIn_4 d l1 l2 l3 h = (if l3 < (gI h 68 0) then ck (ib (9 + l3) 1498) ((if (gI h 68 (ix (9 + l3))) = l1 then G_X11_peopleIn_24 d l1 l2 l3 (1 <<< (l3 &&& 31)) l2 h else G_X11_peopleIn_24 d l1 l2 l3 0 l2 h)) else some (.int l2, h)) := by
  refine mX_to 2 (k' := 6) (ls' := [some (.ref 67), some (.int l1), some (.int l2), some (.int l3)]) (st' := [.ref 67, .int l3]) (h' := h) rfl ?_
  refine mX_ckv (v := .ref (gR h 67 0)) (v' := .ref 68) (k' := 7) (ls' := [some (.ref 67), some (.int l1), some (.int l2), some (.int l3)]) (st' := [.int l3]) (h' := h) (k_67 L) (congrArg Value.ref (r_67_0 L)) rfl ?_
  refine mX_to 1 (k' := 8) (ls' := [some (.ref 67), some (.int l1), some (.int l2), some (.int l3)]) (st' := [.int 0, .ref 68, .int l3]) (h' := h) rfl ?_
  refine mX_ckv (v := .int (gI h 68 (ix (0 : Int32)))) (v' := .int (gI h 68 0)) (k' := 9) (ls' := [some (.ref 67), some (.int l1), some (.int l2), some (.int l3)]) (st' := [.int l3]) (h' := h) ((ckA1 (k_68 L) (n_68 L)).mpr (ib_lit (n := 0) rfl (by decide) (by decide))) (congrArg (fun j => Value.int (gI h 68 j)) (ix_lit (n := 0) rfl (by decide))) rfl ?_
  refine mX_br (t := 10) (f := 28) (ls' := [some (.ref 67), some (.int l1), some (.int l2), some (.int l3)]) (st' := []) (h' := h) rfl ?_ ?_
  · refine mX_to 2 (k' := 12) (ls' := [some (.ref 67), some (.int l1), some (.int l2), some (.int l3)]) (st' := [.ref 67, .int l2]) (h' := h) rfl ?_
    refine mX_ckv (v := .ref (gR h 67 0)) (v' := .ref 68) (k' := 13) (ls' := [some (.ref 67), some (.int l1), some (.int l2), some (.int l3)]) (st' := [.int l2]) (h' := h) (k_67 L) (congrArg Value.ref (r_67_0 L)) rfl ?_
    refine mX_to 3 (k' := 16) (ls' := [some (.ref 67), some (.int l1), some (.int l2), some (.int l3)]) (st' := [.int (9 + l3), .ref 68, .int l2]) (h' := h) rfl ?_
    refine mX_ckw (v := .int (gI h 68 (ix (9 + l3)))) (v' := .int (gI h 68 (ix (9 + l3)))) (k' := 17) (ls' := [some (.ref 67), some (.int l1), some (.int l2), some (.int l3)]) (st' := [.int l2]) (h' := h) (ckA1 (k_68 L) (n_68 L)) rfl rfl fun c1 => ?_
    refine mX_to 1 (k' := 18) (ls' := [some (.ref 67), some (.int l1), some (.int l2), some (.int l3)]) (st' := [.int l1, .int (gI h 68 (ix (9 + l3))), .int l2]) (h' := h) rfl ?_
    refine mX_br (t := 19) (f := 23) (ls' := [some (.ref 67), some (.int l1), some (.int l2), some (.int l3)]) (st' := [.int l2]) (h' := h) rfl ?_ ?_
    · refine mX_to 4 (k' := 24) (ls' := [some (.ref 67), some (.int l1), some (.int l2), some (.int l3)]) (st' := [.int (1 <<< (l3 &&& 31)), .int l2]) (h' := h) rfl ?_
      rfl
    · refine mX_to 1 (k' := 24) (ls' := [some (.ref 67), some (.int l1), some (.int l2), some (.int l3)]) (st' := [.int 0, .int l2]) (h' := h) rfl ?_
      rfl
  · refine mX_to 1 (k' := 29) (ls' := [some (.ref 67), some (.int l1), some (.int l2), some (.int l3)]) (st' := [.int l2]) (h' := h) rfl ?_
    exact mX_reti rfl
theorem S_X11_peopleIn_24 {h : MH} (L : lay h) (d : Nat) (l1 : Int32) (l2 : Int32) (l3 : Int32) (s0 : Int32) (s1 : Int32) : G_X11_peopleIn_24 d l1 l2 l3 s0 s1 h = G_X11_peopleIn_4 d l1 (s1 ||| s0) (l3 + 1) h := by
  refine mX_to 4 (k' := 4) (ls' := [some (.ref 67), some (.int l1), some (.int (s1 ||| s0)), some (.int (l3 + 1))]) (st' := []) (h' := h) rfl ?_
  rfl
theorem S_X11_peopleIn {h : MH} (L : lay h) (d : Nat) (a1 : Int32) : F_X11_peopleIn (d + 1) a1 h = G_X11_peopleIn_4 d a1 0 0 h := by
  refine mE_eq (q := (yX11_peopleIn, cX11_peopleIn, 4, (some .int), KX11_peopleIn)) (C := KX11_peopleIn) (ls := [some (.ref 67), some (.int a1), none, none]) rfl rfl rfl rfl ?_
  refine mX_to 4 (k' := 4) (ls' := [some (.ref 67), some (.int a1), some (.int 0), some (.int 0)]) (st' := []) (h' := h) rfl ?_
  rfl
theorem S_X11_loadOf {h : MH} (L : lay h) (d : Nat) (a1 : Int32) : F_X11_loadOf (d + 1) a1 h = ck (ib (13 + a1) 1498) (cI (F_X11_peopleIn d a1 h) (fun x2 h1 => cI (F_X11_weightOf d x2 h1) (fun x4 h3 => some (.int ((gI h 68 (ix (13 + a1))) + x4), h3)))) := by
  refine mE_eq (q := (yX11_loadOf, cX11_loadOf, 2, (some .int), KX11_loadOf)) (C := KX11_loadOf) (ls := [some (.ref 67), some (.int a1)]) rfl rfl rfl rfl ?_
  refine mX_to 1 (k' := 1) (ls' := [some (.ref 67), some (.int a1)]) (st' := [.ref 67]) (h' := h) rfl ?_
  refine mX_ckv (v := .ref (gR h 67 0)) (v' := .ref 68) (k' := 2) (ls' := [some (.ref 67), some (.int a1)]) (st' := []) (h' := h) (k_67 L) (congrArg Value.ref (r_67_0 L)) rfl ?_
  refine mX_to 3 (k' := 5) (ls' := [some (.ref 67), some (.int a1)]) (st' := [.int (13 + a1), .ref 68]) (h' := h) rfl ?_
  refine mX_ckw (v := .int (gI h 68 (ix (13 + a1)))) (v' := .int (gI h 68 (ix (13 + a1)))) (k' := 6) (ls' := [some (.ref 67), some (.int a1)]) (st' := []) (h' := h) (ckA1 (k_68 L) (n_68 L)) rfl rfl fun c5 => ?_
  refine mX_to 3 (k' := 9) (ls' := [some (.ref 67), some (.int a1)]) (st' := [.int a1, .ref 67, .ref 67, .int (gI h 68 (ix (13 + a1)))]) (h' := h) rfl ?_
  refine mX_ckct (m := mcl (mE mtab d 161 [.ref 67, .int a1] h) 1 10 [some (.ref 67), some (.int a1)] [.ref 67, .int (gI h 68 (ix (13 + a1)))]) (k_67 L) rfl ?_
  refine mk_cIe (o := F_X11_peopleIn d a1 h) ?_
  intro x2 h1 eh1
  have L1 : lay h1 := lay_call d 161 [.ref 67, .int a1] h _ h1 rfl eh1 L
  refine mX_ckct (m := mcl (mE mtab d 158 [.ref 67, .int x2] h1) 1 11 [some (.ref 67), some (.int a1)] [.int (gI h 68 (ix (13 + a1)))]) (k_67 L1) rfl ?_
  refine mk_cIe (o := F_X11_weightOf d x2 h1) ?_
  intro x4 h3 eh3
  have L3 : lay h3 := lay_call d 158 [.ref 67, .int x2] h1 _ h3 rfl eh3 L1
  refine mX_to 1 (k' := 12) (ls' := [some (.ref 67), some (.int a1)]) (st' := [.int ((gI h 68 (ix (13 + a1))) + x4)]) (h' := h3) rfl ?_
  exact mX_reti rfl
theorem S_X11_placeLoad {h : MH} (L : lay h) (d : Nat) (a1 : Int64) : F_X11_placeLoad (d + 1) a1 h = (if (lg_cmp a1 0) < 0 then some (.long 0, h) else (if (lg_cmp a1 9) < 0 then cI (F_X11_loadOf d ((a1 : Int64).toInt32) h) (fun x2 h1 => some (.long ((x2 : Int32).toInt64), h1)) else some (.long 0, h))) := by
  refine mE_eq (q := (yX11_placeLoad, cX11_placeLoad, 3, (some .long), KX11_placeLoad)) (C := KX11_placeLoad) (ls := [some (.ref 67), some (.long a1), none]) rfl rfl rfl rfl ?_
  refine mX_to 3 (k' := 3) (ls' := [some (.ref 67), some (.long a1), none]) (st' := [.int (lg_cmp a1 0)]) (h' := h) rfl ?_
  refine mX_br (t := 14) (f := 4) (ls' := [some (.ref 67), some (.long a1), none]) (st' := []) (h' := h) rfl ?_ ?_
  · refine mX_to 1 (k' := 15) (ls' := [some (.ref 67), some (.long a1), none]) (st' := [.long 0]) (h' := h) rfl ?_
    exact mX_ret rfl
  · refine mX_to 3 (k' := 7) (ls' := [some (.ref 67), some (.long a1), none]) (st' := [.int (lg_cmp a1 9)]) (h' := h) rfl ?_
    refine mX_br (t := 8) (f := 14) (ls' := [some (.ref 67), some (.long a1), none]) (st' := []) (h' := h) rfl ?_ ?_
    · refine mX_to 3 (k' := 11) (ls' := [some (.ref 67), some (.long a1), none]) (st' := [.int ((a1 : Int64).toInt32), .ref 67]) (h' := h) rfl ?_
      refine mX_ckct (m := mcl (mE mtab d 162 [.ref 67, .int ((a1 : Int64).toInt32)] h) 1 12 [some (.ref 67), some (.long a1), none] []) (k_67 L) rfl ?_
      refine mk_cIe (o := F_X11_loadOf d ((a1 : Int64).toInt32) h) ?_
      intro x2 h1 eh1
      have L1 : lay h1 := lay_call d 162 [.ref 67, .int ((a1 : Int64).toInt32)] h _ h1 rfl eh1 L
      refine mX_to 2 (k' := 15) (ls' := [some (.ref 67), some (.long a1), none]) (st' := [.long ((x2 : Int32).toInt64)]) (h' := h1) rfl ?_
      exact mX_ret rfl
    · refine mX_to 1 (k' := 15) (ls' := [some (.ref 67), some (.long a1), none]) (st' := [.long 0]) (h' := h) rfl ?_
      exact mX_ret rfl
theorem S_X11_ofOne {h : MH} (L : lay h) (d : Nat) (a1 : Int32) (a2 : Int64) : F_X11_ofOne (d + 1) a1 a2 h = (if a1 = 5 then some (.long (-a2), h) else (if a1 = 4 then (if (lg_cmp a2 0) ≤ 0 then (if (lg_cmp a2 0) < 0 then some (.long (-1), h) else some (.long 0, h)) else some (.long 1, h)) else cL (F_X11_placeLoad d a2 h) (fun x2 h1 => some (.long x2, h1)))) := by
  refine mE_eq (q := (yX11_ofOne, cX11_ofOne, 4, (some .long), KX11_ofOne)) (C := KX11_ofOne) (ls := [some (.ref 67), some (.int a1), some (.long a2), none]) rfl rfl rfl rfl ?_
  refine mX_to 2 (k' := 2) (ls' := [some (.ref 67), some (.int a1), some (.long a2), none]) (st' := [.int 5, .int a1]) (h' := h) rfl ?_
  refine mX_br (t := 3) (f := 6) (ls' := [some (.ref 67), some (.int a1), some (.long a2), none]) (st' := []) (h' := h) rfl ?_ ?_
  · refine mX_to 3 (k' := 26) (ls' := [some (.ref 67), some (.int a1), some (.long a2), none]) (st' := [.long (-a2)]) (h' := h) rfl ?_
    exact mX_ret rfl
  · refine mX_to 2 (k' := 8) (ls' := [some (.ref 67), some (.int a1), some (.long a2), none]) (st' := [.int 4, .int a1]) (h' := h) rfl ?_
    refine mX_br (t := 9) (f := 23) (ls' := [some (.ref 67), some (.int a1), some (.long a2), none]) (st' := []) (h' := h) rfl ?_ ?_
    · refine mX_to 3 (k' := 12) (ls' := [some (.ref 67), some (.int a1), some (.long a2), none]) (st' := [.int (lg_cmp a2 0)]) (h' := h) rfl ?_
      refine mX_br (t := 15) (f := 13) (ls' := [some (.ref 67), some (.int a1), some (.long a2), none]) (st' := []) (h' := h) rfl ?_ ?_
      · refine mX_to 3 (k' := 18) (ls' := [some (.ref 67), some (.int a1), some (.long a2), none]) (st' := [.int (lg_cmp a2 0)]) (h' := h) rfl ?_
        refine mX_br (t := 19) (f := 21) (ls' := [some (.ref 67), some (.int a1), some (.long a2), none]) (st' := []) (h' := h) rfl ?_ ?_
        · refine mX_to 2 (k' := 26) (ls' := [some (.ref 67), some (.int a1), some (.long a2), none]) (st' := [.long (-1)]) (h' := h) rfl ?_
          exact mX_ret rfl
        · refine mX_to 2 (k' := 26) (ls' := [some (.ref 67), some (.int a1), some (.long a2), none]) (st' := [.long 0]) (h' := h) rfl ?_
          exact mX_ret rfl
      · refine mX_to 2 (k' := 26) (ls' := [some (.ref 67), some (.int a1), some (.long a2), none]) (st' := [.long 1]) (h' := h) rfl ?_
        exact mX_ret rfl
    · refine mX_to 2 (k' := 25) (ls' := [some (.ref 67), some (.int a1), some (.long a2), none]) (st' := [.long a2, .ref 67]) (h' := h) rfl ?_
      refine mX_ckct (m := mcl (mE mtab d 163 [.ref 67, .long a2] h) 2 26 [some (.ref 67), some (.int a1), some (.long a2), none] []) (k_67 L) rfl ?_
      refine mk_cLe (o := F_X11_placeLoad d a2 h) ?_
      intro x2 h1 eh1
      have L1 : lay h1 := lay_call d 163 [.ref 67, .long a2] h _ h1 rfl eh1 L
      exact mX_ret rfl
theorem S_X11_clip {h : MH} (L : lay h) (d : Nat) (a0 : Int64) : F_X11_clip (d + 1) a0 h = (if (lg_cmp a0 1000000) ≤ 0 then (if (lg_cmp a0 (-1000000)) < 0 then some (.long (-1000000), h) else some (.long a0, h)) else some (.long 1000000, h)) := by
  refine mE_eq (q := (yX11_clip, cX11_clip, 2, (some .long), KX11_clip)) (C := KX11_clip) (ls := [some (.long a0), none]) rfl rfl rfl rfl ?_
  refine mX_to 3 (k' := 3) (ls' := [some (.long a0), none]) (st' := [.int (lg_cmp a0 1000000)]) (h' := h) rfl ?_
  refine mX_br (t := 6) (f := 4) (ls' := [some (.long a0), none]) (st' := []) (h' := h) rfl ?_ ?_
  · refine mX_to 3 (k' := 9) (ls' := [some (.long a0), none]) (st' := [.int (lg_cmp a0 (-1000000))]) (h' := h) rfl ?_
    refine mX_br (t := 10) (f := 12) (ls' := [some (.long a0), none]) (st' := []) (h' := h) rfl ?_ ?_
    · refine mX_to 2 (k' := 13) (ls' := [some (.long a0), none]) (st' := [.long (-1000000)]) (h' := h) rfl ?_
      exact mX_ret rfl
    · refine mX_to 1 (k' := 13) (ls' := [some (.long a0), none]) (st' := [.long a0]) (h' := h) rfl ?_
      exact mX_ret rfl
  · refine mX_to 2 (k' := 13) (ls' := [some (.long a0), none]) (st' := [.long 1000000]) (h' := h) rfl ?_
    exact mX_ret rfl
theorem S_X11_two {h : MH} (L : lay h) (d : Nat) (a0 : Int32) (a1 : Int64) (a2 : Int64) : F_X11_two (d + 1) a0 a1 a2 h = (if a0 = 6 then cL (F_X11_clip d (a1 + a2) h) (fun x2 h1 => some (.long x2, h1)) else (if a0 = 7 then cL (F_X11_clip d (a1 - a2) h) (fun x4 h3 => some (.long x4, h3)) else (if a0 = 8 then cL (F_X11_clip d (a1 * a2) h) (fun x6 h5 => some (.long x6, h5)) else (if (lg_cmp a2 0) = 0 then some (.long 0, h) else ck (¬ a2 = 0) (cL (F_X11_clip d (a1 / a2) h) (fun x8 h7 => some (.long x8, h7))))))) := by
  refine mE_eq (q := (yX11_two, cX11_two, 5, (some .long), KX11_two)) (C := KX11_two) (ls := [some (.int a0), some (.long a1), none, some (.long a2), none]) rfl rfl rfl rfl ?_
  refine mX_to 1 (k' := 1) (ls' := [some (.int a0), some (.long a1), none, some (.long a2), none]) (st' := [.int a0]) (h' := h) rfl ?_
  refine mX_sw (x := a0) (t := 17) (sw := [(6, 2), (7, 7), (8, 12)]) (ls' := [some (.int a0), some (.long a1), none, some (.long a2), none]) (st' := []) (h' := h) rfl ?_
  refine msw_cons ?_ ?_
  · refine mX_to 3 (k' := 5) (ls' := [some (.int a0), some (.long a1), none, some (.long a2), none]) (st' := [.long (a1 + a2)]) (h' := h) rfl ?_
    refine mX_cLe (o := F_X11_clip d (a1 + a2) h) (k' := 6) (ls' := [some (.int a0), some (.long a1), none, some (.long a2), none]) (st' := []) rfl ?_
    intro x2 h1 eh1
    have L1 : lay h1 := lay_call d 165 [.long (a1 + a2)] h _ h1 rfl eh1 L
    exact mX_ret rfl
  refine msw_cons ?_ ?_
  · refine mX_to 3 (k' := 10) (ls' := [some (.int a0), some (.long a1), none, some (.long a2), none]) (st' := [.long (a1 - a2)]) (h' := h) rfl ?_
    refine mX_cLe (o := F_X11_clip d (a1 - a2) h) (k' := 11) (ls' := [some (.int a0), some (.long a1), none, some (.long a2), none]) (st' := []) rfl ?_
    intro x4 h3 eh3
    have L3 : lay h3 := lay_call d 165 [.long (a1 - a2)] h _ h3 rfl eh3 L
    exact mX_ret rfl
  refine msw_cons ?_ ?_
  · refine mX_to 3 (k' := 15) (ls' := [some (.int a0), some (.long a1), none, some (.long a2), none]) (st' := [.long (a1 * a2)]) (h' := h) rfl ?_
    refine mX_cLe (o := F_X11_clip d (a1 * a2) h) (k' := 16) (ls' := [some (.int a0), some (.long a1), none, some (.long a2), none]) (st' := []) rfl ?_
    intro x6 h5 eh5
    have L5 : lay h5 := lay_call d 165 [.long (a1 * a2)] h _ h5 rfl eh5 L
    exact mX_ret rfl
  refine msw_nil ?_
  refine mX_to 3 (k' := 20) (ls' := [some (.int a0), some (.long a1), none, some (.long a2), none]) (st' := [.int (lg_cmp a2 0)]) (h' := h) rfl ?_
  refine mX_br (t := 21) (f := 23) (ls' := [some (.int a0), some (.long a1), none, some (.long a2), none]) (st' := []) (h' := h) rfl ?_ ?_
  · refine mX_to 2 (k' := 27) (ls' := [some (.int a0), some (.long a1), none, some (.long a2), none]) (st' := [.long 0]) (h' := h) rfl ?_
    exact mX_ret rfl
  · refine mX_to 2 (k' := 25) (ls' := [some (.int a0), some (.long a1), none, some (.long a2), none]) (st' := [.long a2, .long a1]) (h' := h) rfl ?_
    refine mX_ck (k' := 26) (ls' := [some (.int a0), some (.long a1), none, some (.long a2), none]) (st' := [.long (a1 / a2)]) (h' := h) rfl ?_
    refine mX_cLe (o := F_X11_clip d (a1 / a2) h) (k' := 27) (ls' := [some (.int a0), some (.long a1), none, some (.long a2), none]) (st' := []) rfl ?_
    intro x8 h7 eh7
    have L7 : lay h7 := lay_call d 165 [.long (a1 / a2)] h _ h7 rfl eh7 L
    exact mX_ret rfl
theorem S_X11_isAsked {h : MH} (L : lay h) (d : Nat) (a0 : Int32) (a1 : Int64) (a2 : Int64) : F_X11_isAsked (d + 1) a0 a1 a2 h = (if a0 = 10 then (if (lg_cmp a1 a2) < 0 then some (.int 1, h) else some (.int 0, h)) else (if a0 = 11 then (if (lg_cmp a1 a2) ≤ 0 then some (.int 1, h) else some (.int 0, h)) else (if a0 = 12 then (if (lg_cmp a1 a2) ≤ 0 then some (.int 0, h) else some (.int 1, h)) else (if a0 = 13 then (if (lg_cmp a1 a2) < 0 then some (.int 0, h) else some (.int 1, h)) else (if a0 = 14 then (if (lg_cmp a1 a2) = 0 then some (.int 1, h) else some (.int 0, h)) else (if (lg_cmp a1 a2) = 0 then some (.int 0, h) else some (.int 1, h))))))) := by
  refine mE_eq (q := (yX11_isAsked, cX11_isAsked, 5, (some .boolean), KX11_isAsked)) (C := KX11_isAsked) (ls := [some (.int a0), some (.long a1), none, some (.long a2), none]) rfl rfl rfl rfl ?_
  refine mX_to 2 (k' := 2) (ls' := [some (.int a0), some (.long a1), none, some (.long a2), none]) (st' := [.int 10, .int a0]) (h' := h) rfl ?_
  refine mX_br (t := 3) (f := 11) (ls' := [some (.int a0), some (.long a1), none, some (.long a2), none]) (st' := []) (h' := h) rfl ?_ ?_
  · refine mX_to 3 (k' := 6) (ls' := [some (.int a0), some (.long a1), none, some (.long a2), none]) (st' := [.int (lg_cmp a1 a2)]) (h' := h) rfl ?_
    refine mX_br (t := 7) (f := 9) (ls' := [some (.int a0), some (.long a1), none, some (.long a2), none]) (st' := []) (h' := h) rfl ?_ ?_
    · refine mX_to 2 (k' := 62) (ls' := [some (.int a0), some (.long a1), none, some (.long a2), none]) (st' := [.int 1]) (h' := h) rfl ?_
      exact mX_retb (by decide) rfl
    · refine mX_to 2 (k' := 62) (ls' := [some (.int a0), some (.long a1), none, some (.long a2), none]) (st' := [.int 0]) (h' := h) rfl ?_
      exact mX_retb (by decide) rfl
  · refine mX_to 2 (k' := 13) (ls' := [some (.int a0), some (.long a1), none, some (.long a2), none]) (st' := [.int 11, .int a0]) (h' := h) rfl ?_
    refine mX_br (t := 14) (f := 22) (ls' := [some (.int a0), some (.long a1), none, some (.long a2), none]) (st' := []) (h' := h) rfl ?_ ?_
    · refine mX_to 3 (k' := 17) (ls' := [some (.int a0), some (.long a1), none, some (.long a2), none]) (st' := [.int (lg_cmp a1 a2)]) (h' := h) rfl ?_
      refine mX_br (t := 18) (f := 20) (ls' := [some (.int a0), some (.long a1), none, some (.long a2), none]) (st' := []) (h' := h) rfl ?_ ?_
      · refine mX_to 2 (k' := 62) (ls' := [some (.int a0), some (.long a1), none, some (.long a2), none]) (st' := [.int 1]) (h' := h) rfl ?_
        exact mX_retb (by decide) rfl
      · refine mX_to 2 (k' := 62) (ls' := [some (.int a0), some (.long a1), none, some (.long a2), none]) (st' := [.int 0]) (h' := h) rfl ?_
        exact mX_retb (by decide) rfl
    · refine mX_to 2 (k' := 24) (ls' := [some (.int a0), some (.long a1), none, some (.long a2), none]) (st' := [.int 12, .int a0]) (h' := h) rfl ?_
      refine mX_br (t := 25) (f := 33) (ls' := [some (.int a0), some (.long a1), none, some (.long a2), none]) (st' := []) (h' := h) rfl ?_ ?_
      · refine mX_to 3 (k' := 28) (ls' := [some (.int a0), some (.long a1), none, some (.long a2), none]) (st' := [.int (lg_cmp a1 a2)]) (h' := h) rfl ?_
        refine mX_br (t := 31) (f := 29) (ls' := [some (.int a0), some (.long a1), none, some (.long a2), none]) (st' := []) (h' := h) rfl ?_ ?_
        · refine mX_to 2 (k' := 62) (ls' := [some (.int a0), some (.long a1), none, some (.long a2), none]) (st' := [.int 0]) (h' := h) rfl ?_
          exact mX_retb (by decide) rfl
        · refine mX_to 2 (k' := 62) (ls' := [some (.int a0), some (.long a1), none, some (.long a2), none]) (st' := [.int 1]) (h' := h) rfl ?_
          exact mX_retb (by decide) rfl
      · refine mX_to 2 (k' := 35) (ls' := [some (.int a0), some (.long a1), none, some (.long a2), none]) (st' := [.int 13, .int a0]) (h' := h) rfl ?_
        refine mX_br (t := 36) (f := 44) (ls' := [some (.int a0), some (.long a1), none, some (.long a2), none]) (st' := []) (h' := h) rfl ?_ ?_
        · refine mX_to 3 (k' := 39) (ls' := [some (.int a0), some (.long a1), none, some (.long a2), none]) (st' := [.int (lg_cmp a1 a2)]) (h' := h) rfl ?_
          refine mX_br (t := 42) (f := 40) (ls' := [some (.int a0), some (.long a1), none, some (.long a2), none]) (st' := []) (h' := h) rfl ?_ ?_
          · refine mX_to 2 (k' := 62) (ls' := [some (.int a0), some (.long a1), none, some (.long a2), none]) (st' := [.int 0]) (h' := h) rfl ?_
            exact mX_retb (by decide) rfl
          · refine mX_to 2 (k' := 62) (ls' := [some (.int a0), some (.long a1), none, some (.long a2), none]) (st' := [.int 1]) (h' := h) rfl ?_
            exact mX_retb (by decide) rfl
        · refine mX_to 2 (k' := 46) (ls' := [some (.int a0), some (.long a1), none, some (.long a2), none]) (st' := [.int 14, .int a0]) (h' := h) rfl ?_
          refine mX_br (t := 47) (f := 55) (ls' := [some (.int a0), some (.long a1), none, some (.long a2), none]) (st' := []) (h' := h) rfl ?_ ?_
          · refine mX_to 3 (k' := 50) (ls' := [some (.int a0), some (.long a1), none, some (.long a2), none]) (st' := [.int (lg_cmp a1 a2)]) (h' := h) rfl ?_
            refine mX_br (t := 51) (f := 53) (ls' := [some (.int a0), some (.long a1), none, some (.long a2), none]) (st' := []) (h' := h) rfl ?_ ?_
            · refine mX_to 2 (k' := 62) (ls' := [some (.int a0), some (.long a1), none, some (.long a2), none]) (st' := [.int 1]) (h' := h) rfl ?_
              exact mX_retb (by decide) rfl
            · refine mX_to 2 (k' := 62) (ls' := [some (.int a0), some (.long a1), none, some (.long a2), none]) (st' := [.int 0]) (h' := h) rfl ?_
              exact mX_retb (by decide) rfl
          · refine mX_to 3 (k' := 58) (ls' := [some (.int a0), some (.long a1), none, some (.long a2), none]) (st' := [.int (lg_cmp a1 a2)]) (h' := h) rfl ?_
            refine mX_br (t := 61) (f := 59) (ls' := [some (.int a0), some (.long a1), none, some (.long a2), none]) (st' := []) (h' := h) rfl ?_ ?_
            · refine mX_to 1 (k' := 62) (ls' := [some (.int a0), some (.long a1), none, some (.long a2), none]) (st' := [.int 0]) (h' := h) rfl ?_
              exact mX_retb (by decide) rfl
            · refine mX_to 2 (k' := 62) (ls' := [some (.int a0), some (.long a1), none, some (.long a2), none]) (st' := [.int 1]) (h' := h) rfl ?_
              exact mX_retb (by decide) rfl
