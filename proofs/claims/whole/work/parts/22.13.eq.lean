--deps:19.lay 21.facts 22.00.names
/-! EQUATIONS over the fixed cells (written by wip/gen/sgen.py) -/
theorem S_X9_happen_60 {h : MH} (L : lay h) (d : Nat) (q : Nat) (T : tAt q) (l1 : Int32) (l2 : Int32) (l3 : Int32) (s0 : Int32) (s1 : Int32) : G_X9_happen_60 d q l1 l2 l3 s0 s1 h = cI (F_X9_go d q s1 s0 h) (fun x10 h9 => some (.int 0, h9)) := by
  refine mX_ckct (m := mcl (mE mtab d 147 [.ref q, .int s1, .int s0] h) 1 61 [some (.ref q), some (.int l1), some (.int l2), some (.int l3)] []) (kT0 L T) rfl ?_
  refine mk_cIe (o := F_X9_go d q s1 s0 h) ?_
  intro x10 h9 eh9
  have L9 : lay h9 := lay_call d 147 [.ref q, .int s1, .int s0] h _ h9 rfl eh9 L
  refine mX_to 1 (k' := 62) (ls' := [some (.ref q), some (.int l1), some (.int l2), some (.int l3)]) (st' := []) (h' := h9) rfl ?_
  exact mX_ret rfl
theorem S_X9_happen {h : MH} (L : lay h) (d : Nat) (q : Nat) (a1 : Int32) (T : tAt q) : F_X9_happen (d + 1) q a1 h = lt_ (a1 - a1 / 6 * 6) fun v1 => (if v1 = 2 then cI (F_X9_clear d q ((a1 / 6) - (a1 / 6) / 9 * 9) 1 h) (fun x3 h2 => some (.int 0, h2)) else (if v1 ≤ 3 then (if (gI h q 0) ≤ 0 then some (.int 0, h) else ck (¬ (gI h q 0) = 0) (lt_ (a1 - a1 / (gI h q 0) * (gI h q 0)) fun v4 => (if v1 = 3 then ck (¬ (gI h q 0) = 0) (cI (F_X9_goPaired d q v4 0 ((a1 / 6) - (a1 / 6) / (gI h q 0) * (gI h q 0)) 1 h) (fun x6 h5 => some (.int 0, h5))) else (if v1 = 1 then G_X9_happen_60 d q a1 v1 v4 1 v4 h else G_X9_happen_60 d q a1 v1 v4 0 v4 h)))) else (if (gI h q 5) < 9999 then cI (F_X9_passHour d q h) (fun x8 h7 => some (.int 0, h7)) else some (.int 0, h)))) := by
  refine mE_eq (q := (yX9_happen, cX9_happen, 4, none, KX9_happen)) (C := KX9_happen) (ls := [some (.ref q), some (.int a1), none, none]) rfl rfl rfl rfl ?_
  refine mX_to 2 (k' := 2) (ls' := [some (.ref q), some (.int a1), none, none]) (st' := [.int 6, .int a1]) (h' := h) rfl ?_
  refine mX_ckt (c := ¬ (6 : Int32) = 0) (k' := 3) (ls' := [some (.ref q), some (.int a1), none, none]) (st' := [.int (a1 - a1 / 6 * 6)]) (h' := h) (by decide) rfl ?_
  refine lt_gen (X := fun v1 : Int32 => mX (mE mtab d) KX9_happen 3 [some (.ref q), some (.int a1), none, none] [.int v1] h) fun v1 => ?_
  refine mX_to 3 (k' := 6) (ls' := [some (.ref q), some (.int a1), some (.int v1), none]) (st' := [.int 2, .int v1]) (h' := h) rfl ?_
  refine mX_br (t := 7) (f := 17) (ls' := [some (.ref q), some (.int a1), some (.int v1), none]) (st' := []) (h' := h) rfl ?_ ?_
  · refine mX_to 3 (k' := 10) (ls' := [some (.ref q), some (.int a1), some (.int v1), none]) (st' := [.int 6, .int a1, .ref q]) (h' := h) rfl ?_
    refine mX_ckt (c := ¬ (6 : Int32) = 0) (k' := 11) (ls' := [some (.ref q), some (.int a1), some (.int v1), none]) (st' := [.int (a1 / 6), .ref q]) (h' := h) (by decide) rfl ?_
    refine mX_to 1 (k' := 12) (ls' := [some (.ref q), some (.int a1), some (.int v1), none]) (st' := [.int 9, .int (a1 / 6), .ref q]) (h' := h) rfl ?_
    refine mX_ckt (c := ¬ (9 : Int32) = 0) (k' := 13) (ls' := [some (.ref q), some (.int a1), some (.int v1), none]) (st' := [.int ((a1 / 6) - (a1 / 6) / 9 * 9), .ref q]) (h' := h) (by decide) rfl ?_
    refine mX_to 1 (k' := 14) (ls' := [some (.ref q), some (.int a1), some (.int v1), none]) (st' := [.int 1, .int ((a1 / 6) - (a1 / 6) / 9 * 9), .ref q]) (h' := h) rfl ?_
    refine mX_ckct (m := mcl (mE mtab d 182 [.ref q, .int ((a1 / 6) - (a1 / 6) / 9 * 9), .int 1] h) 1 15 [some (.ref q), some (.int a1), some (.int v1), none] []) (kT0 L T) rfl ?_
    refine mk_cIe (o := F_X9_clear d q ((a1 / 6) - (a1 / 6) / 9 * 9) 1 h) ?_
    intro x3 h2 eh2
    have L2 : lay h2 := lay_call d 182 [.ref q, .int ((a1 / 6) - (a1 / 6) / 9 * 9), .int 1] h _ h2 rfl eh2 L
    refine mX_to 2 (k' := 62) (ls' := [some (.ref q), some (.int a1), some (.int v1), none]) (st' := []) (h' := h2) rfl ?_
    exact mX_ret rfl
  · refine mX_to 2 (k' := 19) (ls' := [some (.ref q), some (.int a1), some (.int v1), none]) (st' := [.int 3, .int v1]) (h' := h) rfl ?_
    refine mX_br (t := 28) (f := 20) (ls' := [some (.ref q), some (.int a1), some (.int v1), none]) (st' := []) (h' := h) rfl ?_ ?_
    · refine mX_to 1 (k' := 29) (ls' := [some (.ref q), some (.int a1), some (.int v1), none]) (st' := [.ref q]) (h' := h) rfl ?_
      refine mX_ckv (v := .int (gI h q 0)) (v' := .int (gI h q 0)) (k' := 30) (ls' := [some (.ref q), some (.int a1), some (.int v1), none]) (st' := []) (h' := h) (kT0 L T) rfl rfl ?_
      refine mX_br (t := 62) (f := 31) (ls' := [some (.ref q), some (.int a1), some (.int v1), none]) (st' := []) (h' := h) rfl ?_ ?_
      · exact mX_ret rfl
      · refine mX_to 2 (k' := 33) (ls' := [some (.ref q), some (.int a1), some (.int v1), none]) (st' := [.ref q, .int a1]) (h' := h) rfl ?_
        refine mX_ckv (v := .int (gI h q 0)) (v' := .int (gI h q 0)) (k' := 34) (ls' := [some (.ref q), some (.int a1), some (.int v1), none]) (st' := [.int a1]) (h' := h) (kT0 L T) rfl rfl ?_
        refine mX_ck (k' := 35) (ls' := [some (.ref q), some (.int a1), some (.int v1), none]) (st' := [.int (a1 - a1 / (gI h q 0) * (gI h q 0))]) (h' := h) rfl ?_
        refine lt_gen (X := fun v4 : Int32 => mX (mE mtab d) KX9_happen 35 [some (.ref q), some (.int a1), some (.int v1), none] [.int v4] h) fun v4 => ?_
        refine mX_to 3 (k' := 38) (ls' := [some (.ref q), some (.int a1), some (.int v1), some (.int v4)]) (st' := [.int 3, .int v1]) (h' := h) rfl ?_
        refine mX_br (t := 39) (f := 52) (ls' := [some (.ref q), some (.int a1), some (.int v1), some (.int v4)]) (st' := []) (h' := h) rfl ?_ ?_
        · refine mX_to 5 (k' := 44) (ls' := [some (.ref q), some (.int a1), some (.int v1), some (.int v4)]) (st' := [.int 6, .int a1, .int 0, .int v4, .ref q]) (h' := h) rfl ?_
          refine mX_ckt (c := ¬ (6 : Int32) = 0) (k' := 45) (ls' := [some (.ref q), some (.int a1), some (.int v1), some (.int v4)]) (st' := [.int (a1 / 6), .int 0, .int v4, .ref q]) (h' := h) (by decide) rfl ?_
          refine mX_to 1 (k' := 46) (ls' := [some (.ref q), some (.int a1), some (.int v1), some (.int v4)]) (st' := [.ref q, .int (a1 / 6), .int 0, .int v4, .ref q]) (h' := h) rfl ?_
          refine mX_ckv (v := .int (gI h q 0)) (v' := .int (gI h q 0)) (k' := 47) (ls' := [some (.ref q), some (.int a1), some (.int v1), some (.int v4)]) (st' := [.int (a1 / 6), .int 0, .int v4, .ref q]) (h' := h) (kT0 L T) rfl rfl ?_
          refine mX_ck (k' := 48) (ls' := [some (.ref q), some (.int a1), some (.int v1), some (.int v4)]) (st' := [.int ((a1 / 6) - (a1 / 6) / (gI h q 0) * (gI h q 0)), .int 0, .int v4, .ref q]) (h' := h) rfl ?_
          refine mX_to 1 (k' := 49) (ls' := [some (.ref q), some (.int a1), some (.int v1), some (.int v4)]) (st' := [.int 1, .int ((a1 / 6) - (a1 / 6) / (gI h q 0) * (gI h q 0)), .int 0, .int v4, .ref q]) (h' := h) rfl ?_
          refine mX_ckct (m := mcl (mE mtab d 177 [.ref q, .int v4, .int 0, .int ((a1 / 6) - (a1 / 6) / (gI h q 0) * (gI h q 0)), .int 1] h) 1 50 [some (.ref q), some (.int a1), some (.int v1), some (.int v4)] []) (kT0 L T) rfl ?_
          refine mk_cIe (o := F_X9_goPaired d q v4 0 ((a1 / 6) - (a1 / 6) / (gI h q 0) * (gI h q 0)) 1 h) ?_
          intro x6 h5 eh5
          have L5 : lay h5 := lay_call d 177 [.ref q, .int v4, .int 0, .int ((a1 / 6) - (a1 / 6) / (gI h q 0) * (gI h q 0)), .int 1] h _ h5 rfl eh5 L
          refine mX_to 2 (k' := 62) (ls' := [some (.ref q), some (.int a1), some (.int v1), some (.int v4)]) (st' := []) (h' := h5) rfl ?_
          exact mX_ret rfl
        · refine mX_to 4 (k' := 56) (ls' := [some (.ref q), some (.int a1), some (.int v1), some (.int v4)]) (st' := [.int 1, .int v1, .int v4, .ref q]) (h' := h) rfl ?_
          refine mX_br (t := 57) (f := 59) (ls' := [some (.ref q), some (.int a1), some (.int v1), some (.int v4)]) (st' := [.int v4, .ref q]) (h' := h) rfl ?_ ?_
          · refine mX_to 2 (k' := 60) (ls' := [some (.ref q), some (.int a1), some (.int v1), some (.int v4)]) (st' := [.int 1, .int v4, .ref q]) (h' := h) rfl ?_
            rfl
          · refine mX_to 1 (k' := 60) (ls' := [some (.ref q), some (.int a1), some (.int v1), some (.int v4)]) (st' := [.int 0, .int v4, .ref q]) (h' := h) rfl ?_
            rfl
    · refine mX_to 1 (k' := 21) (ls' := [some (.ref q), some (.int a1), some (.int v1), none]) (st' := [.ref q]) (h' := h) rfl ?_
      refine mX_ckv (v := .int (gI h q 5)) (v' := .int (gI h q 5)) (k' := 22) (ls' := [some (.ref q), some (.int a1), some (.int v1), none]) (st' := []) (h' := h) (kT0 L T) rfl rfl ?_
      refine mX_to 1 (k' := 23) (ls' := [some (.ref q), some (.int a1), some (.int v1), none]) (st' := [.int 9999, .int (gI h q 5)]) (h' := h) rfl ?_
      refine mX_br (t := 24) (f := 62) (ls' := [some (.ref q), some (.int a1), some (.int v1), none]) (st' := []) (h' := h) rfl ?_ ?_
      · refine mX_to 1 (k' := 25) (ls' := [some (.ref q), some (.int a1), some (.int v1), none]) (st' := [.ref q]) (h' := h) rfl ?_
        refine mX_ckct (m := mcl (mE mtab d 191 [.ref q] h) 1 26 [some (.ref q), some (.int a1), some (.int v1), none] []) (kT0 L T) rfl ?_
        refine mk_cIe (o := F_X9_passHour d q h) ?_
        intro x8 h7 eh7
        have L7 : lay h7 := lay_call d 191 [.ref q] h _ h7 rfl eh7 L
        refine mX_to 2 (k' := 62) (ls' := [some (.ref q), some (.int a1), some (.int v1), none]) (st' := []) (h' := h7) rfl ?_
        exact mX_ret rfl
      · exact mX_ret rfl
theorem S_X10_years_30 {h : MH} (L : lay h) (d : Nat) (l1 : Int32) (l2 : Int32) (l4 : Int32) : G_X10_years_30 d l1 l2 l4 h = (if l4 < l2 then cI (F_X9_draw d 10 h) (fun x9 h8 => cV (F_X9_happen d 10 x9 h8) (fun h10 => G_X10_years_30 d l1 l2 (l4 + 1) h10)) else cI (F_X6_keptIf d 1 h) (fun x12 h11 => some (.int (gI h11 10 5), h11))) := by
  refine mX_to 2 (k' := 32) (ls' := [some (.ref 8), some (.int l1), some (.int l2), some (.ref 10), some (.int l4)]) (st' := [.int l2, .int l4]) (h' := h) rfl ?_
  refine mX_br (t := 33) (f := 39) (ls' := [some (.ref 8), some (.int l1), some (.int l2), some (.ref 10), some (.int l4)]) (st' := []) (h' := h) rfl ?_ ?_
  · refine mX_to 2 (k' := 35) (ls' := [some (.ref 8), some (.int l1), some (.int l2), some (.ref 10), some (.int l4)]) (st' := [.ref 10, .ref 10]) (h' := h) rfl ?_
    refine mX_ckct (m := mcl (mE mtab d 187 [.ref 10] h) 1 36 [some (.ref 8), some (.int l1), some (.int l2), some (.ref 10), some (.int l4)] [.ref 10]) (k_10 L) rfl ?_
    refine mk_cIe (o := F_X9_draw d 10 h) ?_
    intro x9 h8 eh8
    have L8 : lay h8 := lay_call d 187 [.ref 10] h _ h8 rfl eh8 L
    refine mX_ckct (m := mcl (mE mtab d 206 [.ref 10, .int x9] h8) 0 37 [some (.ref 8), some (.int l1), some (.int l2), some (.ref 10), some (.int l4)] []) (k_10 L8) rfl ?_
    refine mk_cVe (o := F_X9_happen d 10 x9 h8) ?_
    intro wh10 h10 eh10
    have L10 : lay h10 := lay_call d 206 [.ref 10, .int x9] h8 _ h10 rfl eh10 L8
    refine mX_to 2 (k' := 30) (ls' := [some (.ref 8), some (.int l1), some (.int l2), some (.ref 10), some (.int (l4 + 1))]) (st' := []) (h' := h10) rfl ?_
    rfl
  · refine mX_to 1 (k' := 40) (ls' := [some (.ref 8), some (.int l1), some (.int l2), some (.ref 10), some (.int l4)]) (st' := [.ref 8]) (h' := h) rfl ?_
    refine mX_ckv (v := .ref (gR h 8 0)) (v' := .ref 9) (k' := 41) (ls' := [some (.ref 8), some (.int l1), some (.int l2), some (.ref 10), some (.int l4)]) (st' := []) (h' := h) (k_8 L) (congrArg Value.ref (r_8_0 L)) rfl ?_
    refine mX_ckv (v := .ref (gR h 9 1)) (v' := .ref 17) (k' := 42) (ls' := [some (.ref 8), some (.int l1), some (.int l2), some (.ref 10), some (.int l4)]) (st' := []) (h' := h) (k_9 L) (congrArg Value.ref (r_9_1 L)) rfl ?_
    refine mX_to 1 (k' := 43) (ls' := [some (.ref 8), some (.int l1), some (.int l2), some (.ref 10), some (.int l4)]) (st' := [.int 1, .ref 17]) (h' := h) rfl ?_
    refine mX_ckct (m := mcl (mE mtab d 148 [.ref 17, .int 1] h) 1 44 [some (.ref 8), some (.int l1), some (.int l2), some (.ref 10), some (.int l4)] []) (k_17 L) rfl ?_
    refine mk_cIe (o := F_X6_keptIf d 1 h) ?_
    intro x12 h11 eh11
    have L11 : lay h11 := lay_call d 148 [.ref 17, .int 1] h _ h11 rfl eh11 L
    refine mX_to 2 (k' := 46) (ls' := [some (.ref 8), some (.int l1), some (.int l2), some (.ref 10), some (.int l4)]) (st' := [.ref 10]) (h' := h11) rfl ?_
    refine mX_ckv (v := .int (gI h11 10 5)) (v' := .int (gI h11 10 5)) (k' := 47) (ls' := [some (.ref 8), some (.int l1), some (.int l2), some (.ref 10), some (.int l4)]) (st' := []) (h' := h11) (k_10 L11) rfl rfl ?_
    exact mX_reti rfl
theorem S_X10_years {h : MH} (L : lay h) (d : Nat) (a1 : Int32) (a2 : Int32) : F_X10_years (d + 1) a1 a2 h = cI (F_X10_within d a1 0 9999 h) (fun x2 h1 => (if x2 = 0 then some (.int (-1), h1) else cI (F_X10_within d a2 1 40 h1) (fun x4 h3 => (if x4 = 0 then some (.int (-1), h3) else cV (F_X6_mark d h3) (fun h5 => lt_ (sI h5 10 6 ((a1 * 2) + 349)) fun h7 => G_X10_years_30 d a1 a2 0 h7))))) := by
  refine mE_eq (q := (yX10_years, cX10_years, 5, (some .int), KX10_years)) (C := KX10_years) (ls := [some (.ref 8), some (.int a1), some (.int a2), none, none]) rfl rfl rfl rfl ?_
  refine mX_to 3 (k' := 3) (ls' := [some (.ref 8), some (.int a1), some (.int a2), none, none]) (st' := [.int 9999, .int 0, .int a1]) (h' := h) rfl ?_
  refine mX_cIe (o := F_X10_within d a1 0 9999 h) (k' := 4) (ls' := [some (.ref 8), some (.int a1), some (.int a2), none, none]) (st' := []) rfl ?_
  intro x2 h1 eh1
  have L1 : lay h1 := lay_call d 11 [.int a1, .int 0, .int 9999] h _ h1 rfl eh1 L
  refine mX_br (t := 10) (f := 5) (ls' := [some (.ref 8), some (.int a1), some (.int a2), none, none]) (st' := []) (h' := h1) rfl ?_ ?_
  · refine mX_to 1 (k' := 11) (ls' := [some (.ref 8), some (.int a1), some (.int a2), none, none]) (st' := [.int (-1)]) (h' := h1) rfl ?_
    exact mX_reti rfl
  · refine mX_to 3 (k' := 8) (ls' := [some (.ref 8), some (.int a1), some (.int a2), none, none]) (st' := [.int 40, .int 1, .int a2]) (h' := h1) rfl ?_
    refine mX_cIe (o := F_X10_within d a2 1 40 h1) (k' := 9) (ls' := [some (.ref 8), some (.int a1), some (.int a2), none, none]) (st' := []) rfl ?_
    intro x4 h3 eh3
    have L3 : lay h3 := lay_call d 11 [.int a2, .int 1, .int 40] h1 _ h3 rfl eh3 L1
    refine mX_br (t := 10) (f := 12) (ls' := [some (.ref 8), some (.int a1), some (.int a2), none, none]) (st' := []) (h' := h3) rfl ?_ ?_
    · refine mX_to 1 (k' := 11) (ls' := [some (.ref 8), some (.int a1), some (.int a2), none, none]) (st' := [.int (-1)]) (h' := h3) rfl ?_
      exact mX_reti rfl
    · refine mX_to 1 (k' := 13) (ls' := [some (.ref 8), some (.int a1), some (.int a2), none, none]) (st' := [.ref 8]) (h' := h3) rfl ?_
      refine mX_ckv (v := .ref (gR h3 8 0)) (v' := .ref 9) (k' := 14) (ls' := [some (.ref 8), some (.int a1), some (.int a2), none, none]) (st' := []) (h' := h3) (k_8 L3) (congrArg Value.ref (r_8_0 L3)) rfl ?_
      refine mX_ckv (v := .ref (gR h3 9 0)) (v' := .ref 10) (k' := 15) (ls' := [some (.ref 8), some (.int a1), some (.int a2), none, none]) (st' := []) (h' := h3) (k_9 L3) (congrArg Value.ref (r_9_0 L3)) rfl ?_
      refine mX_to 2 (k' := 17) (ls' := [some (.ref 8), some (.int a1), some (.int a2), some (.ref 10), none]) (st' := [.ref 8]) (h' := h3) rfl ?_
      refine mX_ckv (v := .ref (gR h3 8 0)) (v' := .ref 9) (k' := 18) (ls' := [some (.ref 8), some (.int a1), some (.int a2), some (.ref 10), none]) (st' := []) (h' := h3) (k_8 L3) (congrArg Value.ref (r_8_0 L3)) rfl ?_
      refine mX_ckv (v := .ref (gR h3 9 1)) (v' := .ref 17) (k' := 19) (ls' := [some (.ref 8), some (.int a1), some (.int a2), some (.ref 10), none]) (st' := []) (h' := h3) (k_9 L3) (congrArg Value.ref (r_9_1 L3)) rfl ?_
      refine mX_to 1 (k' := 20) (ls' := [some (.ref 8), some (.int a1), some (.int a2), some (.ref 10), none]) (st' := [.ref 10, .ref 17]) (h' := h3) rfl ?_
      refine mX_ckct (m := mcl (mE mtab d 137 [.ref 17, .ref 10] h3) 0 21 [some (.ref 8), some (.int a1), some (.int a2), some (.ref 10), none] []) (k_17 L3) rfl ?_
      refine mk_cVe (o := F_X6_mark d h3) ?_
      intro wh5 h5 eh5
      have L5 : lay h5 := lay_call d 137 [.ref 17, .ref 10] h3 _ h5 rfl eh5 L3
      refine mX_to 6 (k' := 27) (ls' := [some (.ref 8), some (.int a1), some (.int a2), some (.ref 10), none]) (st' := [.int ((a1 * 2) + 349), .ref 10]) (h' := h5) rfl ?_
      refine mX_ckt (k' := 28) (ls' := [some (.ref 8), some (.int a1), some (.int a2), some (.ref 10), none]) (st' := []) (h' := (sI h5 10 6 ((a1 * 2) + 349))) (k_10 L5) rfl ?_
      refine lt_geq2 (X := fun h7 : MH => mX (mE mtab d) KX10_years 28 [some (.ref 8), some (.int a1), some (.int a2), some (.ref 10), none] [] h7) (a := (sI h5 10 6 ((a1 * 2) + 349))) (a' := (sI h5 10 6 ((a1 * 2) + 349))) rfl fun h7 eh7 => ?_
      have L7 : lay h7 := eh7 ▸ layI L5 (by decide)
      refine mX_to 2 (k' := 30) (ls' := [some (.ref 8), some (.int a1), some (.int a2), some (.ref 10), some (.int 0)]) (st' := []) (h' := h7) rfl ?_
      rfl
theorem S_X11_happens_29 {h : MH} (L : lay h) (d : Nat) (l1 : Int32) (l2 : Int32) (l3 : Int32) (s0 : Int32) (s1 : Int32) : G_X11_happens_29 d l1 l2 l3 s0 s1 h = cI (F_X11_canWalk d s1 s0 h) (fun x13 h12 => (if x13 = 0 then some (.int 0, h12) else ck (¬ l2 = 0) ((if (l1 - l1 / 6 * 6) = 1 then G_X11_happens_43 d l1 l2 l3 1 (l1 - l1 / l2 * l2) h12 else G_X11_happens_43 d l1 l2 l3 0 (l1 - l1 / l2 * l2) h12)))) := by
  refine mX_ckct (m := mcl (mE mtab d 174 [.ref 67, .int s1, .int s0] h) 1 30 [some (.ref 67), some (.int l1), some (.int l2), some (.int l3)] []) (k_67 L) rfl ?_
  refine mk_cIe (o := F_X11_canWalk d s1 s0 h) ?_
  intro x13 h12 eh12
  have L12 : lay h12 := lay_call d 174 [.ref 67, .int s1, .int s0] h _ h12 rfl eh12 L
  refine mX_br (t := 100) (f := 31) (ls' := [some (.ref 67), some (.int l1), some (.int l2), some (.int l3)]) (st' := []) (h' := h12) rfl ?_ ?_
  · exact mX_ret rfl
  · refine mX_to 3 (k' := 34) (ls' := [some (.ref 67), some (.int l1), some (.int l2), some (.int l3)]) (st' := [.int l2, .int l1, .ref 67]) (h' := h12) rfl ?_
    refine mX_ck (k' := 35) (ls' := [some (.ref 67), some (.int l1), some (.int l2), some (.int l3)]) (st' := [.int (l1 - l1 / l2 * l2), .ref 67]) (h' := h12) rfl ?_
    refine mX_to 2 (k' := 37) (ls' := [some (.ref 67), some (.int l1), some (.int l2), some (.int l3)]) (st' := [.int 6, .int l1, .int (l1 - l1 / l2 * l2), .ref 67]) (h' := h12) rfl ?_
    refine mX_ckt (c := ¬ (6 : Int32) = 0) (k' := 38) (ls' := [some (.ref 67), some (.int l1), some (.int l2), some (.int l3)]) (st' := [.int (l1 - l1 / 6 * 6), .int (l1 - l1 / l2 * l2), .ref 67]) (h' := h12) (by decide) rfl ?_
    refine mX_to 1 (k' := 39) (ls' := [some (.ref 67), some (.int l1), some (.int l2), some (.int l3)]) (st' := [.int 1, .int (l1 - l1 / 6 * 6), .int (l1 - l1 / l2 * l2), .ref 67]) (h' := h12) rfl ?_
    refine mX_br (t := 40) (f := 42) (ls' := [some (.ref 67), some (.int l1), some (.int l2), some (.int l3)]) (st' := [.int (l1 - l1 / l2 * l2), .ref 67]) (h' := h12) rfl ?_ ?_
    · refine mX_to 2 (k' := 43) (ls' := [some (.ref 67), some (.int l1), some (.int l2), some (.int l3)]) (st' := [.int 1, .int (l1 - l1 / l2 * l2), .ref 67]) (h' := h12) rfl ?_
      rfl
    · refine mX_to 1 (k' := 43) (ls' := [some (.ref 67), some (.int l1), some (.int l2), some (.int l3)]) (st' := [.int 0, .int (l1 - l1 / l2 * l2), .ref 67]) (h' := h12) rfl ?_
      rfl
theorem S_X11_happens_43 {h : MH} (L : lay h) (d : Nat) (l1 : Int32) (l2 : Int32) (l3 : Int32) (s0 : Int32) (s1 : Int32) : G_X11_happens_43 d l1 l2 l3 s0 s1 h = cV (F_X11_move d s1 s0 h) (fun h14 => some (.int 0, h14)) := by
  refine mX_ckct (m := mcl (mE mtab d 153 [.ref 67, .int s1, .int s0] h) 0 44 [some (.ref 67), some (.int l1), some (.int l2), some (.int l3)] []) (k_67 L) rfl ?_
  refine mk_cVe (o := F_X11_move d s1 s0 h) ?_
  intro wh14 h14 eh14
  have L14 : lay h14 := lay_call d 153 [.ref 67, .int s1, .int s0] h _ h14 rfl eh14 L
  refine mX_to 1 (k' := 100) (ls' := [some (.ref 67), some (.int l1), some (.int l2), some (.int l3)]) (st' := []) (h' := h14) rfl ?_
  exact mX_ret rfl
theorem S_X11_happens {h : MH} (L : lay h) (d : Nat) (a1 : Int32) : F_X11_happens (d + 1) a1 h = lt_ ((a1 / 6) - (a1 / 6) / 9 * 9) fun v1 => (if (a1 - a1 / 6 * 6) = 0 then (if (gI h 68 0) ≤ 0 then some (.int 0, h) else ck (¬ (gI h 68 0) = 0) ((if (a1 - a1 / 6 * 6) = 1 then G_X11_happens_29 d a1 (gI h 68 0) v1 1 (a1 - a1 / (gI h 68 0) * (gI h 68 0)) h else G_X11_happens_29 d a1 (gI h 68 0) v1 0 (a1 - a1 / (gI h 68 0) * (gI h 68 0)) h))) else (if (a1 - a1 / 6 * 6) = 1 then (if (gI h 68 0) ≤ 0 then some (.int 0, h) else ck (¬ (gI h 68 0) = 0) ((if (a1 - a1 / 6 * 6) = 1 then G_X11_happens_29 d a1 (gI h 68 0) v1 1 (a1 - a1 / (gI h 68 0) * (gI h 68 0)) h else G_X11_happens_29 d a1 (gI h 68 0) v1 0 (a1 - a1 / (gI h 68 0) * (gI h 68 0)) h))) else (if (a1 - a1 / 6 * 6) = 2 then cI (F_X11_canShovel d v1 1 h) (fun x3 h2 => (if x3 = 0 then some (.int 0, h2) else ck (ib (13 + v1) 1498) (ck (ib (13 + v1) 1498) (lt_ (sI h2 68 (ix (13 + v1)) ((gI h2 68 (ix (13 + v1))) - 1)) fun h5 => some (.int 0, h5))))) else (if (a1 - a1 / 6 * 6) = 3 then (if (gI h 68 0) = 0 then some (.int 0, h) else ck (¬ (gI h 68 0) = 0) (ck (¬ (gI h 68 0) = 0) (cI (F_X11_canPair d (a1 - a1 / (gI h 68 0) * (gI h 68 0)) 0 ((a1 / 6) - (a1 / 6) / (gI h 68 0) * (gI h 68 0)) 1 h) (fun x8 h7 => (if x8 = 0 then some (.int 0, h7) else ck (¬ (gI h 68 0) = 0) (cV (F_X11_move d (a1 - a1 / (gI h 68 0) * (gI h 68 0)) 0 h7) (fun h9 => ck (¬ (gI h 68 0) = 0) (cV (F_X11_move d ((a1 / 6) - (a1 / 6) / (gI h 68 0) * (gI h 68 0)) 1 h9) (fun h10 => some (.int 0, h10)))))))))) else (if (gI h 68 6) < 9999 then cV (F_X11_pass d h) (fun h11 => some (.int 0, h11)) else some (.int 0, h)))))) := by
  refine mE_eq (q := (yX11_happens, cX11_happens, 4, none, KX11_happens)) (C := KX11_happens) (ls := [some (.ref 67), some (.int a1), none, none]) rfl rfl rfl rfl ?_
  refine mX_to 1 (k' := 1) (ls' := [some (.ref 67), some (.int a1), none, none]) (st' := [.ref 67]) (h' := h) rfl ?_
  refine mX_ckv (v := .ref (gR h 67 0)) (v' := .ref 68) (k' := 2) (ls' := [some (.ref 67), some (.int a1), none, none]) (st' := []) (h' := h) (k_67 L) (congrArg Value.ref (r_67_0 L)) rfl ?_
  refine mX_to 1 (k' := 3) (ls' := [some (.ref 67), some (.int a1), none, none]) (st' := [.int 0, .ref 68]) (h' := h) rfl ?_
  refine mX_ckv (v := .int (gI h 68 (ix (0 : Int32)))) (v' := .int (gI h 68 0)) (k' := 4) (ls' := [some (.ref 67), some (.int a1), none, none]) (st' := []) (h' := h) ((ckA1 (k_68 L) (n_68 L)).mpr (ib_lit (n := 0) rfl (by decide) (by decide))) (congrArg (fun j => Value.int (gI h 68 j)) (ix_lit (n := 0) rfl (by decide))) rfl ?_
  refine mX_to 3 (k' := 7) (ls' := [some (.ref 67), some (.int a1), some (.int (gI h 68 0)), none]) (st' := [.int 6, .int a1]) (h' := h) rfl ?_
  refine mX_ckt (c := ¬ (6 : Int32) = 0) (k' := 8) (ls' := [some (.ref 67), some (.int a1), some (.int (gI h 68 0)), none]) (st' := [.int (a1 / 6)]) (h' := h) (by decide) rfl ?_
  refine mX_to 1 (k' := 9) (ls' := [some (.ref 67), some (.int a1), some (.int (gI h 68 0)), none]) (st' := [.int 9, .int (a1 / 6)]) (h' := h) rfl ?_
  refine mX_ckt (c := ¬ (9 : Int32) = 0) (k' := 10) (ls' := [some (.ref 67), some (.int a1), some (.int (gI h 68 0)), none]) (st' := [.int ((a1 / 6) - (a1 / 6) / 9 * 9)]) (h' := h) (by decide) rfl ?_
  refine lt_gen (X := fun v1 : Int32 => mX (mE mtab d) KX11_happens 10 [some (.ref 67), some (.int a1), some (.int (gI h 68 0)), none] [.int v1] h) fun v1 => ?_
  refine mX_to 3 (k' := 13) (ls' := [some (.ref 67), some (.int a1), some (.int (gI h 68 0)), some (.int v1)]) (st' := [.int 6, .int a1]) (h' := h) rfl ?_
  refine mX_ckt (c := ¬ (6 : Int32) = 0) (k' := 14) (ls' := [some (.ref 67), some (.int a1), some (.int (gI h 68 0)), some (.int v1)]) (st' := [.int (a1 - a1 / 6 * 6)]) (h' := h) (by decide) rfl ?_
  refine mX_sw (x := (a1 - a1 / 6 * 6)) (t := 92) (sw := [(0, 15), (1, 15), (2, 45), (3, 61)]) (ls' := [some (.ref 67), some (.int a1), some (.int (gI h 68 0)), some (.int v1)]) (st' := []) (h' := h) rfl ?_
  refine msw_cons ?_ ?_
  · refine mX_to 1 (k' := 16) (ls' := [some (.ref 67), some (.int a1), some (.int (gI h 68 0)), some (.int v1)]) (st' := [.int (gI h 68 0)]) (h' := h) rfl ?_
    refine mX_br (t := 100) (f := 17) (ls' := [some (.ref 67), some (.int a1), some (.int (gI h 68 0)), some (.int v1)]) (st' := []) (h' := h) rfl ?_ ?_
    · exact mX_ret rfl
    · refine mX_to 3 (k' := 20) (ls' := [some (.ref 67), some (.int a1), some (.int (gI h 68 0)), some (.int v1)]) (st' := [.int (gI h 68 0), .int a1, .ref 67]) (h' := h) rfl ?_
      refine mX_ck (k' := 21) (ls' := [some (.ref 67), some (.int a1), some (.int (gI h 68 0)), some (.int v1)]) (st' := [.int (a1 - a1 / (gI h 68 0) * (gI h 68 0)), .ref 67]) (h' := h) rfl ?_
      refine mX_to 2 (k' := 23) (ls' := [some (.ref 67), some (.int a1), some (.int (gI h 68 0)), some (.int v1)]) (st' := [.int 6, .int a1, .int (a1 - a1 / (gI h 68 0) * (gI h 68 0)), .ref 67]) (h' := h) rfl ?_
      refine mX_ckt (c := ¬ (6 : Int32) = 0) (k' := 24) (ls' := [some (.ref 67), some (.int a1), some (.int (gI h 68 0)), some (.int v1)]) (st' := [.int (a1 - a1 / 6 * 6), .int (a1 - a1 / (gI h 68 0) * (gI h 68 0)), .ref 67]) (h' := h) (by decide) rfl ?_
      refine mX_to 1 (k' := 25) (ls' := [some (.ref 67), some (.int a1), some (.int (gI h 68 0)), some (.int v1)]) (st' := [.int 1, .int (a1 - a1 / 6 * 6), .int (a1 - a1 / (gI h 68 0) * (gI h 68 0)), .ref 67]) (h' := h) rfl ?_
      refine mX_br (t := 26) (f := 28) (ls' := [some (.ref 67), some (.int a1), some (.int (gI h 68 0)), some (.int v1)]) (st' := [.int (a1 - a1 / (gI h 68 0) * (gI h 68 0)), .ref 67]) (h' := h) rfl ?_ ?_
      · refine mX_to 2 (k' := 29) (ls' := [some (.ref 67), some (.int a1), some (.int (gI h 68 0)), some (.int v1)]) (st' := [.int 1, .int (a1 - a1 / (gI h 68 0) * (gI h 68 0)), .ref 67]) (h' := h) rfl ?_
        rfl
      · refine mX_to 1 (k' := 29) (ls' := [some (.ref 67), some (.int a1), some (.int (gI h 68 0)), some (.int v1)]) (st' := [.int 0, .int (a1 - a1 / (gI h 68 0) * (gI h 68 0)), .ref 67]) (h' := h) rfl ?_
        rfl
  refine msw_cons ?_ ?_
  · refine mX_to 1 (k' := 16) (ls' := [some (.ref 67), some (.int a1), some (.int (gI h 68 0)), some (.int v1)]) (st' := [.int (gI h 68 0)]) (h' := h) rfl ?_
    refine mX_br (t := 100) (f := 17) (ls' := [some (.ref 67), some (.int a1), some (.int (gI h 68 0)), some (.int v1)]) (st' := []) (h' := h) rfl ?_ ?_
    · exact mX_ret rfl
    · refine mX_to 3 (k' := 20) (ls' := [some (.ref 67), some (.int a1), some (.int (gI h 68 0)), some (.int v1)]) (st' := [.int (gI h 68 0), .int a1, .ref 67]) (h' := h) rfl ?_
      refine mX_ck (k' := 21) (ls' := [some (.ref 67), some (.int a1), some (.int (gI h 68 0)), some (.int v1)]) (st' := [.int (a1 - a1 / (gI h 68 0) * (gI h 68 0)), .ref 67]) (h' := h) rfl ?_
      refine mX_to 2 (k' := 23) (ls' := [some (.ref 67), some (.int a1), some (.int (gI h 68 0)), some (.int v1)]) (st' := [.int 6, .int a1, .int (a1 - a1 / (gI h 68 0) * (gI h 68 0)), .ref 67]) (h' := h) rfl ?_
      refine mX_ckt (c := ¬ (6 : Int32) = 0) (k' := 24) (ls' := [some (.ref 67), some (.int a1), some (.int (gI h 68 0)), some (.int v1)]) (st' := [.int (a1 - a1 / 6 * 6), .int (a1 - a1 / (gI h 68 0) * (gI h 68 0)), .ref 67]) (h' := h) (by decide) rfl ?_
      refine mX_to 1 (k' := 25) (ls' := [some (.ref 67), some (.int a1), some (.int (gI h 68 0)), some (.int v1)]) (st' := [.int 1, .int (a1 - a1 / 6 * 6), .int (a1 - a1 / (gI h 68 0) * (gI h 68 0)), .ref 67]) (h' := h) rfl ?_
      refine mX_br (t := 26) (f := 28) (ls' := [some (.ref 67), some (.int a1), some (.int (gI h 68 0)), some (.int v1)]) (st' := [.int (a1 - a1 / (gI h 68 0) * (gI h 68 0)), .ref 67]) (h' := h) rfl ?_ ?_
      · refine mX_to 2 (k' := 29) (ls' := [some (.ref 67), some (.int a1), some (.int (gI h 68 0)), some (.int v1)]) (st' := [.int 1, .int (a1 - a1 / (gI h 68 0) * (gI h 68 0)), .ref 67]) (h' := h) rfl ?_
        rfl
      · refine mX_to 1 (k' := 29) (ls' := [some (.ref 67), some (.int a1), some (.int (gI h 68 0)), some (.int v1)]) (st' := [.int 0, .int (a1 - a1 / (gI h 68 0) * (gI h 68 0)), .ref 67]) (h' := h) rfl ?_
        rfl
  refine msw_cons ?_ ?_
  · refine mX_to 3 (k' := 48) (ls' := [some (.ref 67), some (.int a1), some (.int (gI h 68 0)), some (.int v1)]) (st' := [.int 1, .int v1, .ref 67]) (h' := h) rfl ?_
    refine mX_ckct (m := mcl (mE mtab d 185 [.ref 67, .int v1, .int 1] h) 1 49 [some (.ref 67), some (.int a1), some (.int (gI h 68 0)), some (.int v1)] []) (k_67 L) rfl ?_
    refine mk_cIe (o := F_X11_canShovel d v1 1 h) ?_
    intro x3 h2 eh2
    have L2 : lay h2 := lay_call d 185 [.ref 67, .int v1, .int 1] h _ h2 rfl eh2 L
    refine mX_br (t := 100) (f := 50) (ls' := [some (.ref 67), some (.int a1), some (.int (gI h 68 0)), some (.int v1)]) (st' := []) (h' := h2) rfl ?_ ?_
    · exact mX_ret rfl
    · refine mX_to 1 (k' := 51) (ls' := [some (.ref 67), some (.int a1), some (.int (gI h 68 0)), some (.int v1)]) (st' := [.ref 67]) (h' := h2) rfl ?_
      refine mX_ckv (v := .ref (gR h2 67 0)) (v' := .ref 68) (k' := 52) (ls' := [some (.ref 67), some (.int a1), some (.int (gI h 68 0)), some (.int v1)]) (st' := []) (h' := h2) (k_67 L2) (congrArg Value.ref (r_67_0 L2)) rfl ?_
      refine mX_to 4 (k' := 56) (ls' := [some (.ref 67), some (.int a1), some (.int (gI h 68 0)), some (.int v1)]) (st' := [.int (13 + v1), .ref 68, .int (13 + v1), .ref 68]) (h' := h2) rfl ?_
      refine mX_ckw (v := .int (gI h2 68 (ix (13 + v1)))) (v' := .int (gI h2 68 (ix (13 + v1)))) (k' := 57) (ls' := [some (.ref 67), some (.int a1), some (.int (gI h 68 0)), some (.int v1)]) (st' := [.int (13 + v1), .ref 68]) (h' := h2) (ckA1 (k_68 L2) (n_68 L2)) rfl rfl fun c6 => ?_
      refine mX_to 2 (k' := 59) (ls' := [some (.ref 67), some (.int a1), some (.int (gI h 68 0)), some (.int v1)]) (st' := [.int ((gI h2 68 (ix (13 + v1))) - 1), .int (13 + v1), .ref 68]) (h' := h2) rfl ?_
      refine mX_cki (k' := 60) (ls' := [some (.ref 67), some (.int a1), some (.int (gI h 68 0)), some (.int v1)]) (st' := []) (h' := (sI h2 68 (ix (13 + v1)) ((gI h2 68 (ix (13 + v1))) - 1))) (ckA0 (k_68 L2) (n_68 L2)) rfl fun c4 => ?_
      refine lt_geq2 (X := fun h5 : MH => mX (mE mtab d) KX11_happens 60 [some (.ref 67), some (.int a1), some (.int (gI h 68 0)), some (.int v1)] [] h5) (a := (sI h2 68 (ix (13 + v1)) ((gI h2 68 (ix (13 + v1))) - 1))) (a' := (sI h2 68 (ix (13 + v1)) ((gI h2 68 (ix (13 + v1))) - 1))) rfl fun h5 eh5 => ?_
      have L5 : lay h5 := eh5 ▸ layI L2 (by decide)
      refine mX_to 1 (k' := 100) (ls' := [some (.ref 67), some (.int a1), some (.int (gI h 68 0)), some (.int v1)]) (st' := []) (h' := h5) rfl ?_
      exact mX_ret rfl
  refine msw_cons ?_ ?_
  · refine mX_to 1 (k' := 62) (ls' := [some (.ref 67), some (.int a1), some (.int (gI h 68 0)), some (.int v1)]) (st' := [.int (gI h 68 0)]) (h' := h) rfl ?_
    refine mX_br (t := 100) (f := 63) (ls' := [some (.ref 67), some (.int a1), some (.int (gI h 68 0)), some (.int v1)]) (st' := []) (h' := h) rfl ?_ ?_
    · exact mX_ret rfl
    · refine mX_to 3 (k' := 66) (ls' := [some (.ref 67), some (.int a1), some (.int (gI h 68 0)), some (.int v1)]) (st' := [.int (gI h 68 0), .int a1, .ref 67]) (h' := h) rfl ?_
      refine mX_ck (k' := 67) (ls' := [some (.ref 67), some (.int a1), some (.int (gI h 68 0)), some (.int v1)]) (st' := [.int (a1 - a1 / (gI h 68 0) * (gI h 68 0)), .ref 67]) (h' := h) rfl ?_
      refine mX_to 3 (k' := 70) (ls' := [some (.ref 67), some (.int a1), some (.int (gI h 68 0)), some (.int v1)]) (st' := [.int 6, .int a1, .int 0, .int (a1 - a1 / (gI h 68 0) * (gI h 68 0)), .ref 67]) (h' := h) rfl ?_
      refine mX_ckt (c := ¬ (6 : Int32) = 0) (k' := 71) (ls' := [some (.ref 67), some (.int a1), some (.int (gI h 68 0)), some (.int v1)]) (st' := [.int (a1 / 6), .int 0, .int (a1 - a1 / (gI h 68 0) * (gI h 68 0)), .ref 67]) (h' := h) (by decide) rfl ?_
      refine mX_to 1 (k' := 72) (ls' := [some (.ref 67), some (.int a1), some (.int (gI h 68 0)), some (.int v1)]) (st' := [.int (gI h 68 0), .int (a1 / 6), .int 0, .int (a1 - a1 / (gI h 68 0) * (gI h 68 0)), .ref 67]) (h' := h) rfl ?_
      refine mX_ck (k' := 73) (ls' := [some (.ref 67), some (.int a1), some (.int (gI h 68 0)), some (.int v1)]) (st' := [.int ((a1 / 6) - (a1 / 6) / (gI h 68 0) * (gI h 68 0)), .int 0, .int (a1 - a1 / (gI h 68 0) * (gI h 68 0)), .ref 67]) (h' := h) rfl ?_
      refine mX_to 1 (k' := 74) (ls' := [some (.ref 67), some (.int a1), some (.int (gI h 68 0)), some (.int v1)]) (st' := [.int 1, .int ((a1 / 6) - (a1 / 6) / (gI h 68 0) * (gI h 68 0)), .int 0, .int (a1 - a1 / (gI h 68 0) * (gI h 68 0)), .ref 67]) (h' := h) rfl ?_
      refine mX_ckct (m := mcl (mE mtab d 180 [.ref 67, .int (a1 - a1 / (gI h 68 0) * (gI h 68 0)), .int 0, .int ((a1 / 6) - (a1 / 6) / (gI h 68 0) * (gI h 68 0)), .int 1] h) 1 75 [some (.ref 67), some (.int a1), some (.int (gI h 68 0)), some (.int v1)] []) (k_67 L) rfl ?_
      refine mk_cIe (o := F_X11_canPair d (a1 - a1 / (gI h 68 0) * (gI h 68 0)) 0 ((a1 / 6) - (a1 / 6) / (gI h 68 0) * (gI h 68 0)) 1 h) ?_
      intro x8 h7 eh7
      have L7 : lay h7 := lay_call d 180 [.ref 67, .int (a1 - a1 / (gI h 68 0) * (gI h 68 0)), .int 0, .int ((a1 / 6) - (a1 / 6) / (gI h 68 0) * (gI h 68 0)), .int 1] h _ h7 rfl eh7 L
      refine mX_br (t := 76) (f := 77) (ls' := [some (.ref 67), some (.int a1), some (.int (gI h 68 0)), some (.int v1)]) (st' := []) (h' := h7) rfl ?_ ?_
      · refine mX_to 1 (k' := 100) (ls' := [some (.ref 67), some (.int a1), some (.int (gI h 68 0)), some (.int v1)]) (st' := []) (h' := h7) rfl ?_
        exact mX_ret rfl
      · refine mX_to 3 (k' := 80) (ls' := [some (.ref 67), some (.int a1), some (.int (gI h 68 0)), some (.int v1)]) (st' := [.int (gI h 68 0), .int a1, .ref 67]) (h' := h7) rfl ?_
        refine mX_ck (k' := 81) (ls' := [some (.ref 67), some (.int a1), some (.int (gI h 68 0)), some (.int v1)]) (st' := [.int (a1 - a1 / (gI h 68 0) * (gI h 68 0)), .ref 67]) (h' := h7) rfl ?_
        refine mX_to 1 (k' := 82) (ls' := [some (.ref 67), some (.int a1), some (.int (gI h 68 0)), some (.int v1)]) (st' := [.int 0, .int (a1 - a1 / (gI h 68 0) * (gI h 68 0)), .ref 67]) (h' := h7) rfl ?_
        refine mX_ckct (m := mcl (mE mtab d 153 [.ref 67, .int (a1 - a1 / (gI h 68 0) * (gI h 68 0)), .int 0] h7) 0 83 [some (.ref 67), some (.int a1), some (.int (gI h 68 0)), some (.int v1)] []) (k_67 L7) rfl ?_
        refine mk_cVe (o := F_X11_move d (a1 - a1 / (gI h 68 0) * (gI h 68 0)) 0 h7) ?_
        intro wh9 h9 eh9
        have L9 : lay h9 := lay_call d 153 [.ref 67, .int (a1 - a1 / (gI h 68 0) * (gI h 68 0)), .int 0] h7 _ h9 rfl eh9 L7
        refine mX_to 3 (k' := 86) (ls' := [some (.ref 67), some (.int a1), some (.int (gI h 68 0)), some (.int v1)]) (st' := [.int 6, .int a1, .ref 67]) (h' := h9) rfl ?_
        refine mX_ckt (c := ¬ (6 : Int32) = 0) (k' := 87) (ls' := [some (.ref 67), some (.int a1), some (.int (gI h 68 0)), some (.int v1)]) (st' := [.int (a1 / 6), .ref 67]) (h' := h9) (by decide) rfl ?_
        refine mX_to 1 (k' := 88) (ls' := [some (.ref 67), some (.int a1), some (.int (gI h 68 0)), some (.int v1)]) (st' := [.int (gI h 68 0), .int (a1 / 6), .ref 67]) (h' := h9) rfl ?_
        refine mX_ck (k' := 89) (ls' := [some (.ref 67), some (.int a1), some (.int (gI h 68 0)), some (.int v1)]) (st' := [.int ((a1 / 6) - (a1 / 6) / (gI h 68 0) * (gI h 68 0)), .ref 67]) (h' := h9) rfl ?_
        refine mX_to 1 (k' := 90) (ls' := [some (.ref 67), some (.int a1), some (.int (gI h 68 0)), some (.int v1)]) (st' := [.int 1, .int ((a1 / 6) - (a1 / 6) / (gI h 68 0) * (gI h 68 0)), .ref 67]) (h' := h9) rfl ?_
        refine mX_ckct (m := mcl (mE mtab d 153 [.ref 67, .int ((a1 / 6) - (a1 / 6) / (gI h 68 0) * (gI h 68 0)), .int 1] h9) 0 91 [some (.ref 67), some (.int a1), some (.int (gI h 68 0)), some (.int v1)] []) (k_67 L9) rfl ?_
        refine mk_cVe (o := F_X11_move d ((a1 / 6) - (a1 / 6) / (gI h 68 0) * (gI h 68 0)) 1 h9) ?_
        intro wh10 h10 eh10
        have L10 : lay h10 := lay_call d 153 [.ref 67, .int ((a1 / 6) - (a1 / 6) / (gI h 68 0) * (gI h 68 0)), .int 1] h9 _ h10 rfl eh10 L9
        refine mX_to 1 (k' := 100) (ls' := [some (.ref 67), some (.int a1), some (.int (gI h 68 0)), some (.int v1)]) (st' := []) (h' := h10) rfl ?_
        exact mX_ret rfl
  refine msw_nil ?_
  refine mX_to 1 (k' := 93) (ls' := [some (.ref 67), some (.int a1), some (.int (gI h 68 0)), some (.int v1)]) (st' := [.ref 67]) (h' := h) rfl ?_
  refine mX_ckv (v := .ref (gR h 67 0)) (v' := .ref 68) (k' := 94) (ls' := [some (.ref 67), some (.int a1), some (.int (gI h 68 0)), some (.int v1)]) (st' := []) (h' := h) (k_67 L) (congrArg Value.ref (r_67_0 L)) rfl ?_
  refine mX_to 1 (k' := 95) (ls' := [some (.ref 67), some (.int a1), some (.int (gI h 68 0)), some (.int v1)]) (st' := [.int 6, .ref 68]) (h' := h) rfl ?_
  refine mX_ckv (v := .int (gI h 68 (ix (6 : Int32)))) (v' := .int (gI h 68 6)) (k' := 96) (ls' := [some (.ref 67), some (.int a1), some (.int (gI h 68 0)), some (.int v1)]) (st' := []) (h' := h) ((ckA1 (k_68 L) (n_68 L)).mpr (ib_lit (n := 6) rfl (by decide) (by decide))) (congrArg (fun j => Value.int (gI h 68 j)) (ix_lit (n := 6) rfl (by decide))) rfl ?_
  refine mX_to 1 (k' := 97) (ls' := [some (.ref 67), some (.int a1), some (.int (gI h 68 0)), some (.int v1)]) (st' := [.int 9999, .int (gI h 68 6)]) (h' := h) rfl ?_
  refine mX_br (t := 98) (f := 100) (ls' := [some (.ref 67), some (.int a1), some (.int (gI h 68 0)), some (.int v1)]) (st' := []) (h' := h) rfl ?_ ?_
  · refine mX_to 1 (k' := 99) (ls' := [some (.ref 67), some (.int a1), some (.int (gI h 68 0)), some (.int v1)]) (st' := [.ref 67]) (h' := h) rfl ?_
    refine mX_ckct (m := mcl (mE mtab d 199 [.ref 67] h) 0 100 [some (.ref 67), some (.int a1), some (.int (gI h 68 0)), some (.int v1)] []) (k_67 L) rfl ?_
    refine mk_cVe (o := F_X11_pass d h) ?_
    intro wh11 h11 eh11
    have L11 : lay h11 := lay_call d 199 [.ref 67] h _ h11 rfl eh11 L
    exact mX_ret rfl
  · exact mX_ret rfl
theorem S_X11_years_25 {h : MH} (L : lay h) (d : Nat) (l1 : Int32) (l2 : Int32) (l3 : Int32) (o4 : Option Value) : G_X11_years_25 d l1 l2 l3 o4 h = (if l3 < l2 then cV (F_X11_anew d h) (fun h8 => cV (F_X11_happens d (gI h 68 7) h8) (fun h9 => G_X11_years_25 d l1 l2 (l3 + 1) (some (.int (gI h 68 7))) h9)) else some (.int (gI h 68 6), h)) := by
  refine mX_to 2 (k' := 27) (ls' := [some (.ref 67), some (.int l1), some (.int l2), some (.int l3), o4]) (st' := [.int l2, .int l3]) (h' := h) rfl ?_
  refine mX_br (t := 28) (f := 40) (ls' := [some (.ref 67), some (.int l1), some (.int l2), some (.int l3), o4]) (st' := []) (h' := h) rfl ?_ ?_
  · refine mX_to 1 (k' := 29) (ls' := [some (.ref 67), some (.int l1), some (.int l2), some (.int l3), o4]) (st' := [.ref 67]) (h' := h) rfl ?_
    refine mX_ckv (v := .ref (gR h 67 0)) (v' := .ref 68) (k' := 30) (ls' := [some (.ref 67), some (.int l1), some (.int l2), some (.int l3), o4]) (st' := []) (h' := h) (k_67 L) (congrArg Value.ref (r_67_0 L)) rfl ?_
    refine mX_to 1 (k' := 31) (ls' := [some (.ref 67), some (.int l1), some (.int l2), some (.int l3), o4]) (st' := [.int 7, .ref 68]) (h' := h) rfl ?_
    refine mX_ckv (v := .int (gI h 68 (ix (7 : Int32)))) (v' := .int (gI h 68 7)) (k' := 32) (ls' := [some (.ref 67), some (.int l1), some (.int l2), some (.int l3), o4]) (st' := []) (h' := h) ((ckA1 (k_68 L) (n_68 L)).mpr (ib_lit (n := 7) rfl (by decide) (by decide))) (congrArg (fun j => Value.int (gI h 68 j)) (ix_lit (n := 7) rfl (by decide))) rfl ?_
    refine mX_to 2 (k' := 34) (ls' := [some (.ref 67), some (.int l1), some (.int l2), some (.int l3), some (.int (gI h 68 7))]) (st' := [.ref 67]) (h' := h) rfl ?_
    refine mX_ckct (m := mcl (mE mtab d 194 [.ref 67] h) 0 35 [some (.ref 67), some (.int l1), some (.int l2), some (.int l3), some (.int (gI h 68 7))] []) (k_67 L) rfl ?_
    refine mk_cVe (o := F_X11_anew d h) ?_
    intro wh8 h8 eh8
    have L8 : lay h8 := lay_call d 194 [.ref 67] h _ h8 rfl eh8 L
    refine mX_to 2 (k' := 37) (ls' := [some (.ref 67), some (.int l1), some (.int l2), some (.int l3), some (.int (gI h 68 7))]) (st' := [.int (gI h 68 7), .ref 67]) (h' := h8) rfl ?_
    refine mX_ckct (m := mcl (mE mtab d 208 [.ref 67, .int (gI h 68 7)] h8) 0 38 [some (.ref 67), some (.int l1), some (.int l2), some (.int l3), some (.int (gI h 68 7))] []) (k_67 L8) rfl ?_
    refine mk_cVe (o := F_X11_happens d (gI h 68 7) h8) ?_
    intro wh9 h9 eh9
    have L9 : lay h9 := lay_call d 208 [.ref 67, .int (gI h 68 7)] h8 _ h9 rfl eh9 L8
    refine mX_to 2 (k' := 25) (ls' := [some (.ref 67), some (.int l1), some (.int l2), some (.int (l3 + 1)), some (.int (gI h 68 7))]) (st' := []) (h' := h9) rfl ?_
    rfl
  · refine mX_to 1 (k' := 41) (ls' := [some (.ref 67), some (.int l1), some (.int l2), some (.int l3), o4]) (st' := [.ref 67]) (h' := h) rfl ?_
    refine mX_ckv (v := .ref (gR h 67 0)) (v' := .ref 68) (k' := 42) (ls' := [some (.ref 67), some (.int l1), some (.int l2), some (.int l3), o4]) (st' := []) (h' := h) (k_67 L) (congrArg Value.ref (r_67_0 L)) rfl ?_
    refine mX_to 1 (k' := 43) (ls' := [some (.ref 67), some (.int l1), some (.int l2), some (.int l3), o4]) (st' := [.int 6, .ref 68]) (h' := h) rfl ?_
    refine mX_ckv (v := .int (gI h 68 (ix (6 : Int32)))) (v' := .int (gI h 68 6)) (k' := 44) (ls' := [some (.ref 67), some (.int l1), some (.int l2), some (.int l3), o4]) (st' := []) (h' := h) ((ckA1 (k_68 L) (n_68 L)).mpr (ib_lit (n := 6) rfl (by decide) (by decide))) (congrArg (fun j => Value.int (gI h 68 j)) (ix_lit (n := 6) rfl (by decide))) rfl ?_
    exact mX_reti rfl
theorem S_X11_years {h : MH} (L : lay h) (d : Nat) (a1 : Int32) (a2 : Int32) : F_X11_years (d + 1) a1 a2 h = cI (F_X11_isIn d a1 0 9999 h) (fun x2 h1 => (if x2 = 0 then some (.int (-1), h1) else cI (F_X11_isIn d a2 1 40 h1) (fun x4 h3 => (if x4 = 0 then some (.int (-1), h3) else cV (F_X11_keep d h3) (fun h5 => lt_ (sI h5 68 7 ((a1 * 2) + 349)) fun h7 => G_X11_years_25 d a1 a2 0 none h7))))) := by
  refine mE_eq (q := (yX11_years, cX11_years, 5, (some .int), KX11_years)) (C := KX11_years) (ls := [some (.ref 67), some (.int a1), some (.int a2), none, none]) rfl rfl rfl rfl ?_
  refine mX_to 3 (k' := 3) (ls' := [some (.ref 67), some (.int a1), some (.int a2), none, none]) (st' := [.int 9999, .int 0, .int a1]) (h' := h) rfl ?_
  refine mX_cIe (o := F_X11_isIn d a1 0 9999 h) (k' := 4) (ls' := [some (.ref 67), some (.int a1), some (.int a2), none, none]) (st' := []) rfl ?_
  intro x2 h1 eh1
  have L1 : lay h1 := lay_call d 14 [.int a1, .int 0, .int 9999] h _ h1 rfl eh1 L
  refine mX_br (t := 10) (f := 5) (ls' := [some (.ref 67), some (.int a1), some (.int a2), none, none]) (st' := []) (h' := h1) rfl ?_ ?_
  · refine mX_to 1 (k' := 11) (ls' := [some (.ref 67), some (.int a1), some (.int a2), none, none]) (st' := [.int (-1)]) (h' := h1) rfl ?_
    exact mX_reti rfl
  · refine mX_to 3 (k' := 8) (ls' := [some (.ref 67), some (.int a1), some (.int a2), none, none]) (st' := [.int 40, .int 1, .int a2]) (h' := h1) rfl ?_
    refine mX_cIe (o := F_X11_isIn d a2 1 40 h1) (k' := 9) (ls' := [some (.ref 67), some (.int a1), some (.int a2), none, none]) (st' := []) rfl ?_
    intro x4 h3 eh3
    have L3 : lay h3 := lay_call d 14 [.int a2, .int 1, .int 40] h1 _ h3 rfl eh3 L1
    refine mX_br (t := 10) (f := 12) (ls' := [some (.ref 67), some (.int a1), some (.int a2), none, none]) (st' := []) (h' := h3) rfl ?_ ?_
    · refine mX_to 1 (k' := 11) (ls' := [some (.ref 67), some (.int a1), some (.int a2), none, none]) (st' := [.int (-1)]) (h' := h3) rfl ?_
      exact mX_reti rfl
    · refine mX_to 1 (k' := 13) (ls' := [some (.ref 67), some (.int a1), some (.int a2), none, none]) (st' := [.ref 67]) (h' := h3) rfl ?_
      refine mX_ckct (m := mcl (mE mtab d 175 [.ref 67] h3) 0 14 [some (.ref 67), some (.int a1), some (.int a2), none, none] []) (k_67 L3) rfl ?_
      refine mk_cVe (o := F_X11_keep d h3) ?_
      intro wh5 h5 eh5
      have L5 : lay h5 := lay_call d 175 [.ref 67] h3 _ h5 rfl eh5 L3
      refine mX_to 1 (k' := 15) (ls' := [some (.ref 67), some (.int a1), some (.int a2), none, none]) (st' := [.ref 67]) (h' := h5) rfl ?_
      refine mX_ckv (v := .ref (gR h5 67 0)) (v' := .ref 68) (k' := 16) (ls' := [some (.ref 67), some (.int a1), some (.int a2), none, none]) (st' := []) (h' := h5) (k_67 L5) (congrArg Value.ref (r_67_0 L5)) rfl ?_
      refine mX_to 6 (k' := 22) (ls' := [some (.ref 67), some (.int a1), some (.int a2), none, none]) (st' := [.int ((a1 * 2) + 349), .int 7, .ref 68]) (h' := h5) rfl ?_
      refine mX_ckt (k' := 23) (ls' := [some (.ref 67), some (.int a1), some (.int a2), none, none]) (st' := []) (h' := (sI h5 68 (ix (7 : Int32)) ((a1 * 2) + 349))) ((ckA0 (k_68 L5) (n_68 L5)).mpr (ib_lit (n := 7) rfl (by decide) (by decide))) rfl ?_
      refine lt_geq2 (X := fun h7 : MH => mX (mE mtab d) KX11_years 23 [some (.ref 67), some (.int a1), some (.int a2), none, none] [] h7) (a := (sI h5 68 (ix (7 : Int32)) ((a1 * 2) + 349))) (a' := (sI h5 68 7 ((a1 * 2) + 349))) (congrArg (fun j => sI h5 68 j ((a1 * 2) + 349)) (ix_lit (n := 7) rfl (by decide))) fun h7 eh7 => ?_
      have L7 : lay h7 := eh7 ▸ layI L5 (by decide)
      refine mX_to 2 (k' := 25) (ls' := [some (.ref 67), some (.int a1), some (.int a2), some (.int 0), none]) (st' := []) (h' := h7) rfl ?_
      rfl
theorem S_X6_takeBack {h : MH} (L : lay h) (d : Nat) : F_X6_takeBack (d + 1) h = (if (gI h 17 2) = 0 then some (.int (-1), h) else lt_ (sI h 17 2 ((gI h 17 2) - 1)) fun h2 => lt_ ((((gI h2 17 1) + (gI h2 17 2)) - ((gI h2 17 1) + (gI h2 17 2)) / 31 * 31) * 47) fun v3 => ck (ib (v3 + 1) 1457) (lt_ (sI h2 10 5 (gI h2 18 (ix (v3 + 1)))) fun h5 => ck (ib (v3 + 2) 1457) (lt_ (sI h5 10 6 (gI h5 18 (ix (v3 + 2)))) fun h7 => ck (ib (v3 + 3) 1457) (lt_ (sI h7 10 8 (gI h7 18 (ix (v3 + 3)))) fun h9 => ck (ib v3 1457) (ck (¬ (v3 + 4) < 0 ∧ ¬ (0 : Int32) < 0 ∧ ¬ (gI h9 18 (ix v3)) < 0 ∧ ix (v3 + 4) + ix (gI h9 18 (ix v3)) ≤ 1457 ∧ ix (0 : Int32) + ix (gI h9 18 (ix v3)) ≤ 4) (lt_ (rI h9 12 (va_cpy (gI h9 18) (gI h9 12) (ix (v3 + 4)) (ix (0 : Int32)) (ix (gI h9 18 (ix v3))))) fun h11 => ck (¬ ((v3 + 4) + 4) < 0 ∧ ¬ (0 : Int32) < 0 ∧ ¬ (9 : Int32) < 0 ∧ ix ((v3 + 4) + 4) + ix (9 : Int32) ≤ 1457 ∧ ix (0 : Int32) + ix (9 : Int32) ≤ 9) (lt_ (rI h11 14 (va_cpy (gI h11 18) (gI h11 14) (ix ((v3 + 4) + 4)) (ix (0 : Int32)) (ix (9 : Int32)))) fun h13 => ck (¬ (((v3 + 4) + 4) + 9) < 0 ∧ ¬ (0 : Int32) < 0 ∧ ¬ (30 : Int32) < 0 ∧ ix (((v3 + 4) + 4) + 9) + ix (30 : Int32) ≤ 1457 ∧ ix (0 : Int32) + ix (30 : Int32) ≤ 30) (lt_ (rI h13 15 (va_cpy (gI h13 18) (gI h13 15) (ix (((v3 + 4) + 4) + 9)) (ix (0 : Int32)) (ix (30 : Int32)))) fun h15 => some (.int (gI h15 17 2), h15))))))))) := by
  refine mE_eq (q := (yX6_takeBack, cX6_takeBack, 3, (some .int), KX6_takeBack)) (C := KX6_takeBack) (ls := [some (.ref 17), some (.ref 10), none]) rfl rfl rfl rfl ?_
  refine mX_to 1 (k' := 1) (ls' := [some (.ref 17), some (.ref 10), none]) (st' := [.ref 17]) (h' := h) rfl ?_
  refine mX_ckv (v := .int (gI h 17 2)) (v' := .int (gI h 17 2)) (k' := 2) (ls' := [some (.ref 17), some (.ref 10), none]) (st' := []) (h' := h) (k_17 L) rfl rfl ?_
  refine mX_br (t := 3) (f := 5) (ls' := [some (.ref 17), some (.ref 10), none]) (st' := []) (h' := h) rfl ?_ ?_
  · refine mX_to 1 (k' := 4) (ls' := [some (.ref 17), some (.ref 10), none]) (st' := [.int (-1)]) (h' := h) rfl ?_
    exact mX_reti rfl
  · refine mX_to 2 (k' := 7) (ls' := [some (.ref 17), some (.ref 10), none]) (st' := [.ref 17, .ref 17]) (h' := h) rfl ?_
    refine mX_ckv (v := .int (gI h 17 2)) (v' := .int (gI h 17 2)) (k' := 8) (ls' := [some (.ref 17), some (.ref 10), none]) (st' := [.ref 17]) (h' := h) (k_17 L) rfl rfl ?_
    refine mX_to 2 (k' := 10) (ls' := [some (.ref 17), some (.ref 10), none]) (st' := [.int ((gI h 17 2) - 1), .ref 17]) (h' := h) rfl ?_
    refine mX_ckt (k' := 11) (ls' := [some (.ref 17), some (.ref 10), none]) (st' := []) (h' := (sI h 17 2 ((gI h 17 2) - 1))) (k_17 L) rfl ?_
    refine lt_geq2 (X := fun h2 : MH => mX (mE mtab d) KX6_takeBack 11 [some (.ref 17), some (.ref 10), none] [] h2) (a := (sI h 17 2 ((gI h 17 2) - 1))) (a' := (sI h 17 2 ((gI h 17 2) - 1))) rfl fun h2 eh2 => ?_
    have L2 : lay h2 := eh2 ▸ layI L (by decide)
    refine mX_to 1 (k' := 12) (ls' := [some (.ref 17), some (.ref 10), none]) (st' := [.ref 17]) (h' := h2) rfl ?_
    refine mX_ckv (v := .int (gI h2 17 1)) (v' := .int (gI h2 17 1)) (k' := 13) (ls' := [some (.ref 17), some (.ref 10), none]) (st' := []) (h' := h2) (k_17 L2) rfl rfl ?_
    refine mX_to 1 (k' := 14) (ls' := [some (.ref 17), some (.ref 10), none]) (st' := [.ref 17, .int (gI h2 17 1)]) (h' := h2) rfl ?_
    refine mX_ckv (v := .int (gI h2 17 2)) (v' := .int (gI h2 17 2)) (k' := 15) (ls' := [some (.ref 17), some (.ref 10), none]) (st' := [.int (gI h2 17 1)]) (h' := h2) (k_17 L2) rfl rfl ?_
    refine mX_to 2 (k' := 17) (ls' := [some (.ref 17), some (.ref 10), none]) (st' := [.int 31, .int ((gI h2 17 1) + (gI h2 17 2))]) (h' := h2) rfl ?_
    refine mX_ckt (c := ¬ (31 : Int32) = 0) (k' := 18) (ls' := [some (.ref 17), some (.ref 10), none]) (st' := [.int (((gI h2 17 1) + (gI h2 17 2)) - ((gI h2 17 1) + (gI h2 17 2)) / 31 * 31)]) (h' := h2) (by decide) rfl ?_
    refine mX_to 2 (k' := 20) (ls' := [some (.ref 17), some (.ref 10), none]) (st' := [.int ((((gI h2 17 1) + (gI h2 17 2)) - ((gI h2 17 1) + (gI h2 17 2)) / 31 * 31) * 47)]) (h' := h2) rfl ?_
    refine lt_gen (X := fun v3 : Int32 => mX (mE mtab d) KX6_takeBack 20 [some (.ref 17), some (.ref 10), none] [.int v3] h2) fun v3 => ?_
    refine mX_to 3 (k' := 23) (ls' := [some (.ref 17), some (.ref 10), some (.int v3)]) (st' := [.ref 17, .ref 10]) (h' := h2) rfl ?_
    refine mX_ckv (v := .ref (gR h2 17 0)) (v' := .ref 18) (k' := 24) (ls' := [some (.ref 17), some (.ref 10), some (.int v3)]) (st' := [.ref 10]) (h' := h2) (k_17 L2) (congrArg Value.ref (r_17_0 L2)) rfl ?_
    refine mX_to 3 (k' := 27) (ls' := [some (.ref 17), some (.ref 10), some (.int v3)]) (st' := [.int (v3 + 1), .ref 18, .ref 10]) (h' := h2) rfl ?_
    refine mX_ckw (v := .int (gI h2 18 (ix (v3 + 1)))) (v' := .int (gI h2 18 (ix (v3 + 1)))) (k' := 28) (ls' := [some (.ref 17), some (.ref 10), some (.int v3)]) (st' := [.ref 10]) (h' := h2) (ckA1 (k_18 L2) (n_18 L2)) rfl rfl fun c19 => ?_
    refine mX_ckt (k' := 29) (ls' := [some (.ref 17), some (.ref 10), some (.int v3)]) (st' := []) (h' := (sI h2 10 5 (gI h2 18 (ix (v3 + 1))))) (k_10 L2) rfl ?_
    refine lt_geq2 (X := fun h5 : MH => mX (mE mtab d) KX6_takeBack 29 [some (.ref 17), some (.ref 10), some (.int v3)] [] h5) (a := (sI h2 10 5 (gI h2 18 (ix (v3 + 1))))) (a' := (sI h2 10 5 (gI h2 18 (ix (v3 + 1))))) rfl fun h5 eh5 => ?_
    have L5 : lay h5 := eh5 ▸ layI L2 (by decide)
    refine mX_to 2 (k' := 31) (ls' := [some (.ref 17), some (.ref 10), some (.int v3)]) (st' := [.ref 17, .ref 10]) (h' := h5) rfl ?_
    refine mX_ckv (v := .ref (gR h5 17 0)) (v' := .ref 18) (k' := 32) (ls' := [some (.ref 17), some (.ref 10), some (.int v3)]) (st' := [.ref 10]) (h' := h5) (k_17 L5) (congrArg Value.ref (r_17_0 L5)) rfl ?_
    refine mX_to 3 (k' := 35) (ls' := [some (.ref 17), some (.ref 10), some (.int v3)]) (st' := [.int (v3 + 2), .ref 18, .ref 10]) (h' := h5) rfl ?_
    refine mX_ckw (v := .int (gI h5 18 (ix (v3 + 2)))) (v' := .int (gI h5 18 (ix (v3 + 2)))) (k' := 36) (ls' := [some (.ref 17), some (.ref 10), some (.int v3)]) (st' := [.ref 10]) (h' := h5) (ckA1 (k_18 L5) (n_18 L5)) rfl rfl fun c18 => ?_
    refine mX_ckt (k' := 37) (ls' := [some (.ref 17), some (.ref 10), some (.int v3)]) (st' := []) (h' := (sI h5 10 6 (gI h5 18 (ix (v3 + 2))))) (k_10 L5) rfl ?_
    refine lt_geq2 (X := fun h7 : MH => mX (mE mtab d) KX6_takeBack 37 [some (.ref 17), some (.ref 10), some (.int v3)] [] h7) (a := (sI h5 10 6 (gI h5 18 (ix (v3 + 2))))) (a' := (sI h5 10 6 (gI h5 18 (ix (v3 + 2))))) rfl fun h7 eh7 => ?_
    have L7 : lay h7 := eh7 ▸ layI L5 (by decide)
    refine mX_to 2 (k' := 39) (ls' := [some (.ref 17), some (.ref 10), some (.int v3)]) (st' := [.ref 17, .ref 10]) (h' := h7) rfl ?_
    refine mX_ckv (v := .ref (gR h7 17 0)) (v' := .ref 18) (k' := 40) (ls' := [some (.ref 17), some (.ref 10), some (.int v3)]) (st' := [.ref 10]) (h' := h7) (k_17 L7) (congrArg Value.ref (r_17_0 L7)) rfl ?_
    refine mX_to 3 (k' := 43) (ls' := [some (.ref 17), some (.ref 10), some (.int v3)]) (st' := [.int (v3 + 3), .ref 18, .ref 10]) (h' := h7) rfl ?_
    refine mX_ckw (v := .int (gI h7 18 (ix (v3 + 3)))) (v' := .int (gI h7 18 (ix (v3 + 3)))) (k' := 44) (ls' := [some (.ref 17), some (.ref 10), some (.int v3)]) (st' := [.ref 10]) (h' := h7) (ckA1 (k_18 L7) (n_18 L7)) rfl rfl fun c17 => ?_
    refine mX_ckt (k' := 45) (ls' := [some (.ref 17), some (.ref 10), some (.int v3)]) (st' := []) (h' := (sI h7 10 8 (gI h7 18 (ix (v3 + 3))))) (k_10 L7) rfl ?_
    refine lt_geq2 (X := fun h9 : MH => mX (mE mtab d) KX6_takeBack 45 [some (.ref 17), some (.ref 10), some (.int v3)] [] h9) (a := (sI h7 10 8 (gI h7 18 (ix (v3 + 3))))) (a' := (sI h7 10 8 (gI h7 18 (ix (v3 + 3))))) rfl fun h9 eh9 => ?_
    have L9 : lay h9 := eh9 ▸ layI L7 (by decide)
    refine mX_to 1 (k' := 46) (ls' := [some (.ref 17), some (.ref 10), some (.int v3)]) (st' := [.ref 17]) (h' := h9) rfl ?_
    refine mX_ckv (v := .ref (gR h9 17 0)) (v' := .ref 18) (k' := 47) (ls' := [some (.ref 17), some (.ref 10), some (.int v3)]) (st' := []) (h' := h9) (k_17 L9) (congrArg Value.ref (r_17_0 L9)) rfl ?_
    refine mX_to 4 (k' := 51) (ls' := [some (.ref 17), some (.ref 10), some (.int v3)]) (st' := [.ref 10, .int (v3 + 4), .ref 18]) (h' := h9) rfl ?_
    refine mX_ckv (v := .ref (gR h9 10 2)) (v' := .ref 12) (k' := 52) (ls' := [some (.ref 17), some (.ref 10), some (.int v3)]) (st' := [.int (v3 + 4), .ref 18]) (h' := h9) (k_10 L9) (congrArg Value.ref (r_10_2 L9)) rfl ?_
    refine mX_to 2 (k' := 54) (ls' := [some (.ref 17), some (.ref 10), some (.int v3)]) (st' := [.ref 17, .int 0, .ref 12, .int (v3 + 4), .ref 18]) (h' := h9) rfl ?_
    refine mX_ckv (v := .ref (gR h9 17 0)) (v' := .ref 18) (k' := 55) (ls' := [some (.ref 17), some (.ref 10), some (.int v3)]) (st' := [.int 0, .ref 12, .int (v3 + 4), .ref 18]) (h' := h9) (k_17 L9) (congrArg Value.ref (r_17_0 L9)) rfl ?_
    refine mX_to 1 (k' := 56) (ls' := [some (.ref 17), some (.ref 10), some (.int v3)]) (st' := [.int v3, .ref 18, .int 0, .ref 12, .int (v3 + 4), .ref 18]) (h' := h9) rfl ?_
    refine mX_ckw (v := .int (gI h9 18 (ix v3))) (v' := .int (gI h9 18 (ix v3))) (k' := 57) (ls' := [some (.ref 17), some (.ref 10), some (.int v3)]) (st' := [.int 0, .ref 12, .int (v3 + 4), .ref 18]) (h' := h9) (ckA1 (k_18 L9) (n_18 L9)) rfl rfl fun c16 => ?_
    refine mX_cki (k' := 58) (ls' := [some (.ref 17), some (.ref 10), some (.int v3)]) (st' := []) (h' := (rI h9 12 (va_cpy (gI h9 18) (gI h9 12) (ix (v3 + 4)) (ix (0 : Int32)) (ix (gI h9 18 (ix v3)))))) (ckD (k_18 L9) (k_12 L9) (n_18 L9) (n_12 L9)) rfl fun c10 => ?_
    refine lt_geq2 (X := fun h11 : MH => mX (mE mtab d) KX6_takeBack 58 [some (.ref 17), some (.ref 10), some (.int v3)] [] h11) (a := (rI h9 12 (va_cpy (gI h9 18) (gI h9 12) (ix (v3 + 4)) (ix (0 : Int32)) (ix (gI h9 18 (ix v3)))))) (a' := (rI h9 12 (va_cpy (gI h9 18) (gI h9 12) (ix (v3 + 4)) (ix (0 : Int32)) (ix (gI h9 18 (ix v3)))))) rfl fun h11 eh11 => ?_
    have L11 : lay h11 := eh11 ▸ lay_rI L9 (by decide)
    refine mX_to 1 (k' := 59) (ls' := [some (.ref 17), some (.ref 10), some (.int v3)]) (st' := [.ref 17]) (h' := h11) rfl ?_
    refine mX_ckv (v := .ref (gR h11 17 0)) (v' := .ref 18) (k' := 60) (ls' := [some (.ref 17), some (.ref 10), some (.int v3)]) (st' := []) (h' := h11) (k_17 L11) (congrArg Value.ref (r_17_0 L11)) rfl ?_
    refine mX_to 6 (k' := 66) (ls' := [some (.ref 17), some (.ref 10), some (.int v3)]) (st' := [.ref 10, .int ((v3 + 4) + 4), .ref 18]) (h' := h11) rfl ?_
    refine mX_ckv (v := .ref (gR h11 10 4)) (v' := .ref 14) (k' := 67) (ls' := [some (.ref 17), some (.ref 10), some (.int v3)]) (st' := [.int ((v3 + 4) + 4), .ref 18]) (h' := h11) (k_10 L11) (congrArg Value.ref (r_10_4 L11)) rfl ?_
    refine mX_to 2 (k' := 69) (ls' := [some (.ref 17), some (.ref 10), some (.int v3)]) (st' := [.int 9, .int 0, .ref 14, .int ((v3 + 4) + 4), .ref 18]) (h' := h11) rfl ?_
    refine mX_cki (k' := 70) (ls' := [some (.ref 17), some (.ref 10), some (.int v3)]) (st' := []) (h' := (rI h11 14 (va_cpy (gI h11 18) (gI h11 14) (ix ((v3 + 4) + 4)) (ix (0 : Int32)) (ix (9 : Int32))))) (ckD (k_18 L11) (k_14 L11) (n_18 L11) (n_14 L11)) rfl fun c12 => ?_
    refine lt_geq2 (X := fun h13 : MH => mX (mE mtab d) KX6_takeBack 70 [some (.ref 17), some (.ref 10), some (.int v3)] [] h13) (a := (rI h11 14 (va_cpy (gI h11 18) (gI h11 14) (ix ((v3 + 4) + 4)) (ix (0 : Int32)) (ix (9 : Int32))))) (a' := (rI h11 14 (va_cpy (gI h11 18) (gI h11 14) (ix ((v3 + 4) + 4)) (ix (0 : Int32)) (ix (9 : Int32))))) rfl fun h13 eh13 => ?_
    have L13 : lay h13 := eh13 ▸ lay_rI L11 (by decide)
    refine mX_to 1 (k' := 71) (ls' := [some (.ref 17), some (.ref 10), some (.int v3)]) (st' := [.ref 17]) (h' := h13) rfl ?_
    refine mX_ckv (v := .ref (gR h13 17 0)) (v' := .ref 18) (k' := 72) (ls' := [some (.ref 17), some (.ref 10), some (.int v3)]) (st' := []) (h' := h13) (k_17 L13) (congrArg Value.ref (r_17_0 L13)) rfl ?_
    refine mX_to 8 (k' := 80) (ls' := [some (.ref 17), some (.ref 10), some (.int v3)]) (st' := [.ref 10, .int (((v3 + 4) + 4) + 9), .ref 18]) (h' := h13) rfl ?_
    refine mX_ckv (v := .ref (gR h13 10 7)) (v' := .ref 15) (k' := 81) (ls' := [some (.ref 17), some (.ref 10), some (.int v3)]) (st' := [.int (((v3 + 4) + 4) + 9), .ref 18]) (h' := h13) (k_10 L13) (congrArg Value.ref (r_10_7 L13)) rfl ?_
    refine mX_to 2 (k' := 83) (ls' := [some (.ref 17), some (.ref 10), some (.int v3)]) (st' := [.int 30, .int 0, .ref 15, .int (((v3 + 4) + 4) + 9), .ref 18]) (h' := h13) rfl ?_
    refine mX_cki (k' := 84) (ls' := [some (.ref 17), some (.ref 10), some (.int v3)]) (st' := []) (h' := (rI h13 15 (va_cpy (gI h13 18) (gI h13 15) (ix (((v3 + 4) + 4) + 9)) (ix (0 : Int32)) (ix (30 : Int32))))) (ckD (k_18 L13) (k_15 L13) (n_18 L13) (n_15 L13)) rfl fun c14 => ?_
    refine lt_geq2 (X := fun h15 : MH => mX (mE mtab d) KX6_takeBack 84 [some (.ref 17), some (.ref 10), some (.int v3)] [] h15) (a := (rI h13 15 (va_cpy (gI h13 18) (gI h13 15) (ix (((v3 + 4) + 4) + 9)) (ix (0 : Int32)) (ix (30 : Int32))))) (a' := (rI h13 15 (va_cpy (gI h13 18) (gI h13 15) (ix (((v3 + 4) + 4) + 9)) (ix (0 : Int32)) (ix (30 : Int32))))) rfl fun h15 eh15 => ?_
    have L15 : lay h15 := eh15 ▸ lay_rI L13 (by decide)
    refine mX_to 1 (k' := 85) (ls' := [some (.ref 17), some (.ref 10), some (.int v3)]) (st' := [.ref 17]) (h' := h15) rfl ?_
    refine mX_ckv (v := .int (gI h15 17 2)) (v' := .int (gI h15 17 2)) (k' := 86) (ls' := [some (.ref 17), some (.ref 10), some (.int v3)]) (st' := []) (h' := h15) (k_17 L15) rfl rfl ?_
    exact mX_reti rfl
theorem S_X10_undo {h : MH} (L : lay h) (d : Nat) : F_X10_undo (d + 1) h = cI (F_X6_takeBack d h) (fun x2 h1 => some (.int x2, h1)) := by
  refine mE_eq (q := (yX10_undo, cX10_undo, 1, (some .int), KX10_undo)) (C := KX10_undo) (ls := [some (.ref 8)]) rfl rfl rfl rfl ?_
  refine mX_to 1 (k' := 1) (ls' := [some (.ref 8)]) (st' := [.ref 8]) (h' := h) rfl ?_
  refine mX_ckv (v := .ref (gR h 8 0)) (v' := .ref 9) (k' := 2) (ls' := [some (.ref 8)]) (st' := []) (h' := h) (k_8 L) (congrArg Value.ref (r_8_0 L)) rfl ?_
  refine mX_ckv (v := .ref (gR h 9 1)) (v' := .ref 17) (k' := 3) (ls' := [some (.ref 8)]) (st' := []) (h' := h) (k_9 L) (congrArg Value.ref (r_9_1 L)) rfl ?_
  refine mX_to 1 (k' := 4) (ls' := [some (.ref 8)]) (st' := [.ref 8, .ref 17]) (h' := h) rfl ?_
  refine mX_ckv (v := .ref (gR h 8 0)) (v' := .ref 9) (k' := 5) (ls' := [some (.ref 8)]) (st' := [.ref 17]) (h' := h) (k_8 L) (congrArg Value.ref (r_8_0 L)) rfl ?_
  refine mX_ckv (v := .ref (gR h 9 0)) (v' := .ref 10) (k' := 6) (ls' := [some (.ref 8)]) (st' := [.ref 17]) (h' := h) (k_9 L) (congrArg Value.ref (r_9_0 L)) rfl ?_
  refine mX_ckct (m := mcl (mE mtab d 210 [.ref 17, .ref 10] h) 1 7 [some (.ref 8)] []) (k_17 L) rfl ?_
  refine mk_cIe (o := F_X6_takeBack d h) ?_
  intro x2 h1 eh1
  have L1 : lay h1 := lay_call d 210 [.ref 17, .ref 10] h _ h1 rfl eh1 L
  exact mX_reti rfl
theorem S_X11_undo_26 {h : MH} (L : lay h) (d : Nat) (l1 : Int32) (l2 : Int32) : G_X11_undo_26 d l1 l2 h = (if l2 < 16 then ck (ib ((l1 + 1) + l2) 1498) (ck (ib (6 + l2) 1498) (lt_ (sI h 68 (ix (6 + l2)) (gI h 68 (ix ((l1 + 1) + l2)))) fun h5 => G_X11_undo_26 d l1 (l2 + 1) h5)) else ck (ib l1 1498) (lt_ (gI h 68 (ix l1)) fun v7 => G_X11_undo_50 d l1 v7 h)) := by
  refine mX_to 2 (k' := 28) (ls' := [some (.ref 67), some (.int l1), some (.int l2)]) (st' := [.int 16, .int l2]) (h' := h) rfl ?_
  refine mX_br (t := 29) (f := 45) (ls' := [some (.ref 67), some (.int l1), some (.int l2)]) (st' := []) (h' := h) rfl ?_ ?_
  · refine mX_to 1 (k' := 30) (ls' := [some (.ref 67), some (.int l1), some (.int l2)]) (st' := [.ref 67]) (h' := h) rfl ?_
    refine mX_ckv (v := .ref (gR h 67 0)) (v' := .ref 68) (k' := 31) (ls' := [some (.ref 67), some (.int l1), some (.int l2)]) (st' := []) (h' := h) (k_67 L) (congrArg Value.ref (r_67_0 L)) rfl ?_
    refine mX_to 4 (k' := 35) (ls' := [some (.ref 67), some (.int l1), some (.int l2)]) (st' := [.ref 67, .int (6 + l2), .ref 68]) (h' := h) rfl ?_
    refine mX_ckv (v := .ref (gR h 67 0)) (v' := .ref 68) (k' := 36) (ls' := [some (.ref 67), some (.int l1), some (.int l2)]) (st' := [.int (6 + l2), .ref 68]) (h' := h) (k_67 L) (congrArg Value.ref (r_67_0 L)) rfl ?_
    refine mX_to 5 (k' := 41) (ls' := [some (.ref 67), some (.int l1), some (.int l2)]) (st' := [.int ((l1 + 1) + l2), .ref 68, .int (6 + l2), .ref 68]) (h' := h) rfl ?_
    refine mX_ckw (v := .int (gI h 68 (ix ((l1 + 1) + l2)))) (v' := .int (gI h 68 (ix ((l1 + 1) + l2)))) (k' := 42) (ls' := [some (.ref 67), some (.int l1), some (.int l2)]) (st' := [.int (6 + l2), .ref 68]) (h' := h) (ckA1 (k_68 L) (n_68 L)) rfl rfl fun c6 => ?_
    refine mX_cki (k' := 43) (ls' := [some (.ref 67), some (.int l1), some (.int l2)]) (st' := []) (h' := (sI h 68 (ix (6 + l2)) (gI h 68 (ix ((l1 + 1) + l2))))) (ckA0 (k_68 L) (n_68 L)) rfl fun c4 => ?_
    refine lt_geq2 (X := fun h5 : MH => mX (mE mtab d) KX11_undo 43 [some (.ref 67), some (.int l1), some (.int l2)] [] h5) (a := (sI h 68 (ix (6 + l2)) (gI h 68 (ix ((l1 + 1) + l2))))) (a' := (sI h 68 (ix (6 + l2)) (gI h 68 (ix ((l1 + 1) + l2))))) rfl fun h5 eh5 => ?_
    have L5 : lay h5 := eh5 ▸ layI L (by decide)
    refine mX_to 2 (k' := 26) (ls' := [some (.ref 67), some (.int l1), some (.int (l2 + 1))]) (st' := []) (h' := h5) rfl ?_
    rfl
  · refine mX_to 1 (k' := 46) (ls' := [some (.ref 67), some (.int l1), some (.int l2)]) (st' := [.ref 67]) (h' := h) rfl ?_
    refine mX_ckv (v := .ref (gR h 67 0)) (v' := .ref 68) (k' := 47) (ls' := [some (.ref 67), some (.int l1), some (.int l2)]) (st' := []) (h' := h) (k_67 L) (congrArg Value.ref (r_67_0 L)) rfl ?_
    refine mX_to 1 (k' := 48) (ls' := [some (.ref 67), some (.int l1), some (.int l2)]) (st' := [.int l1, .ref 68]) (h' := h) rfl ?_
    refine mX_ckw (v := .int (gI h 68 (ix l1))) (v' := .int (gI h 68 (ix l1))) (k' := 49) (ls' := [some (.ref 67), some (.int l1), some (.int l2)]) (st' := []) (h' := h) (ckA1 (k_68 L) (n_68 L)) rfl rfl fun c8 => ?_
    refine lt_gen (X := fun v7 : Int32 => mX (mE mtab d) KX11_undo 49 [some (.ref 67), some (.int l1), some (.int l2)] [.int v7] h) fun v7 => ?_
    refine mX_to 1 (k' := 50) (ls' := [some (.ref 67), some (.int l1), some (.int v7)]) (st' := []) (h' := h) rfl ?_
    rfl
theorem S_X11_undo_50 {h : MH} (L : lay h) (d : Nat) (l1 : Int32) (l2 : Int32) : G_X11_undo_50 d l1 l2 h = (if l2 < (gI h 68 0) then ck (ib (26 + l2) 1498) (ck (ib (9 + l2) 1498) (lt_ (sI h 68 (ix (9 + l2)) (gI h 68 (ix (26 + l2)))) fun h10 => G_X11_undo_50 d l1 (l2 + 1) h10)) else G_X11_undo_72 d l1 0 h) := by
  refine mX_to 2 (k' := 52) (ls' := [some (.ref 67), some (.int l1), some (.int l2)]) (st' := [.ref 67, .int l2]) (h' := h) rfl ?_
  refine mX_ckv (v := .ref (gR h 67 0)) (v' := .ref 68) (k' := 53) (ls' := [some (.ref 67), some (.int l1), some (.int l2)]) (st' := [.int l2]) (h' := h) (k_67 L) (congrArg Value.ref (r_67_0 L)) rfl ?_
  refine mX_to 1 (k' := 54) (ls' := [some (.ref 67), some (.int l1), some (.int l2)]) (st' := [.int 0, .ref 68, .int l2]) (h' := h) rfl ?_
  refine mX_ckv (v := .int (gI h 68 (ix (0 : Int32)))) (v' := .int (gI h 68 0)) (k' := 55) (ls' := [some (.ref 67), some (.int l1), some (.int l2)]) (st' := [.int l2]) (h' := h) ((ckA1 (k_68 L) (n_68 L)).mpr (ib_lit (n := 0) rfl (by decide) (by decide))) (congrArg (fun j => Value.int (gI h 68 j)) (ix_lit (n := 0) rfl (by decide))) rfl ?_
  refine mX_br (t := 56) (f := 70) (ls' := [some (.ref 67), some (.int l1), some (.int l2)]) (st' := []) (h' := h) rfl ?_ ?_
  · refine mX_to 1 (k' := 57) (ls' := [some (.ref 67), some (.int l1), some (.int l2)]) (st' := [.ref 67]) (h' := h) rfl ?_
    refine mX_ckv (v := .ref (gR h 67 0)) (v' := .ref 68) (k' := 58) (ls' := [some (.ref 67), some (.int l1), some (.int l2)]) (st' := []) (h' := h) (k_67 L) (congrArg Value.ref (r_67_0 L)) rfl ?_
    refine mX_to 4 (k' := 62) (ls' := [some (.ref 67), some (.int l1), some (.int l2)]) (st' := [.ref 67, .int (9 + l2), .ref 68]) (h' := h) rfl ?_
    refine mX_ckv (v := .ref (gR h 67 0)) (v' := .ref 68) (k' := 63) (ls' := [some (.ref 67), some (.int l1), some (.int l2)]) (st' := [.int (9 + l2), .ref 68]) (h' := h) (k_67 L) (congrArg Value.ref (r_67_0 L)) rfl ?_
    refine mX_to 3 (k' := 66) (ls' := [some (.ref 67), some (.int l1), some (.int l2)]) (st' := [.int (26 + l2), .ref 68, .int (9 + l2), .ref 68]) (h' := h) rfl ?_
    refine mX_ckw (v := .int (gI h 68 (ix (26 + l2)))) (v' := .int (gI h 68 (ix (26 + l2)))) (k' := 67) (ls' := [some (.ref 67), some (.int l1), some (.int l2)]) (st' := [.int (9 + l2), .ref 68]) (h' := h) (ckA1 (k_68 L) (n_68 L)) rfl rfl fun c11 => ?_
    refine mX_cki (k' := 68) (ls' := [some (.ref 67), some (.int l1), some (.int l2)]) (st' := []) (h' := (sI h 68 (ix (9 + l2)) (gI h 68 (ix (26 + l2))))) (ckA0 (k_68 L) (n_68 L)) rfl fun c9 => ?_
    refine lt_geq2 (X := fun h10 : MH => mX (mE mtab d) KX11_undo 68 [some (.ref 67), some (.int l1), some (.int l2)] [] h10) (a := (sI h 68 (ix (9 + l2)) (gI h 68 (ix (26 + l2))))) (a' := (sI h 68 (ix (9 + l2)) (gI h 68 (ix (26 + l2))))) rfl fun h10 eh10 => ?_
    have L10 : lay h10 := eh10 ▸ layI L (by decide)
    refine mX_to 2 (k' := 50) (ls' := [some (.ref 67), some (.int l1), some (.int (l2 + 1))]) (st' := []) (h' := h10) rfl ?_
    rfl
  · refine mX_to 2 (k' := 72) (ls' := [some (.ref 67), some (.int l1), some (.int 0)]) (st' := []) (h' := h) rfl ?_
    rfl
theorem S_X11_undo_72 {h : MH} (L : lay h) (d : Nat) (l1 : Int32) (l2 : Int32) : G_X11_undo_72 d l1 l2 h = (if l2 < 30 then ck (ib (((l1 + 1) + 16) + l2) 1498) (ck (ib (1468 + l2) 1498) (lt_ (sI h 68 (ix (1468 + l2)) (gI h 68 (ix (((l1 + 1) + 16) + l2)))) fun h13 => G_X11_undo_72 d l1 (l2 + 1) h13)) else some (.int (gI h 68 4), h)) := by
  refine mX_to 2 (k' := 74) (ls' := [some (.ref 67), some (.int l1), some (.int l2)]) (st' := [.int 30, .int l2]) (h' := h) rfl ?_
  refine mX_br (t := 75) (f := 93) (ls' := [some (.ref 67), some (.int l1), some (.int l2)]) (st' := []) (h' := h) rfl ?_ ?_
  · refine mX_to 1 (k' := 76) (ls' := [some (.ref 67), some (.int l1), some (.int l2)]) (st' := [.ref 67]) (h' := h) rfl ?_
    refine mX_ckv (v := .ref (gR h 67 0)) (v' := .ref 68) (k' := 77) (ls' := [some (.ref 67), some (.int l1), some (.int l2)]) (st' := []) (h' := h) (k_67 L) (congrArg Value.ref (r_67_0 L)) rfl ?_
    refine mX_to 4 (k' := 81) (ls' := [some (.ref 67), some (.int l1), some (.int l2)]) (st' := [.ref 67, .int (1468 + l2), .ref 68]) (h' := h) rfl ?_
    refine mX_ckv (v := .ref (gR h 67 0)) (v' := .ref 68) (k' := 82) (ls' := [some (.ref 67), some (.int l1), some (.int l2)]) (st' := [.int (1468 + l2), .ref 68]) (h' := h) (k_67 L) (congrArg Value.ref (r_67_0 L)) rfl ?_
    refine mX_to 7 (k' := 89) (ls' := [some (.ref 67), some (.int l1), some (.int l2)]) (st' := [.int (((l1 + 1) + 16) + l2), .ref 68, .int (1468 + l2), .ref 68]) (h' := h) rfl ?_
    refine mX_ckw (v := .int (gI h 68 (ix (((l1 + 1) + 16) + l2)))) (v' := .int (gI h 68 (ix (((l1 + 1) + 16) + l2)))) (k' := 90) (ls' := [some (.ref 67), some (.int l1), some (.int l2)]) (st' := [.int (1468 + l2), .ref 68]) (h' := h) (ckA1 (k_68 L) (n_68 L)) rfl rfl fun c14 => ?_
    refine mX_cki (k' := 91) (ls' := [some (.ref 67), some (.int l1), some (.int l2)]) (st' := []) (h' := (sI h 68 (ix (1468 + l2)) (gI h 68 (ix (((l1 + 1) + 16) + l2))))) (ckA0 (k_68 L) (n_68 L)) rfl fun c12 => ?_
    refine lt_geq2 (X := fun h13 : MH => mX (mE mtab d) KX11_undo 91 [some (.ref 67), some (.int l1), some (.int l2)] [] h13) (a := (sI h 68 (ix (1468 + l2)) (gI h 68 (ix (((l1 + 1) + 16) + l2))))) (a' := (sI h 68 (ix (1468 + l2)) (gI h 68 (ix (((l1 + 1) + 16) + l2))))) rfl fun h13 eh13 => ?_
    have L13 : lay h13 := eh13 ▸ layI L (by decide)
    refine mX_to 2 (k' := 72) (ls' := [some (.ref 67), some (.int l1), some (.int (l2 + 1))]) (st' := []) (h' := h13) rfl ?_
    rfl
  · refine mX_to 1 (k' := 94) (ls' := [some (.ref 67), some (.int l1), some (.int l2)]) (st' := [.ref 67]) (h' := h) rfl ?_
    refine mX_ckv (v := .ref (gR h 67 0)) (v' := .ref 68) (k' := 95) (ls' := [some (.ref 67), some (.int l1), some (.int l2)]) (st' := []) (h' := h) (k_67 L) (congrArg Value.ref (r_67_0 L)) rfl ?_
    refine mX_to 1 (k' := 96) (ls' := [some (.ref 67), some (.int l1), some (.int l2)]) (st' := [.int 4, .ref 68]) (h' := h) rfl ?_
    refine mX_ckv (v := .int (gI h 68 (ix (4 : Int32)))) (v' := .int (gI h 68 4)) (k' := 97) (ls' := [some (.ref 67), some (.int l1), some (.int l2)]) (st' := []) (h' := h) ((ckA1 (k_68 L) (n_68 L)).mpr (ib_lit (n := 4) rfl (by decide) (by decide))) (congrArg (fun j => Value.int (gI h 68 j)) (ix_lit (n := 4) rfl (by decide))) rfl ?_
    exact mX_reti rfl
theorem S_X11_undo {h : MH} (L : lay h) (d : Nat) : F_X11_undo (d + 1) h = (if (gI h 68 4) = 0 then some (.int (-1), h) else lt_ (sI h 68 4 ((gI h 68 4) - 1)) fun h2 => lt_ (58 + (47 * (gI h2 68 4))) fun v3 => G_X11_undo_26 d v3 0 h2) := by
  refine mE_eq (q := (yX11_undo, cX11_undo, 3, (some .int), KX11_undo)) (C := KX11_undo) (ls := [some (.ref 67), none, none]) rfl rfl rfl rfl ?_
  refine mX_to 1 (k' := 1) (ls' := [some (.ref 67), none, none]) (st' := [.ref 67]) (h' := h) rfl ?_
  refine mX_ckv (v := .ref (gR h 67 0)) (v' := .ref 68) (k' := 2) (ls' := [some (.ref 67), none, none]) (st' := []) (h' := h) (k_67 L) (congrArg Value.ref (r_67_0 L)) rfl ?_
  refine mX_to 1 (k' := 3) (ls' := [some (.ref 67), none, none]) (st' := [.int 4, .ref 68]) (h' := h) rfl ?_
  refine mX_ckv (v := .int (gI h 68 (ix (4 : Int32)))) (v' := .int (gI h 68 4)) (k' := 4) (ls' := [some (.ref 67), none, none]) (st' := []) (h' := h) ((ckA1 (k_68 L) (n_68 L)).mpr (ib_lit (n := 4) rfl (by decide) (by decide))) (congrArg (fun j => Value.int (gI h 68 j)) (ix_lit (n := 4) rfl (by decide))) rfl ?_
  refine mX_br (t := 5) (f := 7) (ls' := [some (.ref 67), none, none]) (st' := []) (h' := h) rfl ?_ ?_
  · refine mX_to 1 (k' := 6) (ls' := [some (.ref 67), none, none]) (st' := [.int (-1)]) (h' := h) rfl ?_
    exact mX_reti rfl
  · refine mX_to 1 (k' := 8) (ls' := [some (.ref 67), none, none]) (st' := [.ref 67]) (h' := h) rfl ?_
    refine mX_ckv (v := .ref (gR h 67 0)) (v' := .ref 68) (k' := 9) (ls' := [some (.ref 67), none, none]) (st' := []) (h' := h) (k_67 L) (congrArg Value.ref (r_67_0 L)) rfl ?_
    refine mX_to 2 (k' := 11) (ls' := [some (.ref 67), none, none]) (st' := [.int 4, .ref 68, .int 4, .ref 68]) (h' := h) rfl ?_
    refine mX_ckv (v := .int (gI h 68 (ix (4 : Int32)))) (v' := .int (gI h 68 4)) (k' := 12) (ls' := [some (.ref 67), none, none]) (st' := [.int 4, .ref 68]) (h' := h) ((ckA1 (k_68 L) (n_68 L)).mpr (ib_lit (n := 4) rfl (by decide) (by decide))) (congrArg (fun j => Value.int (gI h 68 j)) (ix_lit (n := 4) rfl (by decide))) rfl ?_
    refine mX_to 2 (k' := 14) (ls' := [some (.ref 67), none, none]) (st' := [.int ((gI h 68 4) - 1), .int 4, .ref 68]) (h' := h) rfl ?_
    refine mX_ckt (k' := 15) (ls' := [some (.ref 67), none, none]) (st' := []) (h' := (sI h 68 (ix (4 : Int32)) ((gI h 68 4) - 1))) ((ckA0 (k_68 L) (n_68 L)).mpr (ib_lit (n := 4) rfl (by decide) (by decide))) rfl ?_
    refine lt_geq2 (X := fun h2 : MH => mX (mE mtab d) KX11_undo 15 [some (.ref 67), none, none] [] h2) (a := (sI h 68 (ix (4 : Int32)) ((gI h 68 4) - 1))) (a' := (sI h 68 4 ((gI h 68 4) - 1))) (congrArg (fun j => sI h 68 j ((gI h 68 4) - 1)) (ix_lit (n := 4) rfl (by decide))) fun h2 eh2 => ?_
    have L2 : lay h2 := eh2 ▸ layI L (by decide)
    refine mX_to 3 (k' := 18) (ls' := [some (.ref 67), none, none]) (st' := [.ref 67, .int 47, .int 58]) (h' := h2) rfl ?_
    refine mX_ckv (v := .ref (gR h2 67 0)) (v' := .ref 68) (k' := 19) (ls' := [some (.ref 67), none, none]) (st' := [.int 47, .int 58]) (h' := h2) (k_67 L2) (congrArg Value.ref (r_67_0 L2)) rfl ?_
    refine mX_to 1 (k' := 20) (ls' := [some (.ref 67), none, none]) (st' := [.int 4, .ref 68, .int 47, .int 58]) (h' := h2) rfl ?_
    refine mX_ckv (v := .int (gI h2 68 (ix (4 : Int32)))) (v' := .int (gI h2 68 4)) (k' := 21) (ls' := [some (.ref 67), none, none]) (st' := [.int 47, .int 58]) (h' := h2) ((ckA1 (k_68 L2) (n_68 L2)).mpr (ib_lit (n := 4) rfl (by decide) (by decide))) (congrArg (fun j => Value.int (gI h2 68 j)) (ix_lit (n := 4) rfl (by decide))) rfl ?_
    refine mX_to 2 (k' := 23) (ls' := [some (.ref 67), none, none]) (st' := [.int (58 + (47 * (gI h2 68 4)))]) (h' := h2) rfl ?_
    refine lt_gen (X := fun v3 : Int32 => mX (mE mtab d) KX11_undo 23 [some (.ref 67), none, none] [.int v3] h2) fun v3 => ?_
    refine mX_to 3 (k' := 26) (ls' := [some (.ref 67), some (.int v3), some (.int 0)]) (st' := []) (h' := h2) rfl ?_
    rfl
theorem S_X10_of {h : MH} (L : lay h) (d : Nat) (a1 : Int32) (a2 : Int32) : F_X10_of (d + 1) a1 a2 h = cI (F_X9_has d 10 a1 h) (fun x2 h1 => (if x2 = 0 then some (.int (-2), h1) else (if a2 = 0 then ck (ib a1 4) (some (.int (gI h1 11 (ix a1)), h1)) else (if a2 = 1 then ck (ib a1 4) (some (.int (gI h1 12 (ix a1)), h1)) else (if a2 = 2 then ck (ib a1 4) (some (.int (gI h1 13 (ix a1)), h1)) else (if a2 = 3 then cI (F_X9_slidesBy d 10 (gR h1 10 9) a1 h1) (fun x7 h6 => some (.int x7, h6)) else some (.int (-2), h1))))))) := by
  refine mE_eq (q := (yX10_of, cX10_of, 4, (some .int), KX10_of)) (C := KX10_of) (ls := [some (.ref 8), some (.int a1), some (.int a2), none]) rfl rfl rfl rfl ?_
  refine mX_to 1 (k' := 1) (ls' := [some (.ref 8), some (.int a1), some (.int a2), none]) (st' := [.ref 8]) (h' := h) rfl ?_
  refine mX_ckv (v := .ref (gR h 8 0)) (v' := .ref 9) (k' := 2) (ls' := [some (.ref 8), some (.int a1), some (.int a2), none]) (st' := []) (h' := h) (k_8 L) (congrArg Value.ref (r_8_0 L)) rfl ?_
  refine mX_ckv (v := .ref (gR h 9 0)) (v' := .ref 10) (k' := 3) (ls' := [some (.ref 8), some (.int a1), some (.int a2), none]) (st' := []) (h' := h) (k_9 L) (congrArg Value.ref (r_9_0 L)) rfl ?_
  refine mX_to 3 (k' := 6) (ls' := [some (.ref 8), some (.int a1), some (.int a2), some (.ref 10)]) (st' := [.int a1, .ref 10]) (h' := h) rfl ?_
  refine mX_ckct (m := mcl (mE mtab d 17 [.ref 10, .int a1] h) 1 7 [some (.ref 8), some (.int a1), some (.int a2), some (.ref 10)] []) (k_10 L) rfl ?_
  refine mk_cIe (o := F_X9_has d 10 a1 h) ?_
  intro x2 h1 eh1
  have L1 : lay h1 := lay_call d 17 [.ref 10, .int a1] h _ h1 rfl eh1 L
  refine mX_br (t := 8) (f := 10) (ls' := [some (.ref 8), some (.int a1), some (.int a2), some (.ref 10)]) (st' := []) (h' := h1) rfl ?_ ?_
  · refine mX_to 1 (k' := 9) (ls' := [some (.ref 8), some (.int a1), some (.int a2), some (.ref 10)]) (st' := [.int (-2)]) (h' := h1) rfl ?_
    exact mX_reti rfl
  · refine mX_to 1 (k' := 11) (ls' := [some (.ref 8), some (.int a1), some (.int a2), some (.ref 10)]) (st' := [.int a2]) (h' := h1) rfl ?_
    refine mX_sw (x := a2) (t := 33) (sw := [(0, 12), (1, 17), (2, 22), (3, 27)]) (ls' := [some (.ref 8), some (.int a1), some (.int a2), some (.ref 10)]) (st' := []) (h' := h1) rfl ?_
    refine msw_cons ?_ ?_
    · refine mX_to 1 (k' := 13) (ls' := [some (.ref 8), some (.int a1), some (.int a2), some (.ref 10)]) (st' := [.ref 10]) (h' := h1) rfl ?_
      refine mX_ckv (v := .ref (gR h1 10 1)) (v' := .ref 11) (k' := 14) (ls' := [some (.ref 8), some (.int a1), some (.int a2), some (.ref 10)]) (st' := []) (h' := h1) (k_10 L1) (congrArg Value.ref (r_10_1 L1)) rfl ?_
      refine mX_to 1 (k' := 15) (ls' := [some (.ref 8), some (.int a1), some (.int a2), some (.ref 10)]) (st' := [.int a1, .ref 11]) (h' := h1) rfl ?_
      refine mX_ckw (v := .int (gI h1 11 (ix a1))) (v' := .int (gI h1 11 (ix a1))) (k' := 16) (ls' := [some (.ref 8), some (.int a1), some (.int a2), some (.ref 10)]) (st' := []) (h' := h1) (ckA1 (k_11 L1) (n_11 L1)) rfl rfl fun c3 => ?_
      exact mX_reti rfl
    refine msw_cons ?_ ?_
    · refine mX_to 1 (k' := 18) (ls' := [some (.ref 8), some (.int a1), some (.int a2), some (.ref 10)]) (st' := [.ref 10]) (h' := h1) rfl ?_
      refine mX_ckv (v := .ref (gR h1 10 2)) (v' := .ref 12) (k' := 19) (ls' := [some (.ref 8), some (.int a1), some (.int a2), some (.ref 10)]) (st' := []) (h' := h1) (k_10 L1) (congrArg Value.ref (r_10_2 L1)) rfl ?_
      refine mX_to 1 (k' := 20) (ls' := [some (.ref 8), some (.int a1), some (.int a2), some (.ref 10)]) (st' := [.int a1, .ref 12]) (h' := h1) rfl ?_
      refine mX_ckw (v := .int (gI h1 12 (ix a1))) (v' := .int (gI h1 12 (ix a1))) (k' := 21) (ls' := [some (.ref 8), some (.int a1), some (.int a2), some (.ref 10)]) (st' := []) (h' := h1) (ckA1 (k_12 L1) (n_12 L1)) rfl rfl fun c4 => ?_
      exact mX_reti rfl
    refine msw_cons ?_ ?_
    · refine mX_to 1 (k' := 23) (ls' := [some (.ref 8), some (.int a1), some (.int a2), some (.ref 10)]) (st' := [.ref 10]) (h' := h1) rfl ?_
      refine mX_ckv (v := .ref (gR h1 10 3)) (v' := .ref 13) (k' := 24) (ls' := [some (.ref 8), some (.int a1), some (.int a2), some (.ref 10)]) (st' := []) (h' := h1) (k_10 L1) (congrArg Value.ref (r_10_3 L1)) rfl ?_
      refine mX_to 1 (k' := 25) (ls' := [some (.ref 8), some (.int a1), some (.int a2), some (.ref 10)]) (st' := [.int a1, .ref 13]) (h' := h1) rfl ?_
      refine mX_ckw (v := .int (gI h1 13 (ix a1))) (v' := .int (gI h1 13 (ix a1))) (k' := 26) (ls' := [some (.ref 8), some (.int a1), some (.int a2), some (.ref 10)]) (st' := []) (h' := h1) (ckA1 (k_13 L1) (n_13 L1)) rfl rfl fun c5 => ?_
      exact mX_reti rfl
    refine msw_cons ?_ ?_
    · refine mX_to 2 (k' := 29) (ls' := [some (.ref 8), some (.int a1), some (.int a2), some (.ref 10)]) (st' := [.ref 10, .ref 10]) (h' := h1) rfl ?_
      refine mX_ckv (v := .ref (gR h1 10 9)) (v' := .ref (gR h1 10 9)) (k' := 30) (ls' := [some (.ref 8), some (.int a1), some (.int a2), some (.ref 10)]) (st' := [.ref 10]) (h' := h1) (k_10 L1) rfl rfl ?_
      refine mX_to 1 (k' := 31) (ls' := [some (.ref 8), some (.int a1), some (.int a2), some (.ref 10)]) (st' := [.int a1, .ref (gR h1 10 9), .ref 10]) (h' := h1) rfl ?_
      refine mX_ckct (m := mcl (mE mtab d 188 [.ref 10, .ref (gR h1 10 9), .int a1] h1) 1 32 [some (.ref 8), some (.int a1), some (.int a2), some (.ref 10)] []) (k_10 L1) rfl ?_
      refine mk_cIe (o := F_X9_slidesBy d 10 (gR h1 10 9) a1 h1) ?_
      intro x7 h6 eh6
      have L6 : lay h6 := lay_call d 188 [.ref 10, .ref (gR h1 10 9), .int a1] h1 _ h6 rfl eh6 L1
      exact mX_reti rfl
    refine msw_nil ?_
    refine mX_to 1 (k' := 34) (ls' := [some (.ref 8), some (.int a1), some (.int a2), some (.ref 10)]) (st' := [.int (-2)]) (h' := h1) rfl ?_
    exact mX_reti rfl
