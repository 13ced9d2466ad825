--deps:19.lay 21.facts 22.00.names
/-! EQUATIONS over the fixed cells (written by wip/gen/sgen.py) -/
theorem S_X7_isBlank {h : MH} (L : lay h) (d : Nat) (a0 : Int32) : F_X7_isBlank (d + 1) a0 h = (if a0 = 32 then some (.int 1, h) else (if a0 = 10 then some (.int 1, h) else some (.int 0, h))) := by
  refine mE_eq (q := (yX7_isBlank, cX7_isBlank, 1, (some .boolean), KX7_isBlank)) (C := KX7_isBlank) (ls := [some (.int a0)]) rfl rfl rfl rfl ?_
  refine mX_to 2 (k' := 2) (ls' := [some (.int a0)]) (st' := [.int 32, .int a0]) (h' := h) rfl ?_
  refine mX_br (t := 6) (f := 3) (ls' := [some (.int a0)]) (st' := []) (h' := h) rfl ?_ ?_
  · refine mX_to 2 (k' := 9) (ls' := [some (.int a0)]) (st' := [.int 1]) (h' := h) rfl ?_
    exact mX_retb (by decide) rfl
  · refine mX_to 2 (k' := 5) (ls' := [some (.int a0)]) (st' := [.int 10, .int a0]) (h' := h) rfl ?_
    refine mX_br (t := 6) (f := 8) (ls' := [some (.int a0)]) (st' := []) (h' := h) rfl ?_ ?_
    · refine mX_to 2 (k' := 9) (ls' := [some (.int a0)]) (st' := [.int 1]) (h' := h) rfl ?_
      exact mX_retb (by decide) rfl
    · refine mX_to 1 (k' := 9) (ls' := [some (.int a0)]) (st' := [.int 0]) (h' := h) rfl ?_
      exact mX_retb (by decide) rfl
theorem S_X7_isDigit {h : MH} (L : lay h) (d : Nat) (a0 : Int32) : F_X7_isDigit (d + 1) a0 h = (if a0 < 48 then some (.int 0, h) else (if a0 ≤ 57 then some (.int 1, h) else some (.int 0, h))) := by
  refine mE_eq (q := (yX7_isDigit, cX7_isDigit, 1, (some .boolean), KX7_isDigit)) (C := KX7_isDigit) (ls := [some (.int a0)]) rfl rfl rfl rfl ?_
  refine mX_to 2 (k' := 2) (ls' := [some (.int a0)]) (st' := [.int 48, .int a0]) (h' := h) rfl ?_
  refine mX_br (t := 8) (f := 3) (ls' := [some (.int a0)]) (st' := []) (h' := h) rfl ?_ ?_
  · refine mX_to 1 (k' := 9) (ls' := [some (.int a0)]) (st' := [.int 0]) (h' := h) rfl ?_
    exact mX_retb (by decide) rfl
  · refine mX_to 2 (k' := 5) (ls' := [some (.int a0)]) (st' := [.int 57, .int a0]) (h' := h) rfl ?_
    refine mX_br (t := 6) (f := 8) (ls' := [some (.int a0)]) (st' := []) (h' := h) rfl ?_ ?_
    · refine mX_to 2 (k' := 9) (ls' := [some (.int a0)]) (st' := [.int 1]) (h' := h) rfl ?_
      exact mX_retb (by decide) rfl
    · refine mX_to 1 (k' := 9) (ls' := [some (.int a0)]) (st' := [.int 0]) (h' := h) rfl ?_
      exact mX_retb (by decide) rfl
theorem S_X7_add {h : MH} (L : lay h) (d : Nat) (a1 : Int32) (a2 : Int32) (a3 : Int32) : F_X7_add (d + 1) a1 a2 a3 h = (if (gI h 50 5) ≤ 300 then ck (ib (gI h 50 5) 301) (lt_ (sI h 52 (ix (gI h 50 5)) a1) fun h2 => ck (ib (gI h2 50 5) 301) (lt_ (sI h2 53 (ix (gI h2 50 5)) a2) fun h4 => ck (ib (gI h4 50 5) 301) (lt_ (sI h4 54 (ix (gI h4 50 5)) a3) fun h6 => lt_ (sI h6 50 5 ((gI h6 50 5) + 1)) fun h8 => some (.int 0, h8)))) else some (.int 0, h)) := by
  refine mE_eq (q := (yX7_add, cX7_add, 4, none, KX7_add)) (C := KX7_add) (ls := [some (.ref 50), some (.int a1), some (.int a2), some (.int a3)]) rfl rfl rfl rfl ?_
  refine mX_to 1 (k' := 1) (ls' := [some (.ref 50), some (.int a1), some (.int a2), some (.int a3)]) (st' := [.ref 50]) (h' := h) rfl ?_
  refine mX_ckv (v := .int (gI h 50 5)) (v' := .int (gI h 50 5)) (k' := 2) (ls' := [some (.ref 50), some (.int a1), some (.int a2), some (.int a3)]) (st' := []) (h' := h) (k_50 L) rfl rfl ?_
  refine mX_to 1 (k' := 3) (ls' := [some (.ref 50), some (.int a1), some (.int a2), some (.int a3)]) (st' := [.int 300, .int (gI h 50 5)]) (h' := h) rfl ?_
  refine mX_br (t := 4) (f := 28) (ls' := [some (.ref 50), some (.int a1), some (.int a2), some (.int a3)]) (st' := []) (h' := h) rfl ?_ ?_
  · refine mX_to 1 (k' := 5) (ls' := [some (.ref 50), some (.int a1), some (.int a2), some (.int a3)]) (st' := [.ref 50]) (h' := h) rfl ?_
    refine mX_ckv (v := .ref (gR h 50 2)) (v' := .ref 52) (k' := 6) (ls' := [some (.ref 50), some (.int a1), some (.int a2), some (.int a3)]) (st' := []) (h' := h) (k_50 L) (congrArg Value.ref (r_50_2 L)) rfl ?_
    refine mX_to 1 (k' := 7) (ls' := [some (.ref 50), some (.int a1), some (.int a2), some (.int a3)]) (st' := [.ref 50, .ref 52]) (h' := h) rfl ?_
    refine mX_ckv (v := .int (gI h 50 5)) (v' := .int (gI h 50 5)) (k' := 8) (ls' := [some (.ref 50), some (.int a1), some (.int a2), some (.int a3)]) (st' := [.ref 52]) (h' := h) (k_50 L) rfl rfl ?_
    refine mX_to 1 (k' := 9) (ls' := [some (.ref 50), some (.int a1), some (.int a2), some (.int a3)]) (st' := [.int a1, .int (gI h 50 5), .ref 52]) (h' := h) rfl ?_
    refine mX_cki (k' := 10) (ls' := [some (.ref 50), some (.int a1), some (.int a2), some (.int a3)]) (st' := []) (h' := (sI h 52 (ix (gI h 50 5)) a1)) (ckA0 (k_52 L) (n_52 L)) rfl fun c1 => ?_
    refine lt_geq2 (X := fun h2 : MH => mX (mE mtab d) KX7_add 10 [some (.ref 50), some (.int a1), some (.int a2), some (.int a3)] [] h2) (a := (sI h 52 (ix (gI h 50 5)) a1)) (a' := (sI h 52 (ix (gI h 50 5)) a1)) rfl fun h2 eh2 => ?_
    have L2 : lay h2 := eh2 ▸ layI L (by decide)
    refine mX_to 1 (k' := 11) (ls' := [some (.ref 50), some (.int a1), some (.int a2), some (.int a3)]) (st' := [.ref 50]) (h' := h2) rfl ?_
    refine mX_ckv (v := .ref (gR h2 50 3)) (v' := .ref 53) (k' := 12) (ls' := [some (.ref 50), some (.int a1), some (.int a2), some (.int a3)]) (st' := []) (h' := h2) (k_50 L2) (congrArg Value.ref (r_50_3 L2)) rfl ?_
    refine mX_to 1 (k' := 13) (ls' := [some (.ref 50), some (.int a1), some (.int a2), some (.int a3)]) (st' := [.ref 50, .ref 53]) (h' := h2) rfl ?_
    refine mX_ckv (v := .int (gI h2 50 5)) (v' := .int (gI h2 50 5)) (k' := 14) (ls' := [some (.ref 50), some (.int a1), some (.int a2), some (.int a3)]) (st' := [.ref 53]) (h' := h2) (k_50 L2) rfl rfl ?_
    refine mX_to 1 (k' := 15) (ls' := [some (.ref 50), some (.int a1), some (.int a2), some (.int a3)]) (st' := [.int a2, .int (gI h2 50 5), .ref 53]) (h' := h2) rfl ?_
    refine mX_cki (k' := 16) (ls' := [some (.ref 50), some (.int a1), some (.int a2), some (.int a3)]) (st' := []) (h' := (sI h2 53 (ix (gI h2 50 5)) a2)) (ckA0 (k_53 L2) (n_53 L2)) rfl fun c3 => ?_
    refine lt_geq2 (X := fun h4 : MH => mX (mE mtab d) KX7_add 16 [some (.ref 50), some (.int a1), some (.int a2), some (.int a3)] [] h4) (a := (sI h2 53 (ix (gI h2 50 5)) a2)) (a' := (sI h2 53 (ix (gI h2 50 5)) a2)) rfl fun h4 eh4 => ?_
    have L4 : lay h4 := eh4 ▸ layI L2 (by decide)
    refine mX_to 1 (k' := 17) (ls' := [some (.ref 50), some (.int a1), some (.int a2), some (.int a3)]) (st' := [.ref 50]) (h' := h4) rfl ?_
    refine mX_ckv (v := .ref (gR h4 50 4)) (v' := .ref 54) (k' := 18) (ls' := [some (.ref 50), some (.int a1), some (.int a2), some (.int a3)]) (st' := []) (h' := h4) (k_50 L4) (congrArg Value.ref (r_50_4 L4)) rfl ?_
    refine mX_to 1 (k' := 19) (ls' := [some (.ref 50), some (.int a1), some (.int a2), some (.int a3)]) (st' := [.ref 50, .ref 54]) (h' := h4) rfl ?_
    refine mX_ckv (v := .int (gI h4 50 5)) (v' := .int (gI h4 50 5)) (k' := 20) (ls' := [some (.ref 50), some (.int a1), some (.int a2), some (.int a3)]) (st' := [.ref 54]) (h' := h4) (k_50 L4) rfl rfl ?_
    refine mX_to 1 (k' := 21) (ls' := [some (.ref 50), some (.int a1), some (.int a2), some (.int a3)]) (st' := [.int a3, .int (gI h4 50 5), .ref 54]) (h' := h4) rfl ?_
    refine mX_cki (k' := 22) (ls' := [some (.ref 50), some (.int a1), some (.int a2), some (.int a3)]) (st' := []) (h' := (sI h4 54 (ix (gI h4 50 5)) a3)) (ckA0 (k_54 L4) (n_54 L4)) rfl fun c5 => ?_
    refine lt_geq2 (X := fun h6 : MH => mX (mE mtab d) KX7_add 22 [some (.ref 50), some (.int a1), some (.int a2), some (.int a3)] [] h6) (a := (sI h4 54 (ix (gI h4 50 5)) a3)) (a' := (sI h4 54 (ix (gI h4 50 5)) a3)) rfl fun h6 eh6 => ?_
    have L6 : lay h6 := eh6 ▸ layI L4 (by decide)
    refine mX_to 2 (k' := 24) (ls' := [some (.ref 50), some (.int a1), some (.int a2), some (.int a3)]) (st' := [.ref 50, .ref 50]) (h' := h6) rfl ?_
    refine mX_ckv (v := .int (gI h6 50 5)) (v' := .int (gI h6 50 5)) (k' := 25) (ls' := [some (.ref 50), some (.int a1), some (.int a2), some (.int a3)]) (st' := [.ref 50]) (h' := h6) (k_50 L6) rfl rfl ?_
    refine mX_to 2 (k' := 27) (ls' := [some (.ref 50), some (.int a1), some (.int a2), some (.int a3)]) (st' := [.int ((gI h6 50 5) + 1), .ref 50]) (h' := h6) rfl ?_
    refine mX_ckt (k' := 28) (ls' := [some (.ref 50), some (.int a1), some (.int a2), some (.int a3)]) (st' := []) (h' := (sI h6 50 5 ((gI h6 50 5) + 1))) (k_50 L6) rfl ?_
    refine lt_geq2 (X := fun h8 : MH => mX (mE mtab d) KX7_add 28 [some (.ref 50), some (.int a1), some (.int a2), some (.int a3)] [] h8) (a := (sI h6 50 5 ((gI h6 50 5) + 1))) (a' := (sI h6 50 5 ((gI h6 50 5) + 1))) rfl fun h8 eh8 => ?_
    have L8 : lay h8 := eh8 ▸ layI L6 (by decide)
    exact mX_ret rfl
  · exact mX_ret rfl
theorem S_X7_cutNumber_6 {h : MH} (L : lay h) (d : Nat) (l1 : Int32) (l2 : Int32) (l3 : Int32) (l4 : Int32) : G_X7_cutNumber_6 d l1 l2 l3 l4 h = (if l4 < (gI h 50 1) then ck (ib l4 300) (cI (F_X7_isDigit d (gI h 51 (ix l4)) h) (fun x2 h1 => (if x2 = 0 then G_X7_cutNumber_35 d l1 l2 l3 l4 h1 else ck (ib l4 300) (lt_ (jmin (((l2 * 10) + (gI h1 51 (ix l4))) - 48) 10000) fun v3 => G_X7_cutNumber_6 d l1 v3 (l4 + 1) (l4 + 1) h1)))) else G_X7_cutNumber_35 d l1 l2 l3 l4 h) := by
  refine mX_to 2 (k' := 8) (ls' := [some (.ref 50), some (.int l1), some (.int l2), some (.int l3), some (.int l4)]) (st' := [.ref 50, .int l4]) (h' := h) rfl ?_
  refine mX_ckv (v := .int (gI h 50 1)) (v' := .int (gI h 50 1)) (k' := 9) (ls' := [some (.ref 50), some (.int l1), some (.int l2), some (.int l3), some (.int l4)]) (st' := [.int l4]) (h' := h) (k_50 L) rfl rfl ?_
  refine mX_br (t := 10) (f := 35) (ls' := [some (.ref 50), some (.int l1), some (.int l2), some (.int l3), some (.int l4)]) (st' := []) (h' := h) rfl ?_ ?_
  · refine mX_to 1 (k' := 11) (ls' := [some (.ref 50), some (.int l1), some (.int l2), some (.int l3), some (.int l4)]) (st' := [.ref 50]) (h' := h) rfl ?_
    refine mX_ckv (v := .ref (gR h 50 0)) (v' := .ref 51) (k' := 12) (ls' := [some (.ref 50), some (.int l1), some (.int l2), some (.int l3), some (.int l4)]) (st' := []) (h' := h) (k_50 L) (congrArg Value.ref (r_50_0 L)) rfl ?_
    refine mX_to 1 (k' := 13) (ls' := [some (.ref 50), some (.int l1), some (.int l2), some (.int l3), some (.int l4)]) (st' := [.int l4, .ref 51]) (h' := h) rfl ?_
    refine mX_ckw (v := .int (gI h 51 (ix l4))) (v' := .int (gI h 51 (ix l4))) (k' := 14) (ls' := [some (.ref 50), some (.int l1), some (.int l2), some (.int l3), some (.int l4)]) (st' := []) (h' := h) (ckA1 (k_51 L) (n_51 L)) rfl rfl fun c5 => ?_
    refine mX_cIe (o := F_X7_isDigit d (gI h 51 (ix l4)) h) (k' := 15) (ls' := [some (.ref 50), some (.int l1), some (.int l2), some (.int l3), some (.int l4)]) (st' := []) rfl ?_
    intro x2 h1 eh1
    have L1 : lay h1 := lay_call d 32 [.int (gI h 51 (ix l4))] h _ h1 rfl eh1 L
    refine mX_br (t := 35) (f := 16) (ls' := [some (.ref 50), some (.int l1), some (.int l2), some (.int l3), some (.int l4)]) (st' := []) (h' := h1) rfl ?_ ?_
    · rfl
    · refine mX_to 4 (k' := 20) (ls' := [some (.ref 50), some (.int l1), some (.int l2), some (.int l3), some (.int l4)]) (st' := [.ref 50, .int (l2 * 10)]) (h' := h1) rfl ?_
      refine mX_ckv (v := .ref (gR h1 50 0)) (v' := .ref 51) (k' := 21) (ls' := [some (.ref 50), some (.int l1), some (.int l2), some (.int l3), some (.int l4)]) (st' := [.int (l2 * 10)]) (h' := h1) (k_50 L1) (congrArg Value.ref (r_50_0 L1)) rfl ?_
      refine mX_to 1 (k' := 22) (ls' := [some (.ref 50), some (.int l1), some (.int l2), some (.int l3), some (.int l4)]) (st' := [.int l4, .ref 51, .int (l2 * 10)]) (h' := h1) rfl ?_
      refine mX_ckw (v := .int (gI h1 51 (ix l4))) (v' := .int (gI h1 51 (ix l4))) (k' := 23) (ls' := [some (.ref 50), some (.int l1), some (.int l2), some (.int l3), some (.int l4)]) (st' := [.int (l2 * 10)]) (h' := h1) (ckA1 (k_51 L1) (n_51 L1)) rfl rfl fun c4 => ?_
      refine mX_to 5 (k' := 28) (ls' := [some (.ref 50), some (.int l1), some (.int l2), some (.int l3), some (.int l4)]) (st' := [.int (jmin (((l2 * 10) + (gI h1 51 (ix l4))) - 48) 10000)]) (h' := h1) rfl ?_
      refine lt_gen (X := fun v3 : Int32 => mX (mE mtab d) KX7_cutNumber 28 [some (.ref 50), some (.int l1), some (.int l2), some (.int l3), some (.int l4)] [.int v3] h1) fun v3 => ?_
      refine mX_to 7 (k' := 6) (ls' := [some (.ref 50), some (.int l1), some (.int v3), some (.int (l4 + 1)), some (.int (l4 + 1))]) (st' := []) (h' := h1) rfl ?_
      rfl
  · rfl
theorem S_X7_cutNumber_35 {h : MH} (L : lay h) (d : Nat) (l1 : Int32) (l2 : Int32) (l3 : Int32) (l4 : Int32) : G_X7_cutNumber_35 d l1 l2 l3 l4 h = cV (F_X7_add d 258 l1 l2 h) (fun h6 => some (.int l3, h6)) := by
  refine mX_to 4 (k' := 39) (ls' := [some (.ref 50), some (.int l1), some (.int l2), some (.int l3), some (.int l4)]) (st' := [.int l2, .int l1, .int 258, .ref 50]) (h' := h) rfl ?_
  refine mX_ckct (m := mcl (mE mtab d 33 [.ref 50, .int 258, .int l1, .int l2] h) 0 40 [some (.ref 50), some (.int l1), some (.int l2), some (.int l3), some (.int l4)] []) (k_50 L) rfl ?_
  refine mk_cVe (o := F_X7_add d 258 l1 l2 h) ?_
  intro wh6 h6 eh6
  have L6 : lay h6 := lay_call d 33 [.ref 50, .int 258, .int l1, .int l2] h _ h6 rfl eh6 L
  refine mX_to 1 (k' := 41) (ls' := [some (.ref 50), some (.int l1), some (.int l2), some (.int l3), some (.int l4)]) (st' := [.int l3]) (h' := h6) rfl ?_
  exact mX_reti rfl
theorem S_X7_cutNumber {h : MH} (L : lay h) (d : Nat) (a1 : Int32) : F_X7_cutNumber (d + 1) a1 h = G_X7_cutNumber_6 d a1 0 a1 a1 h := by
  refine mE_eq (q := (yX7_cutNumber, cX7_cutNumber, 5, (some .int), KX7_cutNumber)) (C := KX7_cutNumber) (ls := [some (.ref 50), some (.int a1), none, none, none]) rfl rfl rfl rfl ?_
  refine mX_to 6 (k' := 6) (ls' := [some (.ref 50), some (.int a1), some (.int 0), some (.int a1), some (.int a1)]) (st' := []) (h' := h) rfl ?_
  rfl
theorem S_X7_isLetter_6 {h : MH} (L : lay h) (d : Nat) (l0 : Int32) : G_X7_isLetter_6 d l0 h = (if l0 < 65 then some (.int 0, h) else (if l0 ≤ 90 then some (.int 1, h) else some (.int 0, h))) := by
  refine mX_to 2 (k' := 8) (ls' := [some (.int l0)]) (st' := [.int 65, .int l0]) (h' := h) rfl ?_
  refine mX_br (t := 14) (f := 9) (ls' := [some (.int l0)]) (st' := []) (h' := h) rfl ?_ ?_
  · refine mX_to 1 (k' := 15) (ls' := [some (.int l0)]) (st' := [.int 0]) (h' := h) rfl ?_
    exact mX_retb (by decide) rfl
  · refine mX_to 2 (k' := 11) (ls' := [some (.int l0)]) (st' := [.int 90, .int l0]) (h' := h) rfl ?_
    refine mX_br (t := 12) (f := 14) (ls' := [some (.int l0)]) (st' := []) (h' := h) rfl ?_ ?_
    · refine mX_to 2 (k' := 15) (ls' := [some (.int l0)]) (st' := [.int 1]) (h' := h) rfl ?_
      exact mX_retb (by decide) rfl
    · refine mX_to 1 (k' := 15) (ls' := [some (.int l0)]) (st' := [.int 0]) (h' := h) rfl ?_
      exact mX_retb (by decide) rfl
theorem S_X7_isLetter {h : MH} (L : lay h) (d : Nat) (a0 : Int32) : F_X7_isLetter (d + 1) a0 h = (if a0 < 97 then G_X7_isLetter_6 d a0 h else (if a0 ≤ 122 then some (.int 1, h) else G_X7_isLetter_6 d a0 h)) := by
  refine mE_eq (q := (yX7_isLetter, cX7_isLetter, 1, (some .boolean), KX7_isLetter)) (C := KX7_isLetter) (ls := [some (.int a0)]) rfl rfl rfl rfl ?_
  refine mX_to 2 (k' := 2) (ls' := [some (.int a0)]) (st' := [.int 97, .int a0]) (h' := h) rfl ?_
  refine mX_br (t := 6) (f := 3) (ls' := [some (.int a0)]) (st' := []) (h' := h) rfl ?_ ?_
  · rfl
  · refine mX_to 2 (k' := 5) (ls' := [some (.int a0)]) (st' := [.int 122, .int a0]) (h' := h) rfl ?_
    refine mX_br (t := 12) (f := 6) (ls' := [some (.int a0)]) (st' := []) (h' := h) rfl ?_ ?_
    · refine mX_to 2 (k' := 15) (ls' := [some (.int a0)]) (st' := [.int 1]) (h' := h) rfl ?_
      exact mX_retb (by decide) rfl
    · rfl
theorem S_X7_wordAt_8 {h : MH} (L : lay h) (d : Nat) (l1 : Int32) (l2 : Int32) (l3 : Int32) (l4 : Int32) (l5 : Int32) (l6 : Int32) (o7 : Option Value) : G_X7_wordAt_8 d l1 l2 l3 l4 l5 l6 o7 h = cI (mE mtab d 37 [.ref 4] h) (fun x2 h1 => (if l6 < x2 then cI (mE mtab d 46 [.ref 4, .int l6] h1) (fun x4 h3 => (if x4 = 32 then (if l5 = 0 then G_X7_wordAt_26 d l1 l2 l3 l4 l5 l6 x4 h3 else (if l4 = l2 then some (.int l3, h3) else G_X7_wordAt_26 d l1 l2 l3 l4 l5 l6 x4 h3)) else (if l5 = 0 then G_X7_wordAt_45 d l1 l2 l3 l4 l5 l6 x4 h3 else (if l4 < l2 then ck (ib l4 300) ((if (gI h3 51 (ix l4)) = x4 then G_X7_wordAt_47 d l1 l2 l3 (l4 + 1) l5 l6 x4 h3 else G_X7_wordAt_45 d l1 l2 l3 l4 l5 l6 x4 h3)) else G_X7_wordAt_45 d l1 l2 l3 l4 l5 l6 x4 h3)))) else some (.int 260, h1))) := by
  refine mX_to 2 (k' := 10) (ls' := [some (.ref 50), some (.int l1), some (.int l2), some (.int l3), some (.int l4), some (.int l5), some (.int l6), o7]) (st' := [.ref 4, .int l6]) (h' := h) rfl ?_
  refine mX_ckct (m := mcl (mE mtab d 37 [.ref 4] h) 1 11 [some (.ref 50), some (.int l1), some (.int l2), some (.int l3), some (.int l4), some (.int l5), some (.int l6), o7] [.int l6]) (k_4 L) rfl ?_
  refine mk_cIe (o := mE mtab d 37 [.ref 4] h) ?_
  intro x2 h1 eh1
  have L1 : lay h1 := lay_call d 37 [.ref 4] h _ h1 rfl eh1 L
  refine mX_br (t := 12) (f := 49) (ls' := [some (.ref 50), some (.int l1), some (.int l2), some (.int l3), some (.int l4), some (.int l5), some (.int l6), o7]) (st' := []) (h' := h1) rfl ?_ ?_
  · refine mX_to 2 (k' := 14) (ls' := [some (.ref 50), some (.int l1), some (.int l2), some (.int l3), some (.int l4), some (.int l5), some (.int l6), o7]) (st' := [.int l6, .ref 4]) (h' := h1) rfl ?_
    refine mX_ckct (m := mcl (mE mtab d 46 [.ref 4, .int l6] h1) 1 15 [some (.ref 50), some (.int l1), some (.int l2), some (.int l3), some (.int l4), some (.int l5), some (.int l6), o7] []) (k_4 L1) rfl ?_
    refine mk_cIe (o := mE mtab d 46 [.ref 4, .int l6] h1) ?_
    intro x4 h3 eh3
    have L3 : lay h3 := lay_call d 46 [.ref 4, .int l6] h1 _ h3 rfl eh3 L1
    refine mX_to 3 (k' := 18) (ls' := [some (.ref 50), some (.int l1), some (.int l2), some (.int l3), some (.int l4), some (.int l5), some (.int l6), some (.int x4)]) (st' := [.int 32, .int x4]) (h' := h3) rfl ?_
    refine mX_br (t := 19) (f := 32) (ls' := [some (.ref 50), some (.int l1), some (.int l2), some (.int l3), some (.int l4), some (.int l5), some (.int l6), some (.int x4)]) (st' := []) (h' := h3) rfl ?_ ?_
    · refine mX_to 1 (k' := 20) (ls' := [some (.ref 50), some (.int l1), some (.int l2), some (.int l3), some (.int l4), some (.int l5), some (.int l6), some (.int x4)]) (st' := [.int l5]) (h' := h3) rfl ?_
      refine mX_br (t := 26) (f := 21) (ls' := [some (.ref 50), some (.int l1), some (.int l2), some (.int l3), some (.int l4), some (.int l5), some (.int l6), some (.int x4)]) (st' := []) (h' := h3) rfl ?_ ?_
      · rfl
      · refine mX_to 2 (k' := 23) (ls' := [some (.ref 50), some (.int l1), some (.int l2), some (.int l3), some (.int l4), some (.int l5), some (.int l6), some (.int x4)]) (st' := [.int l2, .int l4]) (h' := h3) rfl ?_
        refine mX_br (t := 24) (f := 26) (ls' := [some (.ref 50), some (.int l1), some (.int l2), some (.int l3), some (.int l4), some (.int l5), some (.int l6), some (.int x4)]) (st' := []) (h' := h3) rfl ?_ ?_
        · refine mX_to 1 (k' := 25) (ls' := [some (.ref 50), some (.int l1), some (.int l2), some (.int l3), some (.int l4), some (.int l5), some (.int l6), some (.int x4)]) (st' := [.int l3]) (h' := h3) rfl ?_
          exact mX_reti rfl
        · rfl
    · refine mX_to 1 (k' := 33) (ls' := [some (.ref 50), some (.int l1), some (.int l2), some (.int l3), some (.int l4), some (.int l5), some (.int l6), some (.int x4)]) (st' := [.int l5]) (h' := h3) rfl ?_
      refine mX_br (t := 45) (f := 34) (ls' := [some (.ref 50), some (.int l1), some (.int l2), some (.int l3), some (.int l4), some (.int l5), some (.int l6), some (.int x4)]) (st' := []) (h' := h3) rfl ?_ ?_
      · rfl
      · refine mX_to 2 (k' := 36) (ls' := [some (.ref 50), some (.int l1), some (.int l2), some (.int l3), some (.int l4), some (.int l5), some (.int l6), some (.int x4)]) (st' := [.int l2, .int l4]) (h' := h3) rfl ?_
        refine mX_br (t := 37) (f := 45) (ls' := [some (.ref 50), some (.int l1), some (.int l2), some (.int l3), some (.int l4), some (.int l5), some (.int l6), some (.int x4)]) (st' := []) (h' := h3) rfl ?_ ?_
        · refine mX_to 1 (k' := 38) (ls' := [some (.ref 50), some (.int l1), some (.int l2), some (.int l3), some (.int l4), some (.int l5), some (.int l6), some (.int x4)]) (st' := [.ref 50]) (h' := h3) rfl ?_
          refine mX_ckv (v := .ref (gR h3 50 0)) (v' := .ref 51) (k' := 39) (ls' := [some (.ref 50), some (.int l1), some (.int l2), some (.int l3), some (.int l4), some (.int l5), some (.int l6), some (.int x4)]) (st' := []) (h' := h3) (k_50 L3) (congrArg Value.ref (r_50_0 L3)) rfl ?_
          refine mX_to 1 (k' := 40) (ls' := [some (.ref 50), some (.int l1), some (.int l2), some (.int l3), some (.int l4), some (.int l5), some (.int l6), some (.int x4)]) (st' := [.int l4, .ref 51]) (h' := h3) rfl ?_
          refine mX_ckw (v := .int (gI h3 51 (ix l4))) (v' := .int (gI h3 51 (ix l4))) (k' := 41) (ls' := [some (.ref 50), some (.int l1), some (.int l2), some (.int l3), some (.int l4), some (.int l5), some (.int l6), some (.int x4)]) (st' := []) (h' := h3) (ckA1 (k_51 L3) (n_51 L3)) rfl rfl fun c5 => ?_
          refine mX_to 1 (k' := 42) (ls' := [some (.ref 50), some (.int l1), some (.int l2), some (.int l3), some (.int l4), some (.int l5), some (.int l6), some (.int x4)]) (st' := [.int x4, .int (gI h3 51 (ix l4))]) (h' := h3) rfl ?_
          refine mX_br (t := 43) (f := 45) (ls' := [some (.ref 50), some (.int l1), some (.int l2), some (.int l3), some (.int l4), some (.int l5), some (.int l6), some (.int x4)]) (st' := []) (h' := h3) rfl ?_ ?_
          · refine mX_to 2 (k' := 47) (ls' := [some (.ref 50), some (.int l1), some (.int l2), some (.int l3), some (.int (l4 + 1)), some (.int l5), some (.int l6), some (.int x4)]) (st' := []) (h' := h3) rfl ?_
            rfl
          · rfl
        · rfl
  · refine mX_to 1 (k' := 50) (ls' := [some (.ref 50), some (.int l1), some (.int l2), some (.int l3), some (.int l4), some (.int l5), some (.int l6), o7]) (st' := [.int 260]) (h' := h1) rfl ?_
    exact mX_reti rfl
theorem S_X7_wordAt_26 {h : MH} (L : lay h) (d : Nat) (l1 : Int32) (l2 : Int32) (l3 : Int32) (l4 : Int32) (l5 : Int32) (l6 : Int32) (l7 : Int32) : G_X7_wordAt_26 d l1 l2 l3 l4 l5 l6 l7 h = G_X7_wordAt_47 d l1 l2 (l3 + 1) l1 1 l6 l7 h := by
  refine mX_to 6 (k' := 47) (ls' := [some (.ref 50), some (.int l1), some (.int l2), some (.int (l3 + 1)), some (.int l1), some (.int 1), some (.int l6), some (.int l7)]) (st' := []) (h' := h) rfl ?_
  rfl
theorem S_X7_wordAt_45 {h : MH} (L : lay h) (d : Nat) (l1 : Int32) (l2 : Int32) (l3 : Int32) (l4 : Int32) (l5 : Int32) (l6 : Int32) (l7 : Int32) : G_X7_wordAt_45 d l1 l2 l3 l4 l5 l6 l7 h = G_X7_wordAt_47 d l1 l2 l3 l4 0 l6 l7 h := by
  refine mX_to 2 (k' := 47) (ls' := [some (.ref 50), some (.int l1), some (.int l2), some (.int l3), some (.int l4), some (.int 0), some (.int l6), some (.int l7)]) (st' := []) (h' := h) rfl ?_
  rfl
theorem S_X7_wordAt_47 {h : MH} (L : lay h) (d : Nat) (l1 : Int32) (l2 : Int32) (l3 : Int32) (l4 : Int32) (l5 : Int32) (l6 : Int32) (l7 : Int32) : G_X7_wordAt_47 d l1 l2 l3 l4 l5 l6 l7 h = G_X7_wordAt_8 d l1 l2 l3 l4 l5 (l6 + 1) (some (.int l7)) h := by
  refine mX_to 2 (k' := 8) (ls' := [some (.ref 50), some (.int l1), some (.int l2), some (.int l3), some (.int l4), some (.int l5), some (.int (l6 + 1)), some (.int l7)]) (st' := []) (h' := h) rfl ?_
  rfl
theorem S_X7_wordAt {h : MH} (L : lay h) (d : Nat) (a1 : Int32) (a2 : Int32) : F_X7_wordAt (d + 1) a1 a2 h = G_X7_wordAt_8 d a1 a2 300 a1 1 0 none h := by
  refine mE_eq (q := (yX7_wordAt, cX7_wordAt, 8, (some .int), KX7_wordAt)) (C := KX7_wordAt) (ls := [some (.ref 50), some (.int a1), some (.int a2), none, none, none, none, none]) rfl rfl rfl rfl ?_
  refine mX_to 8 (k' := 8) (ls' := [some (.ref 50), some (.int a1), some (.int a2), some (.int 300), some (.int a1), some (.int 1), some (.int 0), none]) (st' := []) (h' := h) rfl ?_
  rfl
theorem S_X7_cutWord_4 {h : MH} (L : lay h) (d : Nat) (l1 : Int32) (l2 : Int32) (l3 : Int32) : G_X7_cutWord_4 d l1 l2 l3 h = (if l3 < (gI h 50 1) then ck (ib l3 300) (cI (F_X7_isLetter d (gI h 51 (ix l3)) h) (fun x2 h1 => (if x2 = 0 then G_X7_cutWord_20 d l1 l2 l3 h1 else G_X7_cutWord_4 d l1 (l3 + 1) (l3 + 1) h1))) else G_X7_cutWord_20 d l1 l2 l3 h) := by
  refine mX_to 2 (k' := 6) (ls' := [some (.ref 50), some (.int l1), some (.int l2), some (.int l3)]) (st' := [.ref 50, .int l3]) (h' := h) rfl ?_
  refine mX_ckv (v := .int (gI h 50 1)) (v' := .int (gI h 50 1)) (k' := 7) (ls' := [some (.ref 50), some (.int l1), some (.int l2), some (.int l3)]) (st' := [.int l3]) (h' := h) (k_50 L) rfl rfl ?_
  refine mX_br (t := 8) (f := 20) (ls' := [some (.ref 50), some (.int l1), some (.int l2), some (.int l3)]) (st' := []) (h' := h) rfl ?_ ?_
  · refine mX_to 1 (k' := 9) (ls' := [some (.ref 50), some (.int l1), some (.int l2), some (.int l3)]) (st' := [.ref 50]) (h' := h) rfl ?_
    refine mX_ckv (v := .ref (gR h 50 0)) (v' := .ref 51) (k' := 10) (ls' := [some (.ref 50), some (.int l1), some (.int l2), some (.int l3)]) (st' := []) (h' := h) (k_50 L) (congrArg Value.ref (r_50_0 L)) rfl ?_
    refine mX_to 1 (k' := 11) (ls' := [some (.ref 50), some (.int l1), some (.int l2), some (.int l3)]) (st' := [.int l3, .ref 51]) (h' := h) rfl ?_
    refine mX_ckw (v := .int (gI h 51 (ix l3))) (v' := .int (gI h 51 (ix l3))) (k' := 12) (ls' := [some (.ref 50), some (.int l1), some (.int l2), some (.int l3)]) (st' := []) (h' := h) (ckA1 (k_51 L) (n_51 L)) rfl rfl fun c3 => ?_
    refine mX_cIe (o := F_X7_isLetter d (gI h 51 (ix l3)) h) (k' := 13) (ls' := [some (.ref 50), some (.int l1), some (.int l2), some (.int l3)]) (st' := []) rfl ?_
    intro x2 h1 eh1
    have L1 : lay h1 := lay_call d 35 [.int (gI h 51 (ix l3))] h _ h1 rfl eh1 L
    refine mX_br (t := 20) (f := 14) (ls' := [some (.ref 50), some (.int l1), some (.int l2), some (.int l3)]) (st' := []) (h' := h1) rfl ?_ ?_
    · rfl
    · refine mX_to 6 (k' := 4) (ls' := [some (.ref 50), some (.int l1), some (.int (l3 + 1)), some (.int (l3 + 1))]) (st' := []) (h' := h1) rfl ?_
      rfl
  · rfl
theorem S_X7_cutWord_20 {h : MH} (L : lay h) (d : Nat) (l1 : Int32) (l2 : Int32) (l3 : Int32) : G_X7_cutWord_20 d l1 l2 l3 h = cI (F_X7_wordAt d l1 l2 h) (fun x5 h4 => cV (F_X7_add d x5 l1 0 h4) (fun h6 => some (.int l2, h6))) := by
  refine mX_to 4 (k' := 24) (ls' := [some (.ref 50), some (.int l1), some (.int l2), some (.int l3)]) (st' := [.int l2, .int l1, .ref 50, .ref 50]) (h' := h) rfl ?_
  refine mX_ckct (m := mcl (mE mtab d 47 [.ref 50, .int l1, .int l2] h) 1 25 [some (.ref 50), some (.int l1), some (.int l2), some (.int l3)] [.ref 50]) (k_50 L) rfl ?_
  refine mk_cIe (o := F_X7_wordAt d l1 l2 h) ?_
  intro x5 h4 eh4
  have L4 : lay h4 := lay_call d 47 [.ref 50, .int l1, .int l2] h _ h4 rfl eh4 L
  refine mX_to 2 (k' := 27) (ls' := [some (.ref 50), some (.int l1), some (.int l2), some (.int l3)]) (st' := [.int 0, .int l1, .int x5, .ref 50]) (h' := h4) rfl ?_
  refine mX_ckct (m := mcl (mE mtab d 33 [.ref 50, .int x5, .int l1, .int 0] h4) 0 28 [some (.ref 50), some (.int l1), some (.int l2), some (.int l3)] []) (k_50 L4) rfl ?_
  refine mk_cVe (o := F_X7_add d x5 l1 0 h4) ?_
  intro wh6 h6 eh6
  have L6 : lay h6 := lay_call d 33 [.ref 50, .int x5, .int l1, .int 0] h4 _ h6 rfl eh6 L4
  refine mX_to 1 (k' := 29) (ls' := [some (.ref 50), some (.int l1), some (.int l2), some (.int l3)]) (st' := [.int l2]) (h' := h6) rfl ?_
  exact mX_reti rfl
theorem S_X7_cutWord {h : MH} (L : lay h) (d : Nat) (a1 : Int32) : F_X7_cutWord (d + 1) a1 h = G_X7_cutWord_4 d a1 a1 a1 h := by
  refine mE_eq (q := (yX7_cutWord, cX7_cutWord, 4, (some .int), KX7_cutWord)) (C := KX7_cutWord) (ls := [some (.ref 50), some (.int a1), none, none]) rfl rfl rfl rfl ?_
  refine mX_to 4 (k' := 4) (ls' := [some (.ref 50), some (.int a1), some (.int a1), some (.int a1)]) (st' := []) (h' := h) rfl ?_
  rfl
theorem S_X7_isSign {h : MH} (L : lay h) (d : Nat) (a0 : Int32) : F_X7_isSign (d + 1) a0 h = cI (mE mtab d 63 [.ref 5, .int (((a0 : Int32).toUInt32 % 65536).toInt32)] h) (fun x2 h1 => (if x2 < 0 then some (.int 0, h1) else some (.int 1, h1))) := by
  refine mE_eq (q := (yX7_isSign, cX7_isSign, 1, (some .boolean), KX7_isSign)) (C := KX7_isSign) (ls := [some (.int a0)]) rfl rfl rfl rfl ?_
  refine mX_to 3 (k' := 3) (ls' := [some (.int a0)]) (st' := [.int (((a0 : Int32).toUInt32 % 65536).toInt32), .ref 5]) (h' := h) rfl ?_
  refine mX_ckct (m := mcl (mE mtab d 63 [.ref 5, .int (((a0 : Int32).toUInt32 % 65536).toInt32)] h) 1 4 [some (.int a0)] []) (k_5 L) rfl ?_
  refine mk_cIe (o := mE mtab d 63 [.ref 5, .int (((a0 : Int32).toUInt32 % 65536).toInt32)] h) ?_
  intro x2 h1 eh1
  have L1 : lay h1 := lay_call d 63 [.ref 5, .int (((a0 : Int32).toUInt32 % 65536).toInt32)] h _ h1 rfl eh1 L
  refine mX_br (t := 7) (f := 5) (ls' := [some (.int a0)]) (st' := []) (h' := h1) rfl ?_ ?_
  · refine mX_to 1 (k' := 8) (ls' := [some (.int a0)]) (st' := [.int 0]) (h' := h1) rfl ?_
    exact mX_retb (by decide) rfl
  · refine mX_to 2 (k' := 8) (ls' := [some (.int a0)]) (st' := [.int 1]) (h' := h1) rfl ?_
    exact mX_retb (by decide) rfl
theorem S_X7_cutSign_22 {h : MH} (L : lay h) (d : Nat) (l1 : Int32) (l2 : Int32) (s0 : Int32) : G_X7_cutSign_22 d l1 l2 s0 h = (if s0 = 0 then G_X7_cutSign_45 d l1 l2 s0 h else (if l2 = 60 then G_X7_cutSign_31 d l1 l2 s0 h else (if l2 = 62 then G_X7_cutSign_31 d l1 l2 s0 h else G_X7_cutSign_45 d l1 l2 s0 h))) := by
  refine mX_to 2 (k' := 24) (ls' := [some (.ref 50), some (.int l1), some (.int l2), some (.int s0)]) (st' := [.int s0]) (h' := h) rfl ?_
  refine mX_br (t := 45) (f := 25) (ls' := [some (.ref 50), some (.int l1), some (.int l2), some (.int s0)]) (st' := []) (h' := h) rfl ?_ ?_
  · rfl
  · refine mX_to 2 (k' := 27) (ls' := [some (.ref 50), some (.int l1), some (.int l2), some (.int s0)]) (st' := [.int 60, .int l2]) (h' := h) rfl ?_
    refine mX_br (t := 31) (f := 28) (ls' := [some (.ref 50), some (.int l1), some (.int l2), some (.int s0)]) (st' := []) (h' := h) rfl ?_ ?_
    · rfl
    · refine mX_to 2 (k' := 30) (ls' := [some (.ref 50), some (.int l1), some (.int l2), some (.int s0)]) (st' := [.int 62, .int l2]) (h' := h) rfl ?_
      refine mX_br (t := 31) (f := 45) (ls' := [some (.ref 50), some (.int l1), some (.int l2), some (.int s0)]) (st' := []) (h' := h) rfl ?_ ?_
      · rfl
      · rfl
theorem S_X7_cutSign_21 {h : MH} (L : lay h) (d : Nat) (l1 : Int32) (l2 : Int32) : G_X7_cutSign_21 d l1 l2 h = G_X7_cutSign_22 d l1 l2 0 h := by
  refine mX_to 1 (k' := 22) (ls' := [some (.ref 50), some (.int l1), some (.int l2), none]) (st' := [.int 0]) (h' := h) rfl ?_
  rfl
theorem S_X7_cutSign_45 {h : MH} (L : lay h) (d : Nat) (l1 : Int32) (l2 : Int32) (l3 : Int32) : G_X7_cutSign_45 d l1 l2 l3 h = cI (F_X7_isSign d l2 h) (fun x5 h4 => (if x5 = 0 then G_X7_cutSign_52 d l1 l2 l3 260 h4 else G_X7_cutSign_52 d l1 l2 l3 l2 h4)) := by
  refine mX_to 2 (k' := 47) (ls' := [some (.ref 50), some (.int l1), some (.int l2), some (.int l3)]) (st' := [.int l2, .ref 50]) (h' := h) rfl ?_
  refine mX_cIe (o := F_X7_isSign d l2 h) (k' := 48) (ls' := [some (.ref 50), some (.int l1), some (.int l2), some (.int l3)]) (st' := [.ref 50]) rfl ?_
  intro x5 h4 eh4
  have L4 : lay h4 := lay_call d 64 [.int l2] h _ h4 rfl eh4 L
  refine mX_br (t := 51) (f := 49) (ls' := [some (.ref 50), some (.int l1), some (.int l2), some (.int l3)]) (st' := [.ref 50]) (h' := h4) rfl ?_ ?_
  · refine mX_to 1 (k' := 52) (ls' := [some (.ref 50), some (.int l1), some (.int l2), some (.int l3)]) (st' := [.int 260, .ref 50]) (h' := h4) rfl ?_
    rfl
  · refine mX_to 2 (k' := 52) (ls' := [some (.ref 50), some (.int l1), some (.int l2), some (.int l3)]) (st' := [.int l2, .ref 50]) (h' := h4) rfl ?_
    rfl
theorem S_X7_cutSign_31 {h : MH} (L : lay h) (d : Nat) (l1 : Int32) (l2 : Int32) (l3 : Int32) : G_X7_cutSign_31 d l1 l2 l3 h = (if l2 = 60 then G_X7_cutSign_38 d l1 l2 l3 256 h else G_X7_cutSign_38 d l1 l2 l3 257 h) := by
  refine mX_to 3 (k' := 34) (ls' := [some (.ref 50), some (.int l1), some (.int l2), some (.int l3)]) (st' := [.int 60, .int l2, .ref 50]) (h' := h) rfl ?_
  refine mX_br (t := 35) (f := 37) (ls' := [some (.ref 50), some (.int l1), some (.int l2), some (.int l3)]) (st' := [.ref 50]) (h' := h) rfl ?_ ?_
  · refine mX_to 2 (k' := 38) (ls' := [some (.ref 50), some (.int l1), some (.int l2), some (.int l3)]) (st' := [.int 256, .ref 50]) (h' := h) rfl ?_
    rfl
  · refine mX_to 1 (k' := 38) (ls' := [some (.ref 50), some (.int l1), some (.int l2), some (.int l3)]) (st' := [.int 257, .ref 50]) (h' := h) rfl ?_
    rfl
theorem S_X7_cutSign_52 {h : MH} (L : lay h) (d : Nat) (l1 : Int32) (l2 : Int32) (l3 : Int32) (s0 : Int32) : G_X7_cutSign_52 d l1 l2 l3 s0 h = cV (F_X7_add d s0 l1 0 h) (fun h6 => some (.int (l1 + 1), h6)) := by
  refine mX_to 2 (k' := 54) (ls' := [some (.ref 50), some (.int l1), some (.int l2), some (.int l3)]) (st' := [.int 0, .int l1, .int s0, .ref 50]) (h' := h) rfl ?_
  refine mX_ckct (m := mcl (mE mtab d 33 [.ref 50, .int s0, .int l1, .int 0] h) 0 55 [some (.ref 50), some (.int l1), some (.int l2), some (.int l3)] []) (k_50 L) rfl ?_
  refine mk_cVe (o := F_X7_add d s0 l1 0 h) ?_
  intro wh6 h6 eh6
  have L6 : lay h6 := lay_call d 33 [.ref 50, .int s0, .int l1, .int 0] h _ h6 rfl eh6 L
  refine mX_to 3 (k' := 58) (ls' := [some (.ref 50), some (.int l1), some (.int l2), some (.int l3)]) (st' := [.int (l1 + 1)]) (h' := h6) rfl ?_
  exact mX_reti rfl
theorem S_X7_cutSign_38 {h : MH} (L : lay h) (d : Nat) (l1 : Int32) (l2 : Int32) (l3 : Int32) (s0 : Int32) : G_X7_cutSign_38 d l1 l2 l3 s0 h = cV (F_X7_add d s0 l1 0 h) (fun h7 => some (.int (l1 + 2), h7)) := by
  refine mX_to 2 (k' := 40) (ls' := [some (.ref 50), some (.int l1), some (.int l2), some (.int l3)]) (st' := [.int 0, .int l1, .int s0, .ref 50]) (h' := h) rfl ?_
  refine mX_ckct (m := mcl (mE mtab d 33 [.ref 50, .int s0, .int l1, .int 0] h) 0 41 [some (.ref 50), some (.int l1), some (.int l2), some (.int l3)] []) (k_50 L) rfl ?_
  refine mk_cVe (o := F_X7_add d s0 l1 0 h) ?_
  intro wh7 h7 eh7
  have L7 : lay h7 := lay_call d 33 [.ref 50, .int s0, .int l1, .int 0] h _ h7 rfl eh7 L
  refine mX_to 3 (k' := 44) (ls' := [some (.ref 50), some (.int l1), some (.int l2), some (.int l3)]) (st' := [.int (l1 + 2)]) (h' := h7) rfl ?_
  exact mX_reti rfl
theorem S_X7_cutSign {h : MH} (L : lay h) (d : Nat) (a1 : Int32) : F_X7_cutSign (d + 1) a1 h = ck (ib a1 300) (lt_ (gI h 51 (ix a1)) fun v1 => (if (a1 + 1) < (gI h 50 1) then ck (ib (a1 + 1) 300) ((if (gI h 51 (ix (a1 + 1))) = 61 then G_X7_cutSign_22 d a1 v1 1 h else G_X7_cutSign_21 d a1 v1 h)) else G_X7_cutSign_21 d a1 v1 h)) := by
  refine mE_eq (q := (yX7_cutSign, cX7_cutSign, 4, (some .int), KX7_cutSign)) (C := KX7_cutSign) (ls := [some (.ref 50), some (.int a1), none, none]) rfl rfl rfl rfl ?_
  refine mX_to 1 (k' := 1) (ls' := [some (.ref 50), some (.int a1), none, none]) (st' := [.ref 50]) (h' := h) rfl ?_
  refine mX_ckv (v := .ref (gR h 50 0)) (v' := .ref 51) (k' := 2) (ls' := [some (.ref 50), some (.int a1), none, none]) (st' := []) (h' := h) (k_50 L) (congrArg Value.ref (r_50_0 L)) rfl ?_
  refine mX_to 1 (k' := 3) (ls' := [some (.ref 50), some (.int a1), none, none]) (st' := [.int a1, .ref 51]) (h' := h) rfl ?_
  refine mX_ckw (v := .int (gI h 51 (ix a1))) (v' := .int (gI h 51 (ix a1))) (k' := 4) (ls' := [some (.ref 50), some (.int a1), none, none]) (st' := []) (h' := h) (ckA1 (k_51 L) (n_51 L)) rfl rfl fun c3 => ?_
  refine lt_gen (X := fun v1 : Int32 => mX (mE mtab d) KX7_cutSign 4 [some (.ref 50), some (.int a1), none, none] [.int v1] h) fun v1 => ?_
  refine mX_to 5 (k' := 9) (ls' := [some (.ref 50), some (.int a1), some (.int v1), none]) (st' := [.ref 50, .int (a1 + 1)]) (h' := h) rfl ?_
  refine mX_ckv (v := .int (gI h 50 1)) (v' := .int (gI h 50 1)) (k' := 10) (ls' := [some (.ref 50), some (.int a1), some (.int v1), none]) (st' := [.int (a1 + 1)]) (h' := h) (k_50 L) rfl rfl ?_
  refine mX_br (t := 11) (f := 21) (ls' := [some (.ref 50), some (.int a1), some (.int v1), none]) (st' := []) (h' := h) rfl ?_ ?_
  · refine mX_to 1 (k' := 12) (ls' := [some (.ref 50), some (.int a1), some (.int v1), none]) (st' := [.ref 50]) (h' := h) rfl ?_
    refine mX_ckv (v := .ref (gR h 50 0)) (v' := .ref 51) (k' := 13) (ls' := [some (.ref 50), some (.int a1), some (.int v1), none]) (st' := []) (h' := h) (k_50 L) (congrArg Value.ref (r_50_0 L)) rfl ?_
    refine mX_to 3 (k' := 16) (ls' := [some (.ref 50), some (.int a1), some (.int v1), none]) (st' := [.int (a1 + 1), .ref 51]) (h' := h) rfl ?_
    refine mX_ckw (v := .int (gI h 51 (ix (a1 + 1)))) (v' := .int (gI h 51 (ix (a1 + 1)))) (k' := 17) (ls' := [some (.ref 50), some (.int a1), some (.int v1), none]) (st' := []) (h' := h) (ckA1 (k_51 L) (n_51 L)) rfl rfl fun c2 => ?_
    refine mX_to 1 (k' := 18) (ls' := [some (.ref 50), some (.int a1), some (.int v1), none]) (st' := [.int 61, .int (gI h 51 (ix (a1 + 1)))]) (h' := h) rfl ?_
    refine mX_br (t := 19) (f := 21) (ls' := [some (.ref 50), some (.int a1), some (.int v1), none]) (st' := []) (h' := h) rfl ?_ ?_
    · refine mX_to 2 (k' := 22) (ls' := [some (.ref 50), some (.int a1), some (.int v1), none]) (st' := [.int 1]) (h' := h) rfl ?_
      rfl
    · rfl
  · rfl
theorem S_X7_cutOne {h : MH} (L : lay h) (d : Nat) (a1 : Int32) : F_X7_cutOne (d + 1) a1 h = ck (ib a1 300) (cI (F_X7_isDigit d (gI h 51 (ix a1)) h) (fun x2 h1 => (if x2 = 0 then ck (ib a1 300) (cI (F_X7_isLetter d (gI h1 51 (ix a1)) h1) (fun x4 h3 => (if x4 = 0 then cI (F_X7_cutSign d a1 h3) (fun x6 h5 => some (.int x6, h5)) else cI (F_X7_cutWord d a1 h3) (fun x8 h7 => some (.int x8, h7))))) else cI (F_X7_cutNumber d a1 h1) (fun x11 h10 => some (.int x11, h10))))) := by
  refine mE_eq (q := (yX7_cutOne, cX7_cutOne, 2, (some .int), KX7_cutOne)) (C := KX7_cutOne) (ls := [some (.ref 50), some (.int a1)]) rfl rfl rfl rfl ?_
  refine mX_to 1 (k' := 1) (ls' := [some (.ref 50), some (.int a1)]) (st' := [.ref 50]) (h' := h) rfl ?_
  refine mX_ckv (v := .ref (gR h 50 0)) (v' := .ref 51) (k' := 2) (ls' := [some (.ref 50), some (.int a1)]) (st' := []) (h' := h) (k_50 L) (congrArg Value.ref (r_50_0 L)) rfl ?_
  refine mX_to 1 (k' := 3) (ls' := [some (.ref 50), some (.int a1)]) (st' := [.int a1, .ref 51]) (h' := h) rfl ?_
  refine mX_ckw (v := .int (gI h 51 (ix a1))) (v' := .int (gI h 51 (ix a1))) (k' := 4) (ls' := [some (.ref 50), some (.int a1)]) (st' := []) (h' := h) (ckA1 (k_51 L) (n_51 L)) rfl rfl fun c12 => ?_
  refine mX_cIe (o := F_X7_isDigit d (gI h 51 (ix a1)) h) (k' := 5) (ls' := [some (.ref 50), some (.int a1)]) (st' := []) rfl ?_
  intro x2 h1 eh1
  have L1 : lay h1 := lay_call d 32 [.int (gI h 51 (ix a1))] h _ h1 rfl eh1 L
  refine mX_br (t := 10) (f := 6) (ls' := [some (.ref 50), some (.int a1)]) (st' := []) (h' := h1) rfl ?_ ?_
  · refine mX_to 1 (k' := 11) (ls' := [some (.ref 50), some (.int a1)]) (st' := [.ref 50]) (h' := h1) rfl ?_
    refine mX_ckv (v := .ref (gR h1 50 0)) (v' := .ref 51) (k' := 12) (ls' := [some (.ref 50), some (.int a1)]) (st' := []) (h' := h1) (k_50 L1) (congrArg Value.ref (r_50_0 L1)) rfl ?_
    refine mX_to 1 (k' := 13) (ls' := [some (.ref 50), some (.int a1)]) (st' := [.int a1, .ref 51]) (h' := h1) rfl ?_
    refine mX_ckw (v := .int (gI h1 51 (ix a1))) (v' := .int (gI h1 51 (ix a1))) (k' := 14) (ls' := [some (.ref 50), some (.int a1)]) (st' := []) (h' := h1) (ckA1 (k_51 L1) (n_51 L1)) rfl rfl fun c9 => ?_
    refine mX_cIe (o := F_X7_isLetter d (gI h1 51 (ix a1)) h1) (k' := 15) (ls' := [some (.ref 50), some (.int a1)]) (st' := []) rfl ?_
    intro x4 h3 eh3
    have L3 : lay h3 := lay_call d 35 [.int (gI h1 51 (ix a1))] h1 _ h3 rfl eh3 L1
    refine mX_br (t := 20) (f := 16) (ls' := [some (.ref 50), some (.int a1)]) (st' := []) (h' := h3) rfl ?_ ?_
    · refine mX_to 2 (k' := 22) (ls' := [some (.ref 50), some (.int a1)]) (st' := [.int a1, .ref 50]) (h' := h3) rfl ?_
      refine mX_ckct (m := mcl (mE mtab d 65 [.ref 50, .int a1] h3) 1 23 [some (.ref 50), some (.int a1)] []) (k_50 L3) rfl ?_
      refine mk_cIe (o := F_X7_cutSign d a1 h3) ?_
      intro x6 h5 eh5
      have L5 : lay h5 := lay_call d 65 [.ref 50, .int a1] h3 _ h5 rfl eh5 L3
      exact mX_reti rfl
    · refine mX_to 2 (k' := 18) (ls' := [some (.ref 50), some (.int a1)]) (st' := [.int a1, .ref 50]) (h' := h3) rfl ?_
      refine mX_ckct (m := mcl (mE mtab d 48 [.ref 50, .int a1] h3) 1 19 [some (.ref 50), some (.int a1)] []) (k_50 L3) rfl ?_
      refine mk_cIe (o := F_X7_cutWord d a1 h3) ?_
      intro x8 h7 eh7
      have L7 : lay h7 := lay_call d 48 [.ref 50, .int a1] h3 _ h7 rfl eh7 L3
      refine mX_to 1 (k' := 23) (ls' := [some (.ref 50), some (.int a1)]) (st' := [.int x8]) (h' := h7) rfl ?_
      exact mX_reti rfl
  · refine mX_to 2 (k' := 8) (ls' := [some (.ref 50), some (.int a1)]) (st' := [.int a1, .ref 50]) (h' := h1) rfl ?_
    refine mX_ckct (m := mcl (mE mtab d 34 [.ref 50, .int a1] h1) 1 9 [some (.ref 50), some (.int a1)] []) (k_50 L1) rfl ?_
    refine mk_cIe (o := F_X7_cutNumber d a1 h1) ?_
    intro x11 h10 eh10
    have L10 : lay h10 := lay_call d 34 [.ref 50, .int a1] h1 _ h10 rfl eh10 L1
    exact mX_reti rfl
theorem S_X7_cut_7 {h : MH} (L : lay h) (d : Nat) (l1 : Int32) (l2 : Int32) : G_X7_cut_7 d l1 l2 h = (if l2 < 300 then (if l1 < (gI h 50 1) then ck (ib l1 300) (cI (F_X7_isBlank d (gI h 51 (ix l1)) h) (fun x4 h3 => (if x4 = 0 then cI (F_X7_cutOne d l1 h3) (fun x6 h5 => G_X7_cut_27 d l1 l2 x6 h5) else G_X7_cut_27 d l1 l2 (l1 + 1) h3))) else G_X7_cut_30 d l1 l2 h) else G_X7_cut_30 d l1 l2 h) := by
  refine mX_to 2 (k' := 9) (ls' := [some (.ref 50), some (.int l1), some (.int l2)]) (st' := [.int 300, .int l2]) (h' := h) rfl ?_
  refine mX_br (t := 10) (f := 30) (ls' := [some (.ref 50), some (.int l1), some (.int l2)]) (st' := []) (h' := h) rfl ?_ ?_
  · refine mX_to 2 (k' := 12) (ls' := [some (.ref 50), some (.int l1), some (.int l2)]) (st' := [.ref 50, .int l1]) (h' := h) rfl ?_
    refine mX_ckv (v := .int (gI h 50 1)) (v' := .int (gI h 50 1)) (k' := 13) (ls' := [some (.ref 50), some (.int l1), some (.int l2)]) (st' := [.int l1]) (h' := h) (k_50 L) rfl rfl ?_
    refine mX_br (t := 14) (f := 30) (ls' := [some (.ref 50), some (.int l1), some (.int l2)]) (st' := []) (h' := h) rfl ?_ ?_
    · refine mX_to 1 (k' := 15) (ls' := [some (.ref 50), some (.int l1), some (.int l2)]) (st' := [.ref 50]) (h' := h) rfl ?_
      refine mX_ckv (v := .ref (gR h 50 0)) (v' := .ref 51) (k' := 16) (ls' := [some (.ref 50), some (.int l1), some (.int l2)]) (st' := []) (h' := h) (k_50 L) (congrArg Value.ref (r_50_0 L)) rfl ?_
      refine mX_to 1 (k' := 17) (ls' := [some (.ref 50), some (.int l1), some (.int l2)]) (st' := [.int l1, .ref 51]) (h' := h) rfl ?_
      refine mX_ckw (v := .int (gI h 51 (ix l1))) (v' := .int (gI h 51 (ix l1))) (k' := 18) (ls' := [some (.ref 50), some (.int l1), some (.int l2)]) (st' := []) (h' := h) (ckA1 (k_51 L) (n_51 L)) rfl rfl fun c7 => ?_
      refine mX_cIe (o := F_X7_isBlank d (gI h 51 (ix l1)) h) (k' := 19) (ls' := [some (.ref 50), some (.int l1), some (.int l2)]) (st' := []) rfl ?_
      intro x4 h3 eh3
      have L3 : lay h3 := lay_call d 31 [.int (gI h 51 (ix l1))] h _ h3 rfl eh3 L
      refine mX_br (t := 24) (f := 20) (ls' := [some (.ref 50), some (.int l1), some (.int l2)]) (st' := []) (h' := h3) rfl ?_ ?_
      · refine mX_to 2 (k' := 26) (ls' := [some (.ref 50), some (.int l1), some (.int l2)]) (st' := [.int l1, .ref 50]) (h' := h3) rfl ?_
        refine mX_ckct (m := mcl (mE mtab d 66 [.ref 50, .int l1] h3) 1 27 [some (.ref 50), some (.int l1), some (.int l2)] []) (k_50 L3) rfl ?_
        refine mk_cIe (o := F_X7_cutOne d l1 h3) ?_
        intro x6 h5 eh5
        have L5 : lay h5 := lay_call d 66 [.ref 50, .int l1] h3 _ h5 rfl eh5 L3
        rfl
      · refine mX_to 4 (k' := 27) (ls' := [some (.ref 50), some (.int l1), some (.int l2)]) (st' := [.int (l1 + 1)]) (h' := h3) rfl ?_
        rfl
    · rfl
  · rfl
theorem S_X7_cut_27 {h : MH} (L : lay h) (d : Nat) (l1 : Int32) (l2 : Int32) (s0 : Int32) : G_X7_cut_27 d l1 l2 s0 h = G_X7_cut_7 d s0 (l2 + 1) h := by
  refine mX_to 3 (k' := 7) (ls' := [some (.ref 50), some (.int s0), some (.int (l2 + 1))]) (st' := []) (h' := h) rfl ?_
  rfl
theorem S_X7_cut_30 {h : MH} (L : lay h) (d : Nat) (l1 : Int32) (l2 : Int32) : G_X7_cut_30 d l1 l2 h = cV (F_X7_add d 259 (gI h 50 1) 0 h) (fun h8 => some (.int 0, h8)) := by
  refine mX_to 3 (k' := 33) (ls' := [some (.ref 50), some (.int l1), some (.int l2)]) (st' := [.ref 50, .int 259, .ref 50]) (h' := h) rfl ?_
  refine mX_ckv (v := .int (gI h 50 1)) (v' := .int (gI h 50 1)) (k' := 34) (ls' := [some (.ref 50), some (.int l1), some (.int l2)]) (st' := [.int 259, .ref 50]) (h' := h) (k_50 L) rfl rfl ?_
  refine mX_to 1 (k' := 35) (ls' := [some (.ref 50), some (.int l1), some (.int l2)]) (st' := [.int 0, .int (gI h 50 1), .int 259, .ref 50]) (h' := h) rfl ?_
  refine mX_ckct (m := mcl (mE mtab d 33 [.ref 50, .int 259, .int (gI h 50 1), .int 0] h) 0 36 [some (.ref 50), some (.int l1), some (.int l2)] []) (k_50 L) rfl ?_
  refine mk_cVe (o := F_X7_add d 259 (gI h 50 1) 0 h) ?_
  intro wh8 h8 eh8
  have L8 : lay h8 := lay_call d 33 [.ref 50, .int 259, .int (gI h 50 1), .int 0] h _ h8 rfl eh8 L
  exact mX_ret rfl
theorem S_X7_cut {h : MH} (L : lay h) (d : Nat) : F_X7_cut (d + 1) h = lt_ (sI h 50 5 0) fun h2 => G_X7_cut_7 d 0 0 h2 := by
  refine mE_eq (q := (yX7_cut, cX7_cut, 3, none, KX7_cut)) (C := KX7_cut) (ls := [some (.ref 50), none, none]) rfl rfl rfl rfl ?_
  refine mX_to 2 (k' := 2) (ls' := [some (.ref 50), none, none]) (st' := [.int 0, .ref 50]) (h' := h) rfl ?_
  refine mX_ckt (k' := 3) (ls' := [some (.ref 50), none, none]) (st' := []) (h' := (sI h 50 5 0)) (k_50 L) rfl ?_
  refine lt_geq2 (X := fun h2 : MH => mX (mE mtab d) KX7_cut 3 [some (.ref 50), none, none] [] h2) (a := (sI h 50 5 0)) (a' := (sI h 50 5 0)) rfl fun h2 eh2 => ?_
  have L2 : lay h2 := eh2 ▸ layI L (by decide)
  refine mX_to 4 (k' := 7) (ls' := [some (.ref 50), some (.int 0), some (.int 0)]) (st' := []) (h' := h2) rfl ?_
  rfl
theorem S_X4_kind {h : MH} (L : lay h) (d : Nat) : F_X4_kind (d + 1) h = ck (ib (gI h 55 5) 301) (some (.int (gI h 52 (ix (gI h 55 5))), h)) := by
  refine mE_eq (q := (yX4_kind, cX4_kind, 1, (some .int), KX4_kind)) (C := KX4_kind) (ls := [some (.ref 55)]) rfl rfl rfl rfl ?_
  refine mX_to 1 (k' := 1) (ls' := [some (.ref 55)]) (st' := [.ref 55]) (h' := h) rfl ?_
  refine mX_ckv (v := .ref (gR h 55 0)) (v' := .ref 50) (k' := 2) (ls' := [some (.ref 55)]) (st' := []) (h' := h) (k_55 L) (congrArg Value.ref (r_55_0 L)) rfl ?_
  refine mX_ckv (v := .ref (gR h 50 2)) (v' := .ref 52) (k' := 3) (ls' := [some (.ref 55)]) (st' := []) (h' := h) (k_50 L) (congrArg Value.ref (r_50_2 L)) rfl ?_
  refine mX_to 1 (k' := 4) (ls' := [some (.ref 55)]) (st' := [.ref 55, .ref 52]) (h' := h) rfl ?_
  refine mX_ckv (v := .int (gI h 55 5)) (v' := .int (gI h 55 5)) (k' := 5) (ls' := [some (.ref 55)]) (st' := [.ref 52]) (h' := h) (k_55 L) rfl rfl ?_
  refine mX_ckw (v := .int (gI h 52 (ix (gI h 55 5)))) (v' := .int (gI h 52 (ix (gI h 55 5)))) (k' := 6) (ls' := [some (.ref 55)]) (st' := []) (h' := h) (ckA1 (k_52 L) (n_52 L)) rfl rfl fun c1 => ?_
  exact mX_reti rfl
theorem S_X4_refuse {h : MH} (L : lay h) (d : Nat) (a1 : Int32) : F_X4_refuse (d + 1) a1 h = lt_ (sI h 55 11 a1) fun h2 => ck (ib (gI h2 55 5) 301) (lt_ (sI h2 55 12 (gI h2 53 (ix (gI h2 55 5)))) fun h4 => some (.int 0, h4)) := by
  refine mE_eq (q := (yX4_refuse, cX4_refuse, 2, (some .boolean), KX4_refuse)) (C := KX4_refuse) (ls := [some (.ref 55), some (.int a1)]) rfl rfl rfl rfl ?_
  refine mX_to 2 (k' := 2) (ls' := [some (.ref 55), some (.int a1)]) (st' := [.int a1, .ref 55]) (h' := h) rfl ?_
  refine mX_ckt (k' := 3) (ls' := [some (.ref 55), some (.int a1)]) (st' := []) (h' := (sI h 55 11 a1)) (k_55 L) rfl ?_
  refine lt_geq2 (X := fun h2 : MH => mX (mE mtab d) KX4_refuse 3 [some (.ref 55), some (.int a1)] [] h2) (a := (sI h 55 11 a1)) (a' := (sI h 55 11 a1)) rfl fun h2 eh2 => ?_
  have L2 : lay h2 := eh2 ▸ layI L (by decide)
  refine mX_to 2 (k' := 5) (ls' := [some (.ref 55), some (.int a1)]) (st' := [.ref 55, .ref 55]) (h' := h2) rfl ?_
  refine mX_ckv (v := .ref (gR h2 55 0)) (v' := .ref 50) (k' := 6) (ls' := [some (.ref 55), some (.int a1)]) (st' := [.ref 55]) (h' := h2) (k_55 L2) (congrArg Value.ref (r_55_0 L2)) rfl ?_
  refine mX_ckv (v := .ref (gR h2 50 3)) (v' := .ref 53) (k' := 7) (ls' := [some (.ref 55), some (.int a1)]) (st' := [.ref 55]) (h' := h2) (k_50 L2) (congrArg Value.ref (r_50_3 L2)) rfl ?_
  refine mX_to 1 (k' := 8) (ls' := [some (.ref 55), some (.int a1)]) (st' := [.ref 55, .ref 53, .ref 55]) (h' := h2) rfl ?_
  refine mX_ckv (v := .int (gI h2 55 5)) (v' := .int (gI h2 55 5)) (k' := 9) (ls' := [some (.ref 55), some (.int a1)]) (st' := [.ref 53, .ref 55]) (h' := h2) (k_55 L2) rfl rfl ?_
  refine mX_ckw (v := .int (gI h2 53 (ix (gI h2 55 5)))) (v' := .int (gI h2 53 (ix (gI h2 55 5)))) (k' := 10) (ls' := [some (.ref 55), some (.int a1)]) (st' := [.ref 55]) (h' := h2) (ckA1 (k_53 L2) (n_53 L2)) rfl rfl fun c5 => ?_
  refine mX_ckt (k' := 11) (ls' := [some (.ref 55), some (.int a1)]) (st' := []) (h' := (sI h2 55 12 (gI h2 53 (ix (gI h2 55 5))))) (k_55 L2) rfl ?_
  refine lt_geq2 (X := fun h4 : MH => mX (mE mtab d) KX4_refuse 11 [some (.ref 55), some (.int a1)] [] h4) (a := (sI h2 55 12 (gI h2 53 (ix (gI h2 55 5))))) (a' := (sI h2 55 12 (gI h2 53 (ix (gI h2 55 5))))) rfl fun h4 eh4 => ?_
  have L4 : lay h4 := eh4 ▸ layI L2 (by decide)
  refine mX_to 1 (k' := 12) (ls' := [some (.ref 55), some (.int a1)]) (st' := [.int 0]) (h' := h4) rfl ?_
  exact mX_retb (by decide) rfl
theorem S_X4_advance {h : MH} (L : lay h) (d : Nat) : F_X4_advance (d + 1) h = (if ((gI h 55 5) + 1) < (gI h 50 5) then lt_ (sI h 55 5 ((gI h 55 5) + 1)) fun h2 => some (.int 0, h2) else some (.int 0, h)) := by
  refine mE_eq (q := (yX4_advance, cX4_advance, 1, none, KX4_advance)) (C := KX4_advance) (ls := [some (.ref 55)]) rfl rfl rfl rfl ?_
  refine mX_to 1 (k' := 1) (ls' := [some (.ref 55)]) (st' := [.ref 55]) (h' := h) rfl ?_
  refine mX_ckv (v := .int (gI h 55 5)) (v' := .int (gI h 55 5)) (k' := 2) (ls' := [some (.ref 55)]) (st' := []) (h' := h) (k_55 L) rfl rfl ?_
  refine mX_to 3 (k' := 5) (ls' := [some (.ref 55)]) (st' := [.ref 55, .int ((gI h 55 5) + 1)]) (h' := h) rfl ?_
  refine mX_ckv (v := .ref (gR h 55 0)) (v' := .ref 50) (k' := 6) (ls' := [some (.ref 55)]) (st' := [.int ((gI h 55 5) + 1)]) (h' := h) (k_55 L) (congrArg Value.ref (r_55_0 L)) rfl ?_
  refine mX_ckv (v := .int (gI h 50 5)) (v' := .int (gI h 50 5)) (k' := 7) (ls' := [some (.ref 55)]) (st' := [.int ((gI h 55 5) + 1)]) (h' := h) (k_50 L) rfl rfl ?_
  refine mX_br (t := 8) (f := 14) (ls' := [some (.ref 55)]) (st' := []) (h' := h) rfl ?_ ?_
  · refine mX_to 2 (k' := 10) (ls' := [some (.ref 55)]) (st' := [.ref 55, .ref 55]) (h' := h) rfl ?_
    refine mX_ckv (v := .int (gI h 55 5)) (v' := .int (gI h 55 5)) (k' := 11) (ls' := [some (.ref 55)]) (st' := [.ref 55]) (h' := h) (k_55 L) rfl rfl ?_
    refine mX_to 2 (k' := 13) (ls' := [some (.ref 55)]) (st' := [.int ((gI h 55 5) + 1), .ref 55]) (h' := h) rfl ?_
    refine mX_ckt (k' := 14) (ls' := [some (.ref 55)]) (st' := []) (h' := (sI h 55 5 ((gI h 55 5) + 1))) (k_55 L) rfl ?_
    refine lt_geq2 (X := fun h2 : MH => mX (mE mtab d) KX4_advance 14 [some (.ref 55)] [] h2) (a := (sI h 55 5 ((gI h 55 5) + 1))) (a' := (sI h 55 5 ((gI h 55 5) + 1))) rfl fun h2 eh2 => ?_
    have L2 : lay h2 := eh2 ▸ layI L (by decide)
    exact mX_ret rfl
  · exact mX_ret rfl
theorem S_X4_emit_20 {h : MH} (L : lay h) (d : Nat) (l1 : Int32) (l2 : Int32) : G_X4_emit_20 d l1 l2 h = some (.int ((gI h 55 7) - 1), h) := by
  refine mX_to 1 (k' := 21) (ls' := [some (.ref 55), some (.int l1), some (.int l2)]) (st' := [.ref 55]) (h' := h) rfl ?_
  refine mX_ckv (v := .int (gI h 55 7)) (v' := .int (gI h 55 7)) (k' := 22) (ls' := [some (.ref 55), some (.int l1), some (.int l2)]) (st' := []) (h' := h) (k_55 L) rfl rfl ?_
  refine mX_to 2 (k' := 24) (ls' := [some (.ref 55), some (.int l1), some (.int l2)]) (st' := [.int ((gI h 55 7) - 1)]) (h' := h) rfl ?_
  exact mX_reti rfl
theorem S_X4_emit {h : MH} (L : lay h) (d : Nat) (a1 : Int32) (a2 : Int32) : F_X4_emit (d + 1) a1 a2 h = (if (gI h 55 7) < 300 then ck (ib (gI h 55 7) 300) (lt_ (sI h 59 (ix (gI h 55 7)) ((a2 <<< (5 &&& 31)) ||| a1)) fun h2 => lt_ (sI h2 55 7 ((gI h2 55 7) + 1)) fun h4 => G_X4_emit_20 d a1 a2 h4) else G_X4_emit_20 d a1 a2 h) := by
  refine mE_eq (q := (yX4_emit, cX4_emit, 3, (some .int), KX4_emit)) (C := KX4_emit) (ls := [some (.ref 55), some (.int a1), some (.int a2)]) rfl rfl rfl rfl ?_
  refine mX_to 1 (k' := 1) (ls' := [some (.ref 55), some (.int a1), some (.int a2)]) (st' := [.ref 55]) (h' := h) rfl ?_
  refine mX_ckv (v := .int (gI h 55 7)) (v' := .int (gI h 55 7)) (k' := 2) (ls' := [some (.ref 55), some (.int a1), some (.int a2)]) (st' := []) (h' := h) (k_55 L) rfl rfl ?_
  refine mX_to 1 (k' := 3) (ls' := [some (.ref 55), some (.int a1), some (.int a2)]) (st' := [.int 300, .int (gI h 55 7)]) (h' := h) rfl ?_
  refine mX_br (t := 4) (f := 20) (ls' := [some (.ref 55), some (.int a1), some (.int a2)]) (st' := []) (h' := h) rfl ?_ ?_
  · refine mX_to 1 (k' := 5) (ls' := [some (.ref 55), some (.int a1), some (.int a2)]) (st' := [.ref 55]) (h' := h) rfl ?_
    refine mX_ckv (v := .ref (gR h 55 4)) (v' := .ref 59) (k' := 6) (ls' := [some (.ref 55), some (.int a1), some (.int a2)]) (st' := []) (h' := h) (k_55 L) (congrArg Value.ref (r_55_4 L)) rfl ?_
    refine mX_to 1 (k' := 7) (ls' := [some (.ref 55), some (.int a1), some (.int a2)]) (st' := [.ref 55, .ref 59]) (h' := h) rfl ?_
    refine mX_ckv (v := .int (gI h 55 7)) (v' := .int (gI h 55 7)) (k' := 8) (ls' := [some (.ref 55), some (.int a1), some (.int a2)]) (st' := [.ref 59]) (h' := h) (k_55 L) rfl rfl ?_
    refine mX_to 5 (k' := 13) (ls' := [some (.ref 55), some (.int a1), some (.int a2)]) (st' := [.int ((a2 <<< (5 &&& 31)) ||| a1), .int (gI h 55 7), .ref 59]) (h' := h) rfl ?_
    refine mX_cki (k' := 14) (ls' := [some (.ref 55), some (.int a1), some (.int a2)]) (st' := []) (h' := (sI h 59 (ix (gI h 55 7)) ((a2 <<< (5 &&& 31)) ||| a1))) (ckA0 (k_59 L) (n_59 L)) rfl fun c1 => ?_
    refine lt_geq2 (X := fun h2 : MH => mX (mE mtab d) KX4_emit 14 [some (.ref 55), some (.int a1), some (.int a2)] [] h2) (a := (sI h 59 (ix (gI h 55 7)) ((a2 <<< (5 &&& 31)) ||| a1))) (a' := (sI h 59 (ix (gI h 55 7)) ((a2 <<< (5 &&& 31)) ||| a1))) rfl fun h2 eh2 => ?_
    have L2 : lay h2 := eh2 ▸ layI L (by decide)
    refine mX_to 2 (k' := 16) (ls' := [some (.ref 55), some (.int a1), some (.int a2)]) (st' := [.ref 55, .ref 55]) (h' := h2) rfl ?_
    refine mX_ckv (v := .int (gI h2 55 7)) (v' := .int (gI h2 55 7)) (k' := 17) (ls' := [some (.ref 55), some (.int a1), some (.int a2)]) (st' := [.ref 55]) (h' := h2) (k_55 L2) rfl rfl ?_
    refine mX_to 2 (k' := 19) (ls' := [some (.ref 55), some (.int a1), some (.int a2)]) (st' := [.int ((gI h2 55 7) + 1), .ref 55]) (h' := h2) rfl ?_
    refine mX_ckt (k' := 20) (ls' := [some (.ref 55), some (.int a1), some (.int a2)]) (st' := []) (h' := (sI h2 55 7 ((gI h2 55 7) + 1))) (k_55 L2) rfl ?_
    refine lt_geq2 (X := fun h4 : MH => mX (mE mtab d) KX4_emit 20 [some (.ref 55), some (.int a1), some (.int a2)] [] h4) (a := (sI h2 55 7 ((gI h2 55 7) + 1))) (a' := (sI h2 55 7 ((gI h2 55 7) + 1))) rfl fun h4 eh4 => ?_
    have L4 : lay h4 := eh4 ▸ layI L2 (by decide)
    rfl
  · rfl
theorem S_X4_numeral {h : MH} (L : lay h) (d : Nat) : F_X4_numeral (d + 1) h = ck (ib (gI h 55 5) 301) ((if (gI h 54 (ix (gI h 55 5))) ≤ 9999 then ck (ib (gI h 55 5) 301) (cI (F_X4_emit d 0 (gI h 54 (ix (gI h 55 5))) h) (fun x2 h1 => cV (F_X4_advance d h1) (fun h3 => some (.int 1, h3)))) else cI (F_X4_refuse d 2 h) (fun x6 h5 => ck (mrt 1 x6) (some (.int x6, h5))))) := by
  refine mE_eq (q := (yX4_numeral, cX4_numeral, 1, (some .boolean), KX4_numeral)) (C := KX4_numeral) (ls := [some (.ref 55)]) rfl rfl rfl rfl ?_
  refine mX_to 1 (k' := 1) (ls' := [some (.ref 55)]) (st' := [.ref 55]) (h' := h) rfl ?_
  refine mX_ckv (v := .ref (gR h 55 0)) (v' := .ref 50) (k' := 2) (ls' := [some (.ref 55)]) (st' := []) (h' := h) (k_55 L) (congrArg Value.ref (r_55_0 L)) rfl ?_
  refine mX_ckv (v := .ref (gR h 50 4)) (v' := .ref 54) (k' := 3) (ls' := [some (.ref 55)]) (st' := []) (h' := h) (k_50 L) (congrArg Value.ref (r_50_4 L)) rfl ?_
  refine mX_to 1 (k' := 4) (ls' := [some (.ref 55)]) (st' := [.ref 55, .ref 54]) (h' := h) rfl ?_
  refine mX_ckv (v := .int (gI h 55 5)) (v' := .int (gI h 55 5)) (k' := 5) (ls' := [some (.ref 55)]) (st' := [.ref 54]) (h' := h) (k_55 L) rfl rfl ?_
  refine mX_ckw (v := .int (gI h 54 (ix (gI h 55 5)))) (v' := .int (gI h 54 (ix (gI h 55 5)))) (k' := 6) (ls' := [some (.ref 55)]) (st' := []) (h' := h) (ckA1 (k_54 L) (n_54 L)) rfl rfl fun c7 => ?_
  refine mX_to 1 (k' := 7) (ls' := [some (.ref 55)]) (st' := [.int 9999, .int (gI h 54 (ix (gI h 55 5)))]) (h' := h) rfl ?_
  refine mX_br (t := 12) (f := 8) (ls' := [some (.ref 55)]) (st' := []) (h' := h) rfl ?_ ?_
  · refine mX_to 3 (k' := 15) (ls' := [some (.ref 55)]) (st' := [.ref 55, .int 0, .ref 55]) (h' := h) rfl ?_
    refine mX_ckv (v := .ref (gR h 55 0)) (v' := .ref 50) (k' := 16) (ls' := [some (.ref 55)]) (st' := [.int 0, .ref 55]) (h' := h) (k_55 L) (congrArg Value.ref (r_55_0 L)) rfl ?_
    refine mX_ckv (v := .ref (gR h 50 4)) (v' := .ref 54) (k' := 17) (ls' := [some (.ref 55)]) (st' := [.int 0, .ref 55]) (h' := h) (k_50 L) (congrArg Value.ref (r_50_4 L)) rfl ?_
    refine mX_to 1 (k' := 18) (ls' := [some (.ref 55)]) (st' := [.ref 55, .ref 54, .int 0, .ref 55]) (h' := h) rfl ?_
    refine mX_ckv (v := .int (gI h 55 5)) (v' := .int (gI h 55 5)) (k' := 19) (ls' := [some (.ref 55)]) (st' := [.ref 54, .int 0, .ref 55]) (h' := h) (k_55 L) rfl rfl ?_
    refine mX_ckw (v := .int (gI h 54 (ix (gI h 55 5)))) (v' := .int (gI h 54 (ix (gI h 55 5)))) (k' := 20) (ls' := [some (.ref 55)]) (st' := [.int 0, .ref 55]) (h' := h) (ckA1 (k_54 L) (n_54 L)) rfl rfl fun c4 => ?_
    refine mX_ckct (m := mcl (mE mtab d 71 [.ref 55, .int 0, .int (gI h 54 (ix (gI h 55 5)))] h) 1 21 [some (.ref 55)] []) (k_55 L) rfl ?_
    refine mk_cIe (o := F_X4_emit d 0 (gI h 54 (ix (gI h 55 5))) h) ?_
    intro x2 h1 eh1
    have L1 : lay h1 := lay_call d 71 [.ref 55, .int 0, .int (gI h 54 (ix (gI h 55 5)))] h _ h1 rfl eh1 L
    refine mX_to 2 (k' := 23) (ls' := [some (.ref 55)]) (st' := [.ref 55]) (h' := h1) rfl ?_
    refine mX_ckct (m := mcl (mE mtab d 70 [.ref 55] h1) 0 24 [some (.ref 55)] []) (k_55 L1) rfl ?_
    refine mk_cVe (o := F_X4_advance d h1) ?_
    intro wh3 h3 eh3
    have L3 : lay h3 := lay_call d 70 [.ref 55] h1 _ h3 rfl eh3 L1
    refine mX_to 1 (k' := 25) (ls' := [some (.ref 55)]) (st' := [.int 1]) (h' := h3) rfl ?_
    exact mX_retb (by decide) rfl
  · refine mX_to 2 (k' := 10) (ls' := [some (.ref 55)]) (st' := [.int 2, .ref 55]) (h' := h) rfl ?_
    refine mX_ckct (m := mcl (mE mtab d 69 [.ref 55, .int 2] h) 1 11 [some (.ref 55)] []) (k_55 L) rfl ?_
    refine mk_cIe (o := F_X4_refuse d 2 h) ?_
    intro x6 h5 eh5
    have L5 : lay h5 := lay_call d 69 [.ref 55, .int 2] h _ h5 rfl eh5 L
    exact mX_retc rfl
theorem S_X4_name_10 {h : MH} (L : lay h) (d : Nat) (l1 : Int32) : G_X4_name_10 d l1 h = cI (F_X4_emit d 1 (l1 - 307) h) (fun x4 h3 => cV (F_X4_advance d h3) (fun h5 => some (.int 1, h5))) := by
  refine mX_to 5 (k' := 15) (ls' := [some (.ref 55), some (.int l1)]) (st' := [.int (l1 - 307), .int 1, .ref 55]) (h' := h) rfl ?_
  refine mX_ckct (m := mcl (mE mtab d 71 [.ref 55, .int 1, .int (l1 - 307)] h) 1 16 [some (.ref 55), some (.int l1)] []) (k_55 L) rfl ?_
  refine mk_cIe (o := F_X4_emit d 1 (l1 - 307) h) ?_
  intro x4 h3 eh3
  have L3 : lay h3 := lay_call d 71 [.ref 55, .int 1, .int (l1 - 307)] h _ h3 rfl eh3 L
  refine mX_to 2 (k' := 18) (ls' := [some (.ref 55), some (.int l1)]) (st' := [.ref 55]) (h' := h3) rfl ?_
  refine mX_ckct (m := mcl (mE mtab d 70 [.ref 55] h3) 0 19 [some (.ref 55), some (.int l1)] []) (k_55 L3) rfl ?_
  refine mk_cVe (o := F_X4_advance d h3) ?_
  intro wh5 h5 eh5
  have L5 : lay h5 := lay_call d 70 [.ref 55] h3 _ h5 rfl eh5 L3
  refine mX_to 1 (k' := 20) (ls' := [some (.ref 55), some (.int l1)]) (st' := [.int 1]) (h' := h5) rfl ?_
  exact mX_retb (by decide) rfl
theorem S_X4_name {h : MH} (L : lay h) (d : Nat) (a1 : Int32) : F_X4_name (d + 1) a1 h = (if a1 < 311 then G_X4_name_10 d a1 h else (if (gI h 55 8) = 0 then cI (F_X4_refuse d 5 h) (fun x2 h1 => ck (mrt 1 x2) (some (.int x2, h1))) else G_X4_name_10 d a1 h)) := by
  refine mE_eq (q := (yX4_name, cX4_name, 2, (some .boolean), KX4_name)) (C := KX4_name) (ls := [some (.ref 55), some (.int a1)]) rfl rfl rfl rfl ?_
  refine mX_to 2 (k' := 2) (ls' := [some (.ref 55), some (.int a1)]) (st' := [.int 311, .int a1]) (h' := h) rfl ?_
  refine mX_br (t := 10) (f := 3) (ls' := [some (.ref 55), some (.int a1)]) (st' := []) (h' := h) rfl ?_ ?_
  · rfl
  · refine mX_to 1 (k' := 4) (ls' := [some (.ref 55), some (.int a1)]) (st' := [.ref 55]) (h' := h) rfl ?_
    refine mX_ckv (v := .int (gI h 55 8)) (v' := .int (gI h 55 8)) (k' := 5) (ls' := [some (.ref 55), some (.int a1)]) (st' := []) (h' := h) (k_55 L) rfl rfl ?_
    refine mX_br (t := 6) (f := 10) (ls' := [some (.ref 55), some (.int a1)]) (st' := []) (h' := h) rfl ?_ ?_
    · refine mX_to 2 (k' := 8) (ls' := [some (.ref 55), some (.int a1)]) (st' := [.int 5, .ref 55]) (h' := h) rfl ?_
      refine mX_ckct (m := mcl (mE mtab d 69 [.ref 55, .int 5] h) 1 9 [some (.ref 55), some (.int a1)] []) (k_55 L) rfl ?_
      refine mk_cIe (o := F_X4_refuse d 5 h) ?_
      intro x2 h1 eh1
      have L1 : lay h1 := lay_call d 69 [.ref 55, .int 5] h _ h1 rfl eh1 L
      exact mX_retc rfl
    · rfl
theorem S_X4_expect {h : MH} (L : lay h) (d : Nat) (a1 : Int32) : F_X4_expect (d + 1) a1 h = cI (F_X4_kind d h) (fun x2 h1 => (if x2 = a1 then cV (F_X4_advance d h1) (fun h3 => some (.int 1, h3)) else cI (F_X4_refuse d 1 h1) (fun x5 h4 => ck (mrt 1 x5) (some (.int x5, h4))))) := by
  refine mE_eq (q := (yX4_expect, cX4_expect, 2, (some .boolean), KX4_expect)) (C := KX4_expect) (ls := [some (.ref 55), some (.int a1)]) rfl rfl rfl rfl ?_
  refine mX_to 1 (k' := 1) (ls' := [some (.ref 55), some (.int a1)]) (st' := [.ref 55]) (h' := h) rfl ?_
  refine mX_ckct (m := mcl (mE mtab d 68 [.ref 55] h) 1 2 [some (.ref 55), some (.int a1)] []) (k_55 L) rfl ?_
  refine mk_cIe (o := F_X4_kind d h) ?_
  intro x2 h1 eh1
  have L1 : lay h1 := lay_call d 68 [.ref 55] h _ h1 rfl eh1 L
  refine mX_to 1 (k' := 3) (ls' := [some (.ref 55), some (.int a1)]) (st' := [.int a1, .int x2]) (h' := h1) rfl ?_
  refine mX_br (t := 8) (f := 4) (ls' := [some (.ref 55), some (.int a1)]) (st' := []) (h' := h1) rfl ?_ ?_
  · refine mX_to 1 (k' := 9) (ls' := [some (.ref 55), some (.int a1)]) (st' := [.ref 55]) (h' := h1) rfl ?_
    refine mX_ckct (m := mcl (mE mtab d 70 [.ref 55] h1) 0 10 [some (.ref 55), some (.int a1)] []) (k_55 L1) rfl ?_
    refine mk_cVe (o := F_X4_advance d h1) ?_
    intro wh3 h3 eh3
    have L3 : lay h3 := lay_call d 70 [.ref 55] h1 _ h3 rfl eh3 L1
    refine mX_to 1 (k' := 11) (ls' := [some (.ref 55), some (.int a1)]) (st' := [.int 1]) (h' := h3) rfl ?_
    exact mX_retb (by decide) rfl
  · refine mX_to 2 (k' := 6) (ls' := [some (.ref 55), some (.int a1)]) (st' := [.int 1, .ref 55]) (h' := h1) rfl ?_
    refine mX_ckct (m := mcl (mE mtab d 69 [.ref 55, .int 1] h1) 1 7 [some (.ref 55), some (.int a1)] []) (k_55 L1) rfl ?_
    refine mk_cIe (o := F_X4_refuse d 1 h1) ?_
    intro x5 h4 eh4
    have L4 : lay h4 := lay_call d 69 [.ref 55, .int 1] h1 _ h4 rfl eh4 L1
    exact mX_retc rfl
theorem S_X4_denial {h : MH} (L : lay h) (d : Nat) (a1 : Int32) : F_X4_denial (d + 1) a1 h = (if a1 < 8 then cV (F_X4_advance d h) (fun h1 => cI (F_X4_ask d (a1 + 1) h1) (fun x3 h2 => cI (F_X4_emit d 7 0 h2) (fun x5 h4 => ck (mrt 1 x3) (some (.int x3, h4))))) else cI (F_X4_refuse d 3 h) (fun x7 h6 => ck (mrt 1 x7) (some (.int x7, h6)))) := by
  refine mE_eq (q := (yX4_denial, cX4_denial, 3, (some .boolean), KX4_denial)) (C := KX4_denial) (ls := [some (.ref 55), some (.int a1), none]) rfl rfl rfl rfl ?_
  refine mX_to 2 (k' := 2) (ls' := [some (.ref 55), some (.int a1), none]) (st' := [.int 8, .int a1]) (h' := h) rfl ?_
  refine mX_br (t := 7) (f := 3) (ls' := [some (.ref 55), some (.int a1), none]) (st' := []) (h' := h) rfl ?_ ?_
  · refine mX_to 1 (k' := 8) (ls' := [some (.ref 55), some (.int a1), none]) (st' := [.ref 55]) (h' := h) rfl ?_
    refine mX_ckct (m := mcl (mE mtab d 70 [.ref 55] h) 0 9 [some (.ref 55), some (.int a1), none] []) (k_55 L) rfl ?_
    refine mk_cVe (o := F_X4_advance d h) ?_
    intro wh1 h1 eh1
    have L1 : lay h1 := lay_call d 70 [.ref 55] h _ h1 rfl eh1 L
    refine mX_to 4 (k' := 13) (ls' := [some (.ref 55), some (.int a1), none]) (st' := [.int (a1 + 1), .ref 55]) (h' := h1) rfl ?_
    refine mX_ckct (m := mcl (mE mtab d 77 [.ref 55, .int (a1 + 1)] h1) 1 14 [some (.ref 55), some (.int a1), none] []) (k_55 L1) rfl ?_
    refine mk_cIe (o := F_X4_ask d (a1 + 1) h1) ?_
    intro x3 h2 eh2
    have L2 : lay h2 := lay_call d 77 [.ref 55, .int (a1 + 1)] h1 _ h2 rfl eh2 L1
    refine mX_to 4 (k' := 18) (ls' := [some (.ref 55), some (.int a1), some (.int x3)]) (st' := [.int 0, .int 7, .ref 55]) (h' := h2) rfl ?_
    refine mX_ckct (m := mcl (mE mtab d 71 [.ref 55, .int 7, .int 0] h2) 1 19 [some (.ref 55), some (.int a1), some (.int x3)] []) (k_55 L2) rfl ?_
    refine mk_cIe (o := F_X4_emit d 7 0 h2) ?_
    intro x5 h4 eh4
    have L4 : lay h4 := lay_call d 71 [.ref 55, .int 7, .int 0] h2 _ h4 rfl eh4 L2
    refine mX_to 2 (k' := 21) (ls' := [some (.ref 55), some (.int a1), some (.int x3)]) (st' := [.int x3]) (h' := h4) rfl ?_
    exact mX_retc rfl
  · refine mX_to 2 (k' := 5) (ls' := [some (.ref 55), some (.int a1), none]) (st' := [.int 3, .ref 55]) (h' := h) rfl ?_
    refine mX_ckct (m := mcl (mE mtab d 69 [.ref 55, .int 3] h) 1 6 [some (.ref 55), some (.int a1), none] []) (k_55 L) rfl ?_
    refine mk_cIe (o := F_X4_refuse d 3 h) ?_
    intro x7 h6 eh6
    have L6 : lay h6 := lay_call d 69 [.ref 55, .int 3] h _ h6 rfl eh6 L
    exact mX_retc rfl
