--deps:19.lay 21.facts 22.00.names
/-! EQUATIONS over the fixed cells (written by wip/gen/sgen.py) -/
theorem S_X4_keepLaw {h : MH} (L : lay h) (d : Nat) (a1 : Int32) : F_X4_keepLaw (d + 1) a1 h = (if a1 = 300 then lt_ (mA h 4 2) fun h1 => cR (mE mtab d 88 [.ref 59, .int (gI h1 55 7)] h1) (fun x3 h2 => ck (kd h2 (mN h) = 4) (cV (mE mtab d 89 [.ref (mN h), .ref x3] h2) (fun h4 => lt_ (sR h4 55 9 (mN h)) fun h6 => some (.int 0, h6)))) else (if a1 = 301 then lt_ (mA h 4 2) fun h7 => cR (mE mtab d 88 [.ref 59, .int (gI h7 55 7)] h7) (fun x9 h8 => ck (kd h8 (mN h) = 4) (cV (mE mtab d 89 [.ref (mN h), .ref x9] h8) (fun h10 => lt_ (sR h10 55 10 (mN h)) fun h12 => some (.int 0, h12)))) else some (.int 0, h))) := by
  refine mE_eq (q := (yX4_keepLaw, cX4_keepLaw, 2, none, KX4_keepLaw)) (C := KX4_keepLaw) (ls := [some (.ref 55), some (.int a1)]) rfl rfl rfl rfl ?_
  refine mX_to 2 (k' := 2) (ls' := [some (.ref 55), some (.int a1)]) (st' := [.int 300, .int a1]) (h' := h) rfl ?_
  refine mX_br (t := 3) (f := 14) (ls' := [some (.ref 55), some (.int a1)]) (st' := []) (h' := h) rfl ?_ ?_
  · refine mX_to 1 (k' := 4) (ls' := [some (.ref 55), some (.int a1)]) (st' := [.ref 55]) (h' := h) rfl ?_
    refine mX_to 1 (k' := 5) (ls' := [some (.ref 55), some (.int a1)]) (st' := [.ref (mN h), .ref 55]) (h' := (mA h 4 2)) rfl ?_
    refine lt_geq (X := fun h1 : MH => mX (mE mtab d) KX4_keepLaw 5 [some (.ref 55), some (.int a1)] [.ref (mN h), .ref 55] h1) fun h1 eh1 => ?_
    have L1 : lay h1 := eh1 ▸ lay_mA L
    refine mX_to 2 (k' := 7) (ls' := [some (.ref 55), some (.int a1)]) (st' := [.ref 55, .ref (mN h), .ref (mN h), .ref 55]) (h' := h1) rfl ?_
    refine mX_ckv (v := .ref (gR h1 55 4)) (v' := .ref 59) (k' := 8) (ls' := [some (.ref 55), some (.int a1)]) (st' := [.ref (mN h), .ref (mN h), .ref 55]) (h' := h1) (k_55 L1) (congrArg Value.ref (r_55_4 L1)) rfl ?_
    refine mX_to 1 (k' := 9) (ls' := [some (.ref 55), some (.int a1)]) (st' := [.ref 55, .ref 59, .ref (mN h), .ref (mN h), .ref 55]) (h' := h1) rfl ?_
    refine mX_ckv (v := .int (gI h1 55 7)) (v' := .int (gI h1 55 7)) (k' := 10) (ls' := [some (.ref 55), some (.int a1)]) (st' := [.ref 59, .ref (mN h), .ref (mN h), .ref 55]) (h' := h1) (k_55 L1) rfl rfl ?_
    refine mX_cRe (o := mE mtab d 88 [.ref 59, .int (gI h1 55 7)] h1) (k' := 11) (ls' := [some (.ref 55), some (.int a1)]) (st' := [.ref (mN h), .ref (mN h), .ref 55]) rfl ?_
    intro x3 h2 eh2
    have L2 : lay h2 := lay_call d 88 [.ref 59, .int (gI h1 55 7)] h1 _ h2 rfl eh2 L1
    refine mX_ckc (m := mcl (mE mtab d 89 [.ref (mN h), .ref x3] h2) 0 12 [some (.ref 55), some (.int a1)] [.ref (mN h), .ref 55]) rfl ?_
    refine mk_cVe (o := mE mtab d 89 [.ref (mN h), .ref x3] h2) ?_
    intro wh4 h4 eh4
    have L4 : lay h4 := lay_call d 89 [.ref (mN h), .ref x3] h2 _ h4 rfl eh4 L2
    refine mX_ckt (k' := 13) (ls' := [some (.ref 55), some (.int a1)]) (st' := []) (h' := (sR h4 55 9 (mN h))) (k_55 L4) rfl ?_
    refine lt_geq2 (X := fun h6 : MH => mX (mE mtab d) KX4_keepLaw 13 [some (.ref 55), some (.int a1)] [] h6) (a := (sR h4 55 9 (mN h))) (a' := (sR h4 55 9 (mN h))) rfl fun h6 eh6 => ?_
    have L6 : lay h6 := eh6 ▸ layR L4 (by decide)
    refine mX_to 1 (k' := 27) (ls' := [some (.ref 55), some (.int a1)]) (st' := []) (h' := h6) rfl ?_
    exact mX_ret rfl
  · refine mX_to 2 (k' := 16) (ls' := [some (.ref 55), some (.int a1)]) (st' := [.int 301, .int a1]) (h' := h) rfl ?_
    refine mX_br (t := 17) (f := 27) (ls' := [some (.ref 55), some (.int a1)]) (st' := []) (h' := h) rfl ?_ ?_
    · refine mX_to 1 (k' := 18) (ls' := [some (.ref 55), some (.int a1)]) (st' := [.ref 55]) (h' := h) rfl ?_
      refine mX_to 1 (k' := 19) (ls' := [some (.ref 55), some (.int a1)]) (st' := [.ref (mN h), .ref 55]) (h' := (mA h 4 2)) rfl ?_
      refine lt_geq (X := fun h7 : MH => mX (mE mtab d) KX4_keepLaw 19 [some (.ref 55), some (.int a1)] [.ref (mN h), .ref 55] h7) fun h7 eh7 => ?_
      have L7 : lay h7 := eh7 ▸ lay_mA L
      refine mX_to 2 (k' := 21) (ls' := [some (.ref 55), some (.int a1)]) (st' := [.ref 55, .ref (mN h), .ref (mN h), .ref 55]) (h' := h7) rfl ?_
      refine mX_ckv (v := .ref (gR h7 55 4)) (v' := .ref 59) (k' := 22) (ls' := [some (.ref 55), some (.int a1)]) (st' := [.ref (mN h), .ref (mN h), .ref 55]) (h' := h7) (k_55 L7) (congrArg Value.ref (r_55_4 L7)) rfl ?_
      refine mX_to 1 (k' := 23) (ls' := [some (.ref 55), some (.int a1)]) (st' := [.ref 55, .ref 59, .ref (mN h), .ref (mN h), .ref 55]) (h' := h7) rfl ?_
      refine mX_ckv (v := .int (gI h7 55 7)) (v' := .int (gI h7 55 7)) (k' := 24) (ls' := [some (.ref 55), some (.int a1)]) (st' := [.ref 59, .ref (mN h), .ref (mN h), .ref 55]) (h' := h7) (k_55 L7) rfl rfl ?_
      refine mX_cRe (o := mE mtab d 88 [.ref 59, .int (gI h7 55 7)] h7) (k' := 25) (ls' := [some (.ref 55), some (.int a1)]) (st' := [.ref (mN h), .ref (mN h), .ref 55]) rfl ?_
      intro x9 h8 eh8
      have L8 : lay h8 := lay_call d 88 [.ref 59, .int (gI h7 55 7)] h7 _ h8 rfl eh8 L7
      refine mX_ckc (m := mcl (mE mtab d 89 [.ref (mN h), .ref x9] h8) 0 26 [some (.ref 55), some (.int a1)] [.ref (mN h), .ref 55]) rfl ?_
      refine mk_cVe (o := mE mtab d 89 [.ref (mN h), .ref x9] h8) ?_
      intro wh10 h10 eh10
      have L10 : lay h10 := lay_call d 89 [.ref (mN h), .ref x9] h8 _ h10 rfl eh10 L8
      refine mX_ckt (k' := 27) (ls' := [some (.ref 55), some (.int a1)]) (st' := []) (h' := (sR h10 55 10 (mN h))) (k_55 L10) rfl ?_
      refine lt_geq2 (X := fun h12 : MH => mX (mE mtab d) KX4_keepLaw 27 [some (.ref 55), some (.int a1)] [] h12) (a := (sR h10 55 10 (mN h))) (a' := (sR h10 55 10 (mN h))) rfl fun h12 eh12 => ?_
      have L12 : lay h12 := eh12 ▸ layR L10 (by decide)
      exact mX_ret rfl
    · exact mX_ret rfl
theorem S_X4_clause_18 {h : MH} (L : lay h) (d : Nat) (l1 : Int32) : G_X4_clause_18 d l1 h = (if l1 = 301 then (if (gR h 55 10) = 0 then G_X4_clause_28 d l1 h else G_X4_clause_24 d l1 h) else G_X4_clause_28 d l1 h) := by
  refine mX_to 2 (k' := 20) (ls' := [some (.ref 55), some (.int l1), none]) (st' := [.int 301, .int l1]) (h' := h) rfl ?_
  refine mX_br (t := 21) (f := 28) (ls' := [some (.ref 55), some (.int l1), none]) (st' := []) (h' := h) rfl ?_ ?_
  · refine mX_to 1 (k' := 22) (ls' := [some (.ref 55), some (.int l1), none]) (st' := [.ref 55]) (h' := h) rfl ?_
    refine mX_ckv (v := .ref (gR h 55 10)) (v' := .ref (gR h 55 10)) (k' := 23) (ls' := [some (.ref 55), some (.int l1), none]) (st' := []) (h' := h) (k_55 L) rfl rfl ?_
    refine mX_br (t := 28) (f := 24) (ls' := [some (.ref 55), some (.int l1), none]) (st' := []) (h' := h) rfl ?_ ?_
    · rfl
    · rfl
  · rfl
theorem S_X4_clause_24 {h : MH} (L : lay h) (d : Nat) (l1 : Int32) : G_X4_clause_24 d l1 h = cI (F_X4_refuse d 4 h) (fun x8 h7 => ck (mrt 1 x8) (some (.int x8, h7))) := by
  refine mX_to 2 (k' := 26) (ls' := [some (.ref 55), some (.int l1), none]) (st' := [.int 4, .ref 55]) (h' := h) rfl ?_
  refine mX_ckct (m := mcl (mE mtab d 69 [.ref 55, .int 4] h) 1 27 [some (.ref 55), some (.int l1), none] []) (k_55 L) rfl ?_
  refine mk_cIe (o := F_X4_refuse d 4 h) ?_
  intro x8 h7 eh7
  have L7 : lay h7 := lay_call d 69 [.ref 55, .int 4] h _ h7 rfl eh7 L
  exact mX_retc rfl
theorem S_X4_clause_28 {h : MH} (L : lay h) (d : Nat) (l1 : Int32) : G_X4_clause_28 d l1 h = (if (gI h 55 6) < 24 then ck (ib (gI h 55 6) 24) (lt_ (sI h 56 (ix (gI h 55 6)) l1) fun h10 => ck (ib (gI h10 55 6) 24) (lt_ (sI h10 57 (ix (gI h10 55 6)) 0) fun h12 => ck (ib (gI h12 55 6) 24) (lt_ (sI h12 58 (ix (gI h12 55 6)) 0) fun h14 => lt_ (sI h14 55 7 0) fun h16 => (if l1 = 301 then G_X4_clause_64 d l1 1 h16 else G_X4_clause_64 d l1 0 h16)))) else cI (F_X4_refuse d 6 h) (fun x18 h17 => ck (mrt 1 x18) (some (.int x18, h17)))) := by
  refine mX_to 1 (k' := 29) (ls' := [some (.ref 55), some (.int l1), none]) (st' := [.ref 55]) (h' := h) rfl ?_
  refine mX_ckv (v := .int (gI h 55 6)) (v' := .int (gI h 55 6)) (k' := 30) (ls' := [some (.ref 55), some (.int l1), none]) (st' := []) (h' := h) (k_55 L) rfl rfl ?_
  refine mX_to 1 (k' := 31) (ls' := [some (.ref 55), some (.int l1), none]) (st' := [.int 24, .int (gI h 55 6)]) (h' := h) rfl ?_
  refine mX_br (t := 36) (f := 32) (ls' := [some (.ref 55), some (.int l1), none]) (st' := []) (h' := h) rfl ?_ ?_
  · refine mX_to 1 (k' := 37) (ls' := [some (.ref 55), some (.int l1), none]) (st' := [.ref 55]) (h' := h) rfl ?_
    refine mX_ckv (v := .ref (gR h 55 1)) (v' := .ref 56) (k' := 38) (ls' := [some (.ref 55), some (.int l1), none]) (st' := []) (h' := h) (k_55 L) (congrArg Value.ref (r_55_1 L)) rfl ?_
    refine mX_to 1 (k' := 39) (ls' := [some (.ref 55), some (.int l1), none]) (st' := [.ref 55, .ref 56]) (h' := h) rfl ?_
    refine mX_ckv (v := .int (gI h 55 6)) (v' := .int (gI h 55 6)) (k' := 40) (ls' := [some (.ref 55), some (.int l1), none]) (st' := [.ref 56]) (h' := h) (k_55 L) rfl rfl ?_
    refine mX_to 1 (k' := 41) (ls' := [some (.ref 55), some (.int l1), none]) (st' := [.int l1, .int (gI h 55 6), .ref 56]) (h' := h) rfl ?_
    refine mX_cki (k' := 42) (ls' := [some (.ref 55), some (.int l1), none]) (st' := []) (h' := (sI h 56 (ix (gI h 55 6)) l1)) (ckA0 (k_56 L) (n_56 L)) rfl fun c9 => ?_
    refine lt_geq2 (X := fun h10 : MH => mX (mE mtab d) KX4_clause 42 [some (.ref 55), some (.int l1), none] [] h10) (a := (sI h 56 (ix (gI h 55 6)) l1)) (a' := (sI h 56 (ix (gI h 55 6)) l1)) rfl fun h10 eh10 => ?_
    have L10 : lay h10 := eh10 ▸ layI L (by decide)
    refine mX_to 1 (k' := 43) (ls' := [some (.ref 55), some (.int l1), none]) (st' := [.ref 55]) (h' := h10) rfl ?_
    refine mX_ckv (v := .ref (gR h10 55 2)) (v' := .ref 57) (k' := 44) (ls' := [some (.ref 55), some (.int l1), none]) (st' := []) (h' := h10) (k_55 L10) (congrArg Value.ref (r_55_2 L10)) rfl ?_
    refine mX_to 1 (k' := 45) (ls' := [some (.ref 55), some (.int l1), none]) (st' := [.ref 55, .ref 57]) (h' := h10) rfl ?_
    refine mX_ckv (v := .int (gI h10 55 6)) (v' := .int (gI h10 55 6)) (k' := 46) (ls' := [some (.ref 55), some (.int l1), none]) (st' := [.ref 57]) (h' := h10) (k_55 L10) rfl rfl ?_
    refine mX_to 1 (k' := 47) (ls' := [some (.ref 55), some (.int l1), none]) (st' := [.int 0, .int (gI h10 55 6), .ref 57]) (h' := h10) rfl ?_
    refine mX_cki (k' := 48) (ls' := [some (.ref 55), some (.int l1), none]) (st' := []) (h' := (sI h10 57 (ix (gI h10 55 6)) 0)) (ckA0 (k_57 L10) (n_57 L10)) rfl fun c11 => ?_
    refine lt_geq2 (X := fun h12 : MH => mX (mE mtab d) KX4_clause 48 [some (.ref 55), some (.int l1), none] [] h12) (a := (sI h10 57 (ix (gI h10 55 6)) 0)) (a' := (sI h10 57 (ix (gI h10 55 6)) 0)) rfl fun h12 eh12 => ?_
    have L12 : lay h12 := eh12 ▸ layI L10 (by decide)
    refine mX_to 1 (k' := 49) (ls' := [some (.ref 55), some (.int l1), none]) (st' := [.ref 55]) (h' := h12) rfl ?_
    refine mX_ckv (v := .ref (gR h12 55 3)) (v' := .ref 58) (k' := 50) (ls' := [some (.ref 55), some (.int l1), none]) (st' := []) (h' := h12) (k_55 L12) (congrArg Value.ref (r_55_3 L12)) rfl ?_
    refine mX_to 1 (k' := 51) (ls' := [some (.ref 55), some (.int l1), none]) (st' := [.ref 55, .ref 58]) (h' := h12) rfl ?_
    refine mX_ckv (v := .int (gI h12 55 6)) (v' := .int (gI h12 55 6)) (k' := 52) (ls' := [some (.ref 55), some (.int l1), none]) (st' := [.ref 58]) (h' := h12) (k_55 L12) rfl rfl ?_
    refine mX_to 1 (k' := 53) (ls' := [some (.ref 55), some (.int l1), none]) (st' := [.int 0, .int (gI h12 55 6), .ref 58]) (h' := h12) rfl ?_
    refine mX_cki (k' := 54) (ls' := [some (.ref 55), some (.int l1), none]) (st' := []) (h' := (sI h12 58 (ix (gI h12 55 6)) 0)) (ckA0 (k_58 L12) (n_58 L12)) rfl fun c13 => ?_
    refine lt_geq2 (X := fun h14 : MH => mX (mE mtab d) KX4_clause 54 [some (.ref 55), some (.int l1), none] [] h14) (a := (sI h12 58 (ix (gI h12 55 6)) 0)) (a' := (sI h12 58 (ix (gI h12 55 6)) 0)) rfl fun h14 eh14 => ?_
    have L14 : lay h14 := eh14 ▸ layI L12 (by decide)
    refine mX_to 2 (k' := 56) (ls' := [some (.ref 55), some (.int l1), none]) (st' := [.int 0, .ref 55]) (h' := h14) rfl ?_
    refine mX_ckt (k' := 57) (ls' := [some (.ref 55), some (.int l1), none]) (st' := []) (h' := (sI h14 55 7 0)) (k_55 L14) rfl ?_
    refine lt_geq2 (X := fun h16 : MH => mX (mE mtab d) KX4_clause 57 [some (.ref 55), some (.int l1), none] [] h16) (a := (sI h14 55 7 0)) (a' := (sI h14 55 7 0)) rfl fun h16 eh16 => ?_
    have L16 : lay h16 := eh16 ▸ layI L14 (by decide)
    refine mX_to 3 (k' := 60) (ls' := [some (.ref 55), some (.int l1), none]) (st' := [.int 301, .int l1, .ref 55]) (h' := h16) rfl ?_
    refine mX_br (t := 61) (f := 63) (ls' := [some (.ref 55), some (.int l1), none]) (st' := [.ref 55]) (h' := h16) rfl ?_ ?_
    · refine mX_to 2 (k' := 64) (ls' := [some (.ref 55), some (.int l1), none]) (st' := [.int 1, .ref 55]) (h' := h16) rfl ?_
      rfl
    · refine mX_to 1 (k' := 64) (ls' := [some (.ref 55), some (.int l1), none]) (st' := [.int 0, .ref 55]) (h' := h16) rfl ?_
      rfl
  · refine mX_to 2 (k' := 34) (ls' := [some (.ref 55), some (.int l1), none]) (st' := [.int 6, .ref 55]) (h' := h) rfl ?_
    refine mX_ckct (m := mcl (mE mtab d 69 [.ref 55, .int 6] h) 1 35 [some (.ref 55), some (.int l1), none] []) (k_55 L) rfl ?_
    refine mk_cIe (o := F_X4_refuse d 6 h) ?_
    intro x18 h17 eh17
    have L17 : lay h17 := lay_call d 69 [.ref 55, .int 6] h _ h17 rfl eh17 L
    exact mX_retc rfl
theorem S_X4_clause_64 {h : MH} (L : lay h) (d : Nat) (l1 : Int32) (s0 : Int32) : G_X4_clause_64 d l1 s0 h = ck ((s0 = 0 ∨ s0 = 1)) (lt_ (sI h 55 8 s0) fun h20 => cV (F_X4_advance d h20) (fun h21 => (if l1 ≤ 301 then cI (F_X4_sum d 0 h21) (fun x23 h22 => G_X4_clause_77 d l1 x23 h22) else cI (F_X4_numbers d l1 h21) (fun x25 h24 => G_X4_clause_77 d l1 x25 h24)))) := by
  refine mX_cki (k' := 65) (ls' := [some (.ref 55), some (.int l1), none]) (st' := []) (h' := (sI h 55 8 s0)) (and_iff_right (k_55 L)) rfl fun c19 => ?_
  refine lt_geq2 (X := fun h20 : MH => mX (mE mtab d) KX4_clause 65 [some (.ref 55), some (.int l1), none] [] h20) (a := (sI h 55 8 s0)) (a' := (sI h 55 8 s0)) rfl fun h20 eh20 => ?_
  have L20 : lay h20 := eh20 ▸ layI L (by decide)
  refine mX_to 1 (k' := 66) (ls' := [some (.ref 55), some (.int l1), none]) (st' := [.ref 55]) (h' := h20) rfl ?_
  refine mX_ckct (m := mcl (mE mtab d 70 [.ref 55] h20) 0 67 [some (.ref 55), some (.int l1), none] []) (k_55 L20) rfl ?_
  refine mk_cVe (o := F_X4_advance d h20) ?_
  intro wh21 h21 eh21
  have L21 : lay h21 := lay_call d 70 [.ref 55] h20 _ h21 rfl eh21 L20
  refine mX_to 2 (k' := 69) (ls' := [some (.ref 55), some (.int l1), none]) (st' := [.int 301, .int l1]) (h' := h21) rfl ?_
  refine mX_br (t := 70) (f := 74) (ls' := [some (.ref 55), some (.int l1), none]) (st' := []) (h' := h21) rfl ?_ ?_
  · refine mX_to 2 (k' := 72) (ls' := [some (.ref 55), some (.int l1), none]) (st' := [.int 0, .ref 55]) (h' := h21) rfl ?_
    refine mX_ckct (m := mcl (mE mtab d 84 [.ref 55, .int 0] h21) 1 73 [some (.ref 55), some (.int l1), none] []) (k_55 L21) rfl ?_
    refine mk_cIe (o := F_X4_sum d 0 h21) ?_
    intro x23 h22 eh22
    have L22 : lay h22 := lay_call d 84 [.ref 55, .int 0] h21 _ h22 rfl eh22 L21
    refine mX_to 1 (k' := 77) (ls' := [some (.ref 55), some (.int l1), none]) (st' := [.int x23]) (h' := h22) rfl ?_
    rfl
  · refine mX_to 2 (k' := 76) (ls' := [some (.ref 55), some (.int l1), none]) (st' := [.int l1, .ref 55]) (h' := h21) rfl ?_
    refine mX_ckct (m := mcl (mE mtab d 87 [.ref 55, .int l1] h21) 1 77 [some (.ref 55), some (.int l1), none] []) (k_55 L21) rfl ?_
    refine mk_cIe (o := F_X4_numbers d l1 h21) ?_
    intro x25 h24 eh24
    have L24 : lay h24 := lay_call d 87 [.ref 55, .int l1] h21 _ h24 rfl eh24 L21
    rfl
theorem S_X4_clause_77 {h : MH} (L : lay h) (d : Nat) (l1 : Int32) (s0 : Int32) : G_X4_clause_77 d l1 s0 h = (if s0 = 0 then some (.int 0, h) else cI (F_X4_expect d 59 h) (fun x27 h26 => (if x27 = 0 then some (.int 0, h26) else cV (F_X4_keepLaw d l1 h26) (fun h28 => lt_ (sI h28 55 6 ((gI h28 55 6) + 1)) fun h30 => some (.int 1, h30))))) := by
  refine mX_to 2 (k' := 79) (ls' := [some (.ref 55), some (.int l1), some (.int s0)]) (st' := [.int s0]) (h' := h) rfl ?_
  refine mX_br (t := 84) (f := 80) (ls' := [some (.ref 55), some (.int l1), some (.int s0)]) (st' := []) (h' := h) rfl ?_ ?_
  · refine mX_to 1 (k' := 85) (ls' := [some (.ref 55), some (.int l1), some (.int s0)]) (st' := [.int 0]) (h' := h) rfl ?_
    exact mX_retb (by decide) rfl
  · refine mX_to 2 (k' := 82) (ls' := [some (.ref 55), some (.int l1), some (.int s0)]) (st' := [.int 59, .ref 55]) (h' := h) rfl ?_
    refine mX_ckct (m := mcl (mE mtab d 74 [.ref 55, .int 59] h) 1 83 [some (.ref 55), some (.int l1), some (.int s0)] []) (k_55 L) rfl ?_
    refine mk_cIe (o := F_X4_expect d 59 h) ?_
    intro x27 h26 eh26
    have L26 : lay h26 := lay_call d 74 [.ref 55, .int 59] h _ h26 rfl eh26 L
    refine mX_br (t := 84) (f := 86) (ls' := [some (.ref 55), some (.int l1), some (.int s0)]) (st' := []) (h' := h26) rfl ?_ ?_
    · refine mX_to 1 (k' := 85) (ls' := [some (.ref 55), some (.int l1), some (.int s0)]) (st' := [.int 0]) (h' := h26) rfl ?_
      exact mX_retb (by decide) rfl
    · refine mX_to 2 (k' := 88) (ls' := [some (.ref 55), some (.int l1), some (.int s0)]) (st' := [.int l1, .ref 55]) (h' := h26) rfl ?_
      refine mX_ckct (m := mcl (mE mtab d 90 [.ref 55, .int l1] h26) 0 89 [some (.ref 55), some (.int l1), some (.int s0)] []) (k_55 L26) rfl ?_
      refine mk_cVe (o := F_X4_keepLaw d l1 h26) ?_
      intro wh28 h28 eh28
      have L28 : lay h28 := lay_call d 90 [.ref 55, .int l1] h26 _ h28 rfl eh28 L26
      refine mX_to 2 (k' := 91) (ls' := [some (.ref 55), some (.int l1), some (.int s0)]) (st' := [.ref 55, .ref 55]) (h' := h28) rfl ?_
      refine mX_ckv (v := .int (gI h28 55 6)) (v' := .int (gI h28 55 6)) (k' := 92) (ls' := [some (.ref 55), some (.int l1), some (.int s0)]) (st' := [.ref 55]) (h' := h28) (k_55 L28) rfl rfl ?_
      refine mX_to 2 (k' := 94) (ls' := [some (.ref 55), some (.int l1), some (.int s0)]) (st' := [.int ((gI h28 55 6) + 1), .ref 55]) (h' := h28) rfl ?_
      refine mX_ckt (k' := 95) (ls' := [some (.ref 55), some (.int l1), some (.int s0)]) (st' := []) (h' := (sI h28 55 6 ((gI h28 55 6) + 1))) (k_55 L28) rfl ?_
      refine lt_geq2 (X := fun h30 : MH => mX (mE mtab d) KX4_clause 95 [some (.ref 55), some (.int l1), some (.int s0)] [] h30) (a := (sI h28 55 6 ((gI h28 55 6) + 1))) (a' := (sI h28 55 6 ((gI h28 55 6) + 1))) rfl fun h30 eh30 => ?_
      have L30 : lay h30 := eh30 ▸ layI L28 (by decide)
      refine mX_to 1 (k' := 96) (ls' := [some (.ref 55), some (.int l1), some (.int s0)]) (st' := [.int 1]) (h' := h30) rfl ?_
      exact mX_retb (by decide) rfl
theorem S_X4_clause {h : MH} (L : lay h) (d : Nat) : F_X4_clause (d + 1) h = cI (F_X4_kind d h) (fun x2 h1 => cI (F_X10_within d x2 300 307 h1) (fun x4 h3 => (if x4 = 0 then cI (F_X4_refuse d 1 h3) (fun x6 h5 => ck (mrt 1 x6) (some (.int x6, h5))) else (if x2 = 300 then (if (gR h3 55 9) = 0 then G_X4_clause_18 d x2 h3 else G_X4_clause_24 d x2 h3) else G_X4_clause_18 d x2 h3)))) := by
  refine mE_eq (q := (yX4_clause, cX4_clause, 3, (some .boolean), KX4_clause)) (C := KX4_clause) (ls := [some (.ref 55), none, none]) rfl rfl rfl rfl ?_
  refine mX_to 1 (k' := 1) (ls' := [some (.ref 55), none, none]) (st' := [.ref 55]) (h' := h) rfl ?_
  refine mX_ckct (m := mcl (mE mtab d 68 [.ref 55] h) 1 2 [some (.ref 55), none, none] []) (k_55 L) rfl ?_
  refine mk_cIe (o := F_X4_kind d h) ?_
  intro x2 h1 eh1
  have L1 : lay h1 := lay_call d 68 [.ref 55] h _ h1 rfl eh1 L
  refine mX_to 4 (k' := 6) (ls' := [some (.ref 55), some (.int x2), none]) (st' := [.int 307, .int 300, .int x2]) (h' := h1) rfl ?_
  refine mX_cIe (o := F_X10_within d x2 300 307 h1) (k' := 7) (ls' := [some (.ref 55), some (.int x2), none]) (st' := []) rfl ?_
  intro x4 h3 eh3
  have L3 : lay h3 := lay_call d 11 [.int x2, .int 300, .int 307] h1 _ h3 rfl eh3 L1
  refine mX_br (t := 8) (f := 12) (ls' := [some (.ref 55), some (.int x2), none]) (st' := []) (h' := h3) rfl ?_ ?_
  · refine mX_to 2 (k' := 10) (ls' := [some (.ref 55), some (.int x2), none]) (st' := [.int 1, .ref 55]) (h' := h3) rfl ?_
    refine mX_ckct (m := mcl (mE mtab d 69 [.ref 55, .int 1] h3) 1 11 [some (.ref 55), some (.int x2), none] []) (k_55 L3) rfl ?_
    refine mk_cIe (o := F_X4_refuse d 1 h3) ?_
    intro x6 h5 eh5
    have L5 : lay h5 := lay_call d 69 [.ref 55, .int 1] h3 _ h5 rfl eh5 L3
    exact mX_retc rfl
  · refine mX_to 2 (k' := 14) (ls' := [some (.ref 55), some (.int x2), none]) (st' := [.int 300, .int x2]) (h' := h3) rfl ?_
    refine mX_br (t := 15) (f := 18) (ls' := [some (.ref 55), some (.int x2), none]) (st' := []) (h' := h3) rfl ?_ ?_
    · refine mX_to 1 (k' := 16) (ls' := [some (.ref 55), some (.int x2), none]) (st' := [.ref 55]) (h' := h3) rfl ?_
      refine mX_ckv (v := .ref (gR h3 55 9)) (v' := .ref (gR h3 55 9)) (k' := 17) (ls' := [some (.ref 55), some (.int x2), none]) (st' := []) (h' := h3) (k_55 L3) rfl rfl ?_
      refine mX_br (t := 18) (f := 24) (ls' := [some (.ref 55), some (.int x2), none]) (st' := []) (h' := h3) rfl ?_ ?_
      · rfl
      · rfl
    · rfl
theorem S_X4_read_23 {h : MH} (L : lay h) (d : Nat) (l1 : Int32) : G_X4_read_23 d l1 h = (if l1 ≤ 24 then cI (F_X4_kind d h) (fun x15 h14 => (if x15 = 259 then G_X4_read_37 d l1 h14 else cI (F_X4_clause d h14) (fun x17 h16 => (if x17 = 0 then some (.ref 0, h16) else G_X4_read_23 d (l1 + 1) h16)))) else G_X4_read_37 d l1 h) := by
  refine mX_to 2 (k' := 25) (ls' := [some (.ref 55), some (.int l1)]) (st' := [.int 24, .int l1]) (h' := h) rfl ?_
  refine mX_br (t := 26) (f := 37) (ls' := [some (.ref 55), some (.int l1)]) (st' := []) (h' := h) rfl ?_ ?_
  · refine mX_to 1 (k' := 27) (ls' := [some (.ref 55), some (.int l1)]) (st' := [.ref 55]) (h' := h) rfl ?_
    refine mX_ckct (m := mcl (mE mtab d 68 [.ref 55] h) 1 28 [some (.ref 55), some (.int l1)] []) (k_55 L) rfl ?_
    refine mk_cIe (o := F_X4_kind d h) ?_
    intro x15 h14 eh14
    have L14 : lay h14 := lay_call d 68 [.ref 55] h _ h14 rfl eh14 L
    refine mX_to 1 (k' := 29) (ls' := [some (.ref 55), some (.int l1)]) (st' := [.int 259, .int x15]) (h' := h14) rfl ?_
    refine mX_br (t := 37) (f := 30) (ls' := [some (.ref 55), some (.int l1)]) (st' := []) (h' := h14) rfl ?_ ?_
    · rfl
    · refine mX_to 1 (k' := 31) (ls' := [some (.ref 55), some (.int l1)]) (st' := [.ref 55]) (h' := h14) rfl ?_
      refine mX_ckct (m := mcl (mE mtab d 91 [.ref 55] h14) 1 32 [some (.ref 55), some (.int l1)] []) (k_55 L14) rfl ?_
      refine mk_cIe (o := F_X4_clause d h14) ?_
      intro x17 h16 eh16
      have L16 : lay h16 := lay_call d 91 [.ref 55] h14 _ h16 rfl eh16 L14
      refine mX_br (t := 33) (f := 35) (ls' := [some (.ref 55), some (.int l1)]) (st' := []) (h' := h16) rfl ?_ ?_
      · refine mX_to 1 (k' := 34) (ls' := [some (.ref 55), some (.int l1)]) (st' := [.ref 0]) (h' := h16) rfl ?_
        exact mX_ret rfl
      · refine mX_to 2 (k' := 23) (ls' := [some (.ref 55), some (.int (l1 + 1))]) (st' := []) (h' := h16) rfl ?_
        rfl
  · rfl
theorem S_X4_read_37 {h : MH} (L : lay h) (d : Nat) (l1 : Int32) : G_X4_read_37 d l1 h = lt_ (mA h 9 5) fun h18 => cR (mE mtab d 88 [.ref 56, .int (gI h18 55 6)] h18) (fun x20 h19 => cR (mE mtab d 88 [.ref 57, .int (gI h19 55 6)] h19) (fun x22 h21 => cR (mE mtab d 88 [.ref 58, .int (gI h21 55 6)] h21) (fun x24 h23 => ck (kd h23 (mN h) = 9) (cV (mE mtab d 92 [.ref (mN h), .ref (gR h18 55 9), .ref (gR h18 55 10), .ref x20, .ref x22, .ref x24] h23) (fun h25 => some (.ref (mN h), h25)))))) := by
  refine mX_to 1 (k' := 38) (ls' := [some (.ref 55), some (.int l1)]) (st' := [.ref (mN h)]) (h' := (mA h 9 5)) rfl ?_
  refine lt_geq (X := fun h18 : MH => mX (mE mtab d) KX4_read 38 [some (.ref 55), some (.int l1)] [.ref (mN h)] h18) fun h18 eh18 => ?_
  have L18 : lay h18 := eh18 ▸ lay_mA L
  refine mX_to 2 (k' := 40) (ls' := [some (.ref 55), some (.int l1)]) (st' := [.ref 55, .ref (mN h), .ref (mN h)]) (h' := h18) rfl ?_
  refine mX_ckv (v := .ref (gR h18 55 9)) (v' := .ref (gR h18 55 9)) (k' := 41) (ls' := [some (.ref 55), some (.int l1)]) (st' := [.ref (mN h), .ref (mN h)]) (h' := h18) (k_55 L18) rfl rfl ?_
  refine mX_to 1 (k' := 42) (ls' := [some (.ref 55), some (.int l1)]) (st' := [.ref 55, .ref (gR h18 55 9), .ref (mN h), .ref (mN h)]) (h' := h18) rfl ?_
  refine mX_ckv (v := .ref (gR h18 55 10)) (v' := .ref (gR h18 55 10)) (k' := 43) (ls' := [some (.ref 55), some (.int l1)]) (st' := [.ref (gR h18 55 9), .ref (mN h), .ref (mN h)]) (h' := h18) (k_55 L18) rfl rfl ?_
  refine mX_to 1 (k' := 44) (ls' := [some (.ref 55), some (.int l1)]) (st' := [.ref 55, .ref (gR h18 55 10), .ref (gR h18 55 9), .ref (mN h), .ref (mN h)]) (h' := h18) rfl ?_
  refine mX_ckv (v := .ref (gR h18 55 1)) (v' := .ref 56) (k' := 45) (ls' := [some (.ref 55), some (.int l1)]) (st' := [.ref (gR h18 55 10), .ref (gR h18 55 9), .ref (mN h), .ref (mN h)]) (h' := h18) (k_55 L18) (congrArg Value.ref (r_55_1 L18)) rfl ?_
  refine mX_to 1 (k' := 46) (ls' := [some (.ref 55), some (.int l1)]) (st' := [.ref 55, .ref 56, .ref (gR h18 55 10), .ref (gR h18 55 9), .ref (mN h), .ref (mN h)]) (h' := h18) rfl ?_
  refine mX_ckv (v := .int (gI h18 55 6)) (v' := .int (gI h18 55 6)) (k' := 47) (ls' := [some (.ref 55), some (.int l1)]) (st' := [.ref 56, .ref (gR h18 55 10), .ref (gR h18 55 9), .ref (mN h), .ref (mN h)]) (h' := h18) (k_55 L18) rfl rfl ?_
  refine mX_cRe (o := mE mtab d 88 [.ref 56, .int (gI h18 55 6)] h18) (k' := 48) (ls' := [some (.ref 55), some (.int l1)]) (st' := [.ref (gR h18 55 10), .ref (gR h18 55 9), .ref (mN h), .ref (mN h)]) rfl ?_
  intro x20 h19 eh19
  have L19 : lay h19 := lay_call d 88 [.ref 56, .int (gI h18 55 6)] h18 _ h19 rfl eh19 L18
  refine mX_to 1 (k' := 49) (ls' := [some (.ref 55), some (.int l1)]) (st' := [.ref 55, .ref x20, .ref (gR h18 55 10), .ref (gR h18 55 9), .ref (mN h), .ref (mN h)]) (h' := h19) rfl ?_
  refine mX_ckv (v := .ref (gR h19 55 2)) (v' := .ref 57) (k' := 50) (ls' := [some (.ref 55), some (.int l1)]) (st' := [.ref x20, .ref (gR h18 55 10), .ref (gR h18 55 9), .ref (mN h), .ref (mN h)]) (h' := h19) (k_55 L19) (congrArg Value.ref (r_55_2 L19)) rfl ?_
  refine mX_to 1 (k' := 51) (ls' := [some (.ref 55), some (.int l1)]) (st' := [.ref 55, .ref 57, .ref x20, .ref (gR h18 55 10), .ref (gR h18 55 9), .ref (mN h), .ref (mN h)]) (h' := h19) rfl ?_
  refine mX_ckv (v := .int (gI h19 55 6)) (v' := .int (gI h19 55 6)) (k' := 52) (ls' := [some (.ref 55), some (.int l1)]) (st' := [.ref 57, .ref x20, .ref (gR h18 55 10), .ref (gR h18 55 9), .ref (mN h), .ref (mN h)]) (h' := h19) (k_55 L19) rfl rfl ?_
  refine mX_cRe (o := mE mtab d 88 [.ref 57, .int (gI h19 55 6)] h19) (k' := 53) (ls' := [some (.ref 55), some (.int l1)]) (st' := [.ref x20, .ref (gR h18 55 10), .ref (gR h18 55 9), .ref (mN h), .ref (mN h)]) rfl ?_
  intro x22 h21 eh21
  have L21 : lay h21 := lay_call d 88 [.ref 57, .int (gI h19 55 6)] h19 _ h21 rfl eh21 L19
  refine mX_to 1 (k' := 54) (ls' := [some (.ref 55), some (.int l1)]) (st' := [.ref 55, .ref x22, .ref x20, .ref (gR h18 55 10), .ref (gR h18 55 9), .ref (mN h), .ref (mN h)]) (h' := h21) rfl ?_
  refine mX_ckv (v := .ref (gR h21 55 3)) (v' := .ref 58) (k' := 55) (ls' := [some (.ref 55), some (.int l1)]) (st' := [.ref x22, .ref x20, .ref (gR h18 55 10), .ref (gR h18 55 9), .ref (mN h), .ref (mN h)]) (h' := h21) (k_55 L21) (congrArg Value.ref (r_55_3 L21)) rfl ?_
  refine mX_to 1 (k' := 56) (ls' := [some (.ref 55), some (.int l1)]) (st' := [.ref 55, .ref 58, .ref x22, .ref x20, .ref (gR h18 55 10), .ref (gR h18 55 9), .ref (mN h), .ref (mN h)]) (h' := h21) rfl ?_
  refine mX_ckv (v := .int (gI h21 55 6)) (v' := .int (gI h21 55 6)) (k' := 57) (ls' := [some (.ref 55), some (.int l1)]) (st' := [.ref 58, .ref x22, .ref x20, .ref (gR h18 55 10), .ref (gR h18 55 9), .ref (mN h), .ref (mN h)]) (h' := h21) (k_55 L21) rfl rfl ?_
  refine mX_cRe (o := mE mtab d 88 [.ref 58, .int (gI h21 55 6)] h21) (k' := 58) (ls' := [some (.ref 55), some (.int l1)]) (st' := [.ref x22, .ref x20, .ref (gR h18 55 10), .ref (gR h18 55 9), .ref (mN h), .ref (mN h)]) rfl ?_
  intro x24 h23 eh23
  have L23 : lay h23 := lay_call d 88 [.ref 58, .int (gI h21 55 6)] h21 _ h23 rfl eh23 L21
  refine mX_ckc (m := mcl (mE mtab d 92 [.ref (mN h), .ref (gR h18 55 9), .ref (gR h18 55 10), .ref x20, .ref x22, .ref x24] h23) 0 59 [some (.ref 55), some (.int l1)] [.ref (mN h)]) rfl ?_
  refine mk_cVe (o := mE mtab d 92 [.ref (mN h), .ref (gR h18 55 9), .ref (gR h18 55 10), .ref x20, .ref x22, .ref x24] h23) ?_
  intro wh25 h25 eh25
  have L25 : lay h25 := lay_call d 92 [.ref (mN h), .ref (gR h18 55 9), .ref (gR h18 55 10), .ref x20, .ref x22, .ref x24] h23 _ h25 rfl eh25 L23
  exact mX_ret rfl
theorem S_X4_read {h : MH} (L : lay h) (d : Nat) : F_X4_read (d + 1) h = lt_ (sI h 55 5 0) fun h2 => lt_ (sI h2 55 6 0) fun h4 => lt_ (sR h4 55 9 0) fun h6 => lt_ (sR h6 55 10 0) fun h8 => lt_ (sI h8 55 11 0) fun h10 => lt_ (sI h10 55 12 (-1)) fun h12 => cV (F_X7_cut d h12) (fun h13 => G_X4_read_23 d 0 h13) := by
  refine mE_eq (q := (yX4_read, cX4_read, 2, (some (.object "BoroughBeam$Text")), KX4_read)) (C := KX4_read) (ls := [some (.ref 55), none]) rfl rfl rfl rfl ?_
  refine mX_to 2 (k' := 2) (ls' := [some (.ref 55), none]) (st' := [.int 0, .ref 55]) (h' := h) rfl ?_
  refine mX_ckt (k' := 3) (ls' := [some (.ref 55), none]) (st' := []) (h' := (sI h 55 5 0)) (k_55 L) rfl ?_
  refine lt_geq2 (X := fun h2 : MH => mX (mE mtab d) KX4_read 3 [some (.ref 55), none] [] h2) (a := (sI h 55 5 0)) (a' := (sI h 55 5 0)) rfl fun h2 eh2 => ?_
  have L2 : lay h2 := eh2 ▸ layI L (by decide)
  refine mX_to 2 (k' := 5) (ls' := [some (.ref 55), none]) (st' := [.int 0, .ref 55]) (h' := h2) rfl ?_
  refine mX_ckt (k' := 6) (ls' := [some (.ref 55), none]) (st' := []) (h' := (sI h2 55 6 0)) (k_55 L2) rfl ?_
  refine lt_geq2 (X := fun h4 : MH => mX (mE mtab d) KX4_read 6 [some (.ref 55), none] [] h4) (a := (sI h2 55 6 0)) (a' := (sI h2 55 6 0)) rfl fun h4 eh4 => ?_
  have L4 : lay h4 := eh4 ▸ layI L2 (by decide)
  refine mX_to 2 (k' := 8) (ls' := [some (.ref 55), none]) (st' := [.ref 0, .ref 55]) (h' := h4) rfl ?_
  refine mX_ckt (k' := 9) (ls' := [some (.ref 55), none]) (st' := []) (h' := (sR h4 55 9 0)) (k_55 L4) rfl ?_
  refine lt_geq2 (X := fun h6 : MH => mX (mE mtab d) KX4_read 9 [some (.ref 55), none] [] h6) (a := (sR h4 55 9 0)) (a' := (sR h4 55 9 0)) rfl fun h6 eh6 => ?_
  have L6 : lay h6 := eh6 ▸ layR L4 (by decide)
  refine mX_to 2 (k' := 11) (ls' := [some (.ref 55), none]) (st' := [.ref 0, .ref 55]) (h' := h6) rfl ?_
  refine mX_ckt (k' := 12) (ls' := [some (.ref 55), none]) (st' := []) (h' := (sR h6 55 10 0)) (k_55 L6) rfl ?_
  refine lt_geq2 (X := fun h8 : MH => mX (mE mtab d) KX4_read 12 [some (.ref 55), none] [] h8) (a := (sR h6 55 10 0)) (a' := (sR h6 55 10 0)) rfl fun h8 eh8 => ?_
  have L8 : lay h8 := eh8 ▸ layR L6 (by decide)
  refine mX_to 2 (k' := 14) (ls' := [some (.ref 55), none]) (st' := [.int 0, .ref 55]) (h' := h8) rfl ?_
  refine mX_ckt (k' := 15) (ls' := [some (.ref 55), none]) (st' := []) (h' := (sI h8 55 11 0)) (k_55 L8) rfl ?_
  refine lt_geq2 (X := fun h10 : MH => mX (mE mtab d) KX4_read 15 [some (.ref 55), none] [] h10) (a := (sI h8 55 11 0)) (a' := (sI h8 55 11 0)) rfl fun h10 eh10 => ?_
  have L10 : lay h10 := eh10 ▸ layI L8 (by decide)
  refine mX_to 2 (k' := 17) (ls' := [some (.ref 55), none]) (st' := [.int (-1), .ref 55]) (h' := h10) rfl ?_
  refine mX_ckt (k' := 18) (ls' := [some (.ref 55), none]) (st' := []) (h' := (sI h10 55 12 (-1))) (k_55 L10) rfl ?_
  refine lt_geq2 (X := fun h12 : MH => mX (mE mtab d) KX4_read 18 [some (.ref 55), none] [] h12) (a := (sI h10 55 12 (-1))) (a' := (sI h10 55 12 (-1))) rfl fun h12 eh12 => ?_
  have L12 : lay h12 := eh12 ▸ layI L10 (by decide)
  refine mX_to 1 (k' := 19) (ls' := [some (.ref 55), none]) (st' := [.ref 55]) (h' := h12) rfl ?_
  refine mX_ckv (v := .ref (gR h12 55 0)) (v' := .ref 50) (k' := 20) (ls' := [some (.ref 55), none]) (st' := []) (h' := h12) (k_55 L12) (congrArg Value.ref (r_55_0 L12)) rfl ?_
  refine mX_ckct (m := mcl (mE mtab d 67 [.ref 50] h12) 0 21 [some (.ref 55), none] []) (k_50 L12) rfl ?_
  refine mk_cVe (o := F_X7_cut d h12) ?_
  intro wh13 h13 eh13
  have L13 : lay h13 := lay_call d 67 [.ref 50] h12 _ h13 rfl eh13 L12
  refine mX_to 2 (k' := 23) (ls' := [some (.ref 55), some (.int 0)]) (st' := []) (h' := h13) rfl ?_
  rfl
theorem S_X0_addText {h : MH} (L : lay h) (d : Nat) (a1 : Nat) : F_X0_addText (d + 1) a1 h = (if (gI h 9 4) < 4 then ck (ib (gI h 9 4) 4 ∧ (a1 = 0 ∨ kd h a1 = 9)) (lt_ (sR h 23 (ix (gI h 9 4)) a1) fun h2 => lt_ (sI h2 9 4 ((gI h2 9 4) + 1)) fun h4 => some (.int ((gI h4 9 4) - 1), h4)) else some (.int (-1), h)) := by
  refine mE_eq (q := (yX0_addText, cX0_addText, 2, (some .int), KX0_addText)) (C := KX0_addText) (ls := [some (.ref 9), some (.ref a1)]) rfl rfl rfl rfl ?_
  refine mX_to 1 (k' := 1) (ls' := [some (.ref 9), some (.ref a1)]) (st' := [.ref 9]) (h' := h) rfl ?_
  refine mX_ckv (v := .int (gI h 9 4)) (v' := .int (gI h 9 4)) (k' := 2) (ls' := [some (.ref 9), some (.ref a1)]) (st' := []) (h' := h) (k_9 L) rfl rfl ?_
  refine mX_to 1 (k' := 3) (ls' := [some (.ref 9), some (.ref a1)]) (st' := [.int 4, .int (gI h 9 4)]) (h' := h) rfl ?_
  refine mX_br (t := 6) (f := 4) (ls' := [some (.ref 9), some (.ref a1)]) (st' := []) (h' := h) rfl ?_ ?_
  · refine mX_to 1 (k' := 7) (ls' := [some (.ref 9), some (.ref a1)]) (st' := [.ref 9]) (h' := h) rfl ?_
    refine mX_ckv (v := .ref (gR h 9 3)) (v' := .ref 23) (k' := 8) (ls' := [some (.ref 9), some (.ref a1)]) (st' := []) (h' := h) (k_9 L) (congrArg Value.ref (r_9_3 L)) rfl ?_
    refine mX_to 1 (k' := 9) (ls' := [some (.ref 9), some (.ref a1)]) (st' := [.ref 9, .ref 23]) (h' := h) rfl ?_
    refine mX_ckv (v := .int (gI h 9 4)) (v' := .int (gI h 9 4)) (k' := 10) (ls' := [some (.ref 9), some (.ref a1)]) (st' := [.ref 23]) (h' := h) (k_9 L) rfl rfl ?_
    refine mX_to 1 (k' := 11) (ls' := [some (.ref 9), some (.ref a1)]) (st' := [.ref a1, .int (gI h 9 4), .ref 23]) (h' := h) rfl ?_
    refine mX_cki (k' := 12) (ls' := [some (.ref 9), some (.ref a1)]) (st' := []) (h' := (sR h 23 (ix (gI h 9 4)) a1)) (ckA3 (k_23 L) (n_23 L)) rfl fun c1 => ?_
    refine lt_geq2 (X := fun h2 : MH => mX (mE mtab d) KX0_addText 12 [some (.ref 9), some (.ref a1)] [] h2) (a := (sR h 23 (ix (gI h 9 4)) a1)) (a' := (sR h 23 (ix (gI h 9 4)) a1)) rfl fun h2 eh2 => ?_
    have L2 : lay h2 := eh2 ▸ layRA L (by decide)
    refine mX_to 2 (k' := 14) (ls' := [some (.ref 9), some (.ref a1)]) (st' := [.ref 9, .ref 9]) (h' := h2) rfl ?_
    refine mX_ckv (v := .int (gI h2 9 4)) (v' := .int (gI h2 9 4)) (k' := 15) (ls' := [some (.ref 9), some (.ref a1)]) (st' := [.ref 9]) (h' := h2) (k_9 L2) rfl rfl ?_
    refine mX_to 2 (k' := 17) (ls' := [some (.ref 9), some (.ref a1)]) (st' := [.int ((gI h2 9 4) + 1), .ref 9]) (h' := h2) rfl ?_
    refine mX_ckt (k' := 18) (ls' := [some (.ref 9), some (.ref a1)]) (st' := []) (h' := (sI h2 9 4 ((gI h2 9 4) + 1))) (k_9 L2) rfl ?_
    refine lt_geq2 (X := fun h4 : MH => mX (mE mtab d) KX0_addText 18 [some (.ref 9), some (.ref a1)] [] h4) (a := (sI h2 9 4 ((gI h2 9 4) + 1))) (a' := (sI h2 9 4 ((gI h2 9 4) + 1))) rfl fun h4 eh4 => ?_
    have L4 : lay h4 := eh4 ▸ layI L2 (by decide)
    refine mX_to 1 (k' := 19) (ls' := [some (.ref 9), some (.ref a1)]) (st' := [.ref 9]) (h' := h4) rfl ?_
    refine mX_ckv (v := .int (gI h4 9 4)) (v' := .int (gI h4 9 4)) (k' := 20) (ls' := [some (.ref 9), some (.ref a1)]) (st' := []) (h' := h4) (k_9 L4) rfl rfl ?_
    refine mX_to 2 (k' := 22) (ls' := [some (.ref 9), some (.ref a1)]) (st' := [.int ((gI h4 9 4) - 1)]) (h' := h4) rfl ?_
    exact mX_reti rfl
  · refine mX_to 1 (k' := 5) (ls' := [some (.ref 9), some (.ref a1)]) (st' := [.int (-1)]) (h' := h) rfl ?_
    exact mX_reti rfl
theorem S_X10_text {h : MH} (L : lay h) (d : Nat) : F_X10_text (d + 1) h = (if (gI h 9 4) < 4 then cR (F_X4_read d h) (fun x2 h1 => lt_ (sI h1 50 1 0) fun h4 => (if x2 = 0 then some (.int (-1), h4) else cI (F_X0_addText d x2 h4) (fun x6 h5 => some (.int x6, h5)))) else some (.int (-1), h)) := by
  refine mE_eq (q := (yX10_text, cX10_text, 2, (some .int), KX10_text)) (C := KX10_text) (ls := [some (.ref 8), none]) rfl rfl rfl rfl ?_
  refine mX_to 1 (k' := 1) (ls' := [some (.ref 8), none]) (st' := [.ref 8]) (h' := h) rfl ?_
  refine mX_ckv (v := .ref (gR h 8 0)) (v' := .ref 9) (k' := 2) (ls' := [some (.ref 8), none]) (st' := []) (h' := h) (k_8 L) (congrArg Value.ref (r_8_0 L)) rfl ?_
  refine mX_ckv (v := .int (gI h 9 4)) (v' := .int (gI h 9 4)) (k' := 3) (ls' := [some (.ref 8), none]) (st' := []) (h' := h) (k_9 L) rfl rfl ?_
  refine mX_to 1 (k' := 4) (ls' := [some (.ref 8), none]) (st' := [.int 4, .int (gI h 9 4)]) (h' := h) rfl ?_
  refine mX_br (t := 7) (f := 5) (ls' := [some (.ref 8), none]) (st' := []) (h' := h) rfl ?_ ?_
  · refine mX_to 1 (k' := 8) (ls' := [some (.ref 8), none]) (st' := [.ref 8]) (h' := h) rfl ?_
    refine mX_ckv (v := .ref (gR h 8 4)) (v' := .ref 55) (k' := 9) (ls' := [some (.ref 8), none]) (st' := []) (h' := h) (k_8 L) (congrArg Value.ref (r_8_4 L)) rfl ?_
    refine mX_ckct (m := mcl (mE mtab d 93 [.ref 55] h) 3 10 [some (.ref 8), none] []) (k_55 L) rfl ?_
    refine mk_cRe (o := F_X4_read d h) ?_
    intro x2 h1 eh1
    have L1 : lay h1 := lay_call d 93 [.ref 55] h _ h1 rfl eh1 L
    refine mX_to 2 (k' := 12) (ls' := [some (.ref 8), some (.ref x2)]) (st' := [.ref 8]) (h' := h1) rfl ?_
    refine mX_ckv (v := .ref (gR h1 8 3)) (v' := .ref 50) (k' := 13) (ls' := [some (.ref 8), some (.ref x2)]) (st' := []) (h' := h1) (k_8 L1) (congrArg Value.ref (r_8_3 L1)) rfl ?_
    refine mX_to 1 (k' := 14) (ls' := [some (.ref 8), some (.ref x2)]) (st' := [.int 0, .ref 50]) (h' := h1) rfl ?_
    refine mX_ckt (k' := 15) (ls' := [some (.ref 8), some (.ref x2)]) (st' := []) (h' := (sI h1 50 1 0)) (k_50 L1) rfl ?_
    refine lt_geq2 (X := fun h4 : MH => mX (mE mtab d) KX10_text 15 [some (.ref 8), some (.ref x2)] [] h4) (a := (sI h1 50 1 0)) (a' := (sI h1 50 1 0)) rfl fun h4 eh4 => ?_
    have L4 : lay h4 := eh4 ▸ layI L1 (by decide)
    refine mX_to 1 (k' := 16) (ls' := [some (.ref 8), some (.ref x2)]) (st' := [.ref x2]) (h' := h4) rfl ?_
    refine mX_br (t := 17) (f := 19) (ls' := [some (.ref 8), some (.ref x2)]) (st' := []) (h' := h4) rfl ?_ ?_
    · refine mX_to 2 (k' := 23) (ls' := [some (.ref 8), some (.ref x2)]) (st' := [.int (-1)]) (h' := h4) rfl ?_
      exact mX_reti rfl
    · refine mX_to 1 (k' := 20) (ls' := [some (.ref 8), some (.ref x2)]) (st' := [.ref 8]) (h' := h4) rfl ?_
      refine mX_ckv (v := .ref (gR h4 8 0)) (v' := .ref 9) (k' := 21) (ls' := [some (.ref 8), some (.ref x2)]) (st' := []) (h' := h4) (k_8 L4) (congrArg Value.ref (r_8_0 L4)) rfl ?_
      refine mX_to 1 (k' := 22) (ls' := [some (.ref 8), some (.ref x2)]) (st' := [.ref x2, .ref 9]) (h' := h4) rfl ?_
      refine mX_ckct (m := mcl (mE mtab d 94 [.ref 9, .ref x2] h4) 1 23 [some (.ref 8), some (.ref x2)] []) (k_9 L4) rfl ?_
      refine mk_cIe (o := F_X0_addText d x2 h4) ?_
      intro x6 h5 eh5
      have L5 : lay h5 := lay_call d 94 [.ref 9, .ref x2] h4 _ h5 rfl eh5 L4
      exact mX_reti rfl
  · refine mX_to 1 (k' := 6) (ls' := [some (.ref 8), none]) (st' := [.int (-1)]) (h' := h) rfl ?_
    exact mX_reti rfl
theorem S_X11_byteAt {h : MH} (L : lay h) (d : Nat) (a1 : Int32) : F_X11_byteAt (d + 1) a1 h = (if a1 < (gI h 67 4) then ck (ib a1 300) (some (.int (gI h 71 (ix a1)), h)) else some (.int (-1), h)) := by
  refine mE_eq (q := (yX11_byteAt, cX11_byteAt, 2, (some .int), KX11_byteAt)) (C := KX11_byteAt) (ls := [some (.ref 67), some (.int a1)]) rfl rfl rfl rfl ?_
  refine mX_to 2 (k' := 2) (ls' := [some (.ref 67), some (.int a1)]) (st' := [.ref 67, .int a1]) (h' := h) rfl ?_
  refine mX_ckv (v := .int (gI h 67 4)) (v' := .int (gI h 67 4)) (k' := 3) (ls' := [some (.ref 67), some (.int a1)]) (st' := [.int a1]) (h' := h) (k_67 L) rfl rfl ?_
  refine mX_br (t := 4) (f := 9) (ls' := [some (.ref 67), some (.int a1)]) (st' := []) (h' := h) rfl ?_ ?_
  · refine mX_to 1 (k' := 5) (ls' := [some (.ref 67), some (.int a1)]) (st' := [.ref 67]) (h' := h) rfl ?_
    refine mX_ckv (v := .ref (gR h 67 3)) (v' := .ref 71) (k' := 6) (ls' := [some (.ref 67), some (.int a1)]) (st' := []) (h' := h) (k_67 L) (congrArg Value.ref (r_67_3 L)) rfl ?_
    refine mX_to 1 (k' := 7) (ls' := [some (.ref 67), some (.int a1)]) (st' := [.int a1, .ref 71]) (h' := h) rfl ?_
    refine mX_ckw (v := .int (gI h 71 (ix a1))) (v' := .int (gI h 71 (ix a1))) (k' := 8) (ls' := [some (.ref 67), some (.int a1)]) (st' := []) (h' := h) (ckA1 (k_71 L) (n_71 L)) rfl rfl fun c1 => ?_
    refine mX_to 1 (k' := 10) (ls' := [some (.ref 67), some (.int a1)]) (st' := [.int (gI h 71 (ix a1))]) (h' := h) rfl ?_
    exact mX_reti rfl
  · refine mX_to 1 (k' := 10) (ls' := [some (.ref 67), some (.int a1)]) (st' := [.int (-1)]) (h' := h) rfl ?_
    exact mX_reti rfl
theorem S_X11_isFigure {h : MH} (L : lay h) (d : Nat) (a0 : Int32) : F_X11_isFigure (d + 1) a0 h = (if a0 < 48 then some (.int 0, h) else (if a0 ≤ 57 then some (.int 1, h) else some (.int 0, h))) := by
  refine mE_eq (q := (yX11_isFigure, cX11_isFigure, 1, (some .boolean), KX11_isFigure)) (C := KX11_isFigure) (ls := [some (.int a0)]) rfl rfl rfl rfl ?_
  refine mX_to 2 (k' := 2) (ls' := [some (.int a0)]) (st' := [.int 48, .int a0]) (h' := h) rfl ?_
  refine mX_br (t := 8) (f := 3) (ls' := [some (.int a0)]) (st' := []) (h' := h) rfl ?_ ?_
  · refine mX_to 1 (k' := 9) (ls' := [some (.int a0)]) (st' := [.int 0]) (h' := h) rfl ?_
    exact mX_retb (by decide) rfl
  · refine mX_to 2 (k' := 5) (ls' := [some (.int a0)]) (st' := [.int 57, .int a0]) (h' := h) rfl ?_
    refine mX_br (t := 6) (f := 8) (ls' := [some (.int a0)]) (st' := []) (h' := h) rfl ?_ ?_
    · refine mX_to 2 (k' := 9) (ls' := [some (.int a0)]) (st' := [.int 1]) (h' := h) rfl ?_
      exact mX_retb (by decide) rfl
    · refine mX_to 1 (k' := 9) (ls' := [some (.int a0)]) (st' := [.int 0]) (h' := h) rfl ?_
      exact mX_retb (by decide) rfl
theorem S_X11_isLetterByte_6 {h : MH} (L : lay h) (d : Nat) (l0 : Int32) : G_X11_isLetterByte_6 d l0 h = (if l0 < 65 then some (.int 0, h) else (if l0 ≤ 90 then some (.int 1, h) else some (.int 0, h))) := by
  refine mX_to 2 (k' := 8) (ls' := [some (.int l0)]) (st' := [.int 65, .int l0]) (h' := h) rfl ?_
  refine mX_br (t := 14) (f := 9) (ls' := [some (.int l0)]) (st' := []) (h' := h) rfl ?_ ?_
  · refine mX_to 1 (k' := 15) (ls' := [some (.int l0)]) (st' := [.int 0]) (h' := h) rfl ?_
    exact mX_retb (by decide) rfl
  · refine mX_to 2 (k' := 11) (ls' := [some (.int l0)]) (st' := [.int 90, .int l0]) (h' := h) rfl ?_
    refine mX_br (t := 12) (f := 14) (ls' := [some (.int l0)]) (st' := []) (h' := h) rfl ?_ ?_
    · refine mX_to 2 (k' := 15) (ls' := [some (.int l0)]) (st' := [.int 1]) (h' := h) rfl ?_
      exact mX_retb (by decide) rfl
    · refine mX_to 1 (k' := 15) (ls' := [some (.int l0)]) (st' := [.int 0]) (h' := h) rfl ?_
      exact mX_retb (by decide) rfl
theorem S_X11_isLetterByte {h : MH} (L : lay h) (d : Nat) (a0 : Int32) : F_X11_isLetterByte (d + 1) a0 h = (if a0 < 97 then G_X11_isLetterByte_6 d a0 h else (if a0 ≤ 122 then some (.int 1, h) else G_X11_isLetterByte_6 d a0 h)) := by
  refine mE_eq (q := (yX11_isLetterByte, cX11_isLetterByte, 1, (some .boolean), KX11_isLetterByte)) (C := KX11_isLetterByte) (ls := [some (.int a0)]) rfl rfl rfl rfl ?_
  refine mX_to 2 (k' := 2) (ls' := [some (.int a0)]) (st' := [.int 97, .int a0]) (h' := h) rfl ?_
  refine mX_br (t := 6) (f := 3) (ls' := [some (.int a0)]) (st' := []) (h' := h) rfl ?_ ?_
  · rfl
  · refine mX_to 2 (k' := 5) (ls' := [some (.int a0)]) (st' := [.int 122, .int a0]) (h' := h) rfl ?_
    refine mX_br (t := 12) (f := 6) (ls' := [some (.int a0)]) (st' := []) (h' := h) rfl ?_ ?_
    · refine mX_to 2 (k' := 15) (ls' := [some (.int a0)]) (st' := [.int 1]) (h' := h) rfl ?_
      exact mX_retb (by decide) rfl
    · rfl
theorem S_X11_isSign {h : MH} (L : lay h) (d : Nat) (a0 : Int32) : F_X11_isSign (d + 1) a0 h = (if a0 = 35 then some (.int 1, h) else (if a0 = 36 then some (.int 0, h) else (if a0 = 37 then some (.int 0, h) else (if a0 = 38 then some (.int 0, h) else (if a0 = 39 then some (.int 0, h) else (if a0 = 40 then some (.int 1, h) else (if a0 = 41 then some (.int 1, h) else (if a0 = 42 then some (.int 1, h) else (if a0 = 43 then some (.int 1, h) else (if a0 = 44 then some (.int 0, h) else (if a0 = 45 then some (.int 1, h) else (if a0 = 46 then some (.int 0, h) else (if a0 = 47 then some (.int 1, h) else (if a0 = 48 then some (.int 0, h) else (if a0 = 49 then some (.int 0, h) else (if a0 = 50 then some (.int 0, h) else (if a0 = 51 then some (.int 0, h) else (if a0 = 52 then some (.int 0, h) else (if a0 = 53 then some (.int 0, h) else (if a0 = 54 then some (.int 0, h) else (if a0 = 55 then some (.int 0, h) else (if a0 = 56 then some (.int 0, h) else (if a0 = 57 then some (.int 0, h) else (if a0 = 58 then some (.int 1, h) else (if a0 = 59 then some (.int 1, h) else (if a0 = 60 then some (.int 1, h) else (if a0 = 61 then some (.int 1, h) else (if a0 = 62 then some (.int 1, h) else some (.int 0, h))))))))))))))))))))))))))))) := by
  refine mE_eq (q := (yX11_isSign, cX11_isSign, 1, (some .boolean), KX11_isSign)) (C := KX11_isSign) (ls := [some (.int a0)]) rfl rfl rfl rfl ?_
  refine mX_to 1 (k' := 1) (ls' := [some (.int a0)]) (st' := [.int a0]) (h' := h) rfl ?_
  refine mX_sw (x := a0) (t := 4) (sw := [(35, 2), (36, 4), (37, 4), (38, 4), (39, 4), (40, 2), (41, 2), (42, 2), (43, 2), (44, 4), (45, 2), (46, 4), (47, 2), (48, 4), (49, 4), (50, 4), (51, 4), (52, 4), (53, 4), (54, 4), (55, 4), (56, 4), (57, 4), (58, 2), (59, 2), (60, 2), (61, 2), (62, 2)]) (ls' := [some (.int a0)]) (st' := []) (h' := h) rfl ?_
  refine msw_cons ?_ ?_
  · refine mX_to 1 (k' := 3) (ls' := [some (.int a0)]) (st' := [.int 1]) (h' := h) rfl ?_
    exact mX_retb (by decide) rfl
  refine msw_cons ?_ ?_
  · refine mX_to 1 (k' := 5) (ls' := [some (.int a0)]) (st' := [.int 0]) (h' := h) rfl ?_
    exact mX_retb (by decide) rfl
  refine msw_cons ?_ ?_
  · refine mX_to 1 (k' := 5) (ls' := [some (.int a0)]) (st' := [.int 0]) (h' := h) rfl ?_
    exact mX_retb (by decide) rfl
  refine msw_cons ?_ ?_
  · refine mX_to 1 (k' := 5) (ls' := [some (.int a0)]) (st' := [.int 0]) (h' := h) rfl ?_
    exact mX_retb (by decide) rfl
  refine msw_cons ?_ ?_
  · refine mX_to 1 (k' := 5) (ls' := [some (.int a0)]) (st' := [.int 0]) (h' := h) rfl ?_
    exact mX_retb (by decide) rfl
  refine msw_cons ?_ ?_
  · refine mX_to 1 (k' := 3) (ls' := [some (.int a0)]) (st' := [.int 1]) (h' := h) rfl ?_
    exact mX_retb (by decide) rfl
  refine msw_cons ?_ ?_
  · refine mX_to 1 (k' := 3) (ls' := [some (.int a0)]) (st' := [.int 1]) (h' := h) rfl ?_
    exact mX_retb (by decide) rfl
  refine msw_cons ?_ ?_
  · refine mX_to 1 (k' := 3) (ls' := [some (.int a0)]) (st' := [.int 1]) (h' := h) rfl ?_
    exact mX_retb (by decide) rfl
  refine msw_cons ?_ ?_
  · refine mX_to 1 (k' := 3) (ls' := [some (.int a0)]) (st' := [.int 1]) (h' := h) rfl ?_
    exact mX_retb (by decide) rfl
  refine msw_cons ?_ ?_
  · refine mX_to 1 (k' := 5) (ls' := [some (.int a0)]) (st' := [.int 0]) (h' := h) rfl ?_
    exact mX_retb (by decide) rfl
  refine msw_cons ?_ ?_
  · refine mX_to 1 (k' := 3) (ls' := [some (.int a0)]) (st' := [.int 1]) (h' := h) rfl ?_
    exact mX_retb (by decide) rfl
  refine msw_cons ?_ ?_
  · refine mX_to 1 (k' := 5) (ls' := [some (.int a0)]) (st' := [.int 0]) (h' := h) rfl ?_
    exact mX_retb (by decide) rfl
  refine msw_cons ?_ ?_
  · refine mX_to 1 (k' := 3) (ls' := [some (.int a0)]) (st' := [.int 1]) (h' := h) rfl ?_
    exact mX_retb (by decide) rfl
  refine msw_cons ?_ ?_
  · refine mX_to 1 (k' := 5) (ls' := [some (.int a0)]) (st' := [.int 0]) (h' := h) rfl ?_
    exact mX_retb (by decide) rfl
  refine msw_cons ?_ ?_
  · refine mX_to 1 (k' := 5) (ls' := [some (.int a0)]) (st' := [.int 0]) (h' := h) rfl ?_
    exact mX_retb (by decide) rfl
  refine msw_cons ?_ ?_
  · refine mX_to 1 (k' := 5) (ls' := [some (.int a0)]) (st' := [.int 0]) (h' := h) rfl ?_
    exact mX_retb (by decide) rfl
  refine msw_cons ?_ ?_
  · refine mX_to 1 (k' := 5) (ls' := [some (.int a0)]) (st' := [.int 0]) (h' := h) rfl ?_
    exact mX_retb (by decide) rfl
  refine msw_cons ?_ ?_
  · refine mX_to 1 (k' := 5) (ls' := [some (.int a0)]) (st' := [.int 0]) (h' := h) rfl ?_
    exact mX_retb (by decide) rfl
  refine msw_cons ?_ ?_
  · refine mX_to 1 (k' := 5) (ls' := [some (.int a0)]) (st' := [.int 0]) (h' := h) rfl ?_
    exact mX_retb (by decide) rfl
  refine msw_cons ?_ ?_
  · refine mX_to 1 (k' := 5) (ls' := [some (.int a0)]) (st' := [.int 0]) (h' := h) rfl ?_
    exact mX_retb (by decide) rfl
  refine msw_cons ?_ ?_
  · refine mX_to 1 (k' := 5) (ls' := [some (.int a0)]) (st' := [.int 0]) (h' := h) rfl ?_
    exact mX_retb (by decide) rfl
  refine msw_cons ?_ ?_
  · refine mX_to 1 (k' := 5) (ls' := [some (.int a0)]) (st' := [.int 0]) (h' := h) rfl ?_
    exact mX_retb (by decide) rfl
  refine msw_cons ?_ ?_
  · refine mX_to 1 (k' := 5) (ls' := [some (.int a0)]) (st' := [.int 0]) (h' := h) rfl ?_
    exact mX_retb (by decide) rfl
  refine msw_cons ?_ ?_
  · refine mX_to 1 (k' := 3) (ls' := [some (.int a0)]) (st' := [.int 1]) (h' := h) rfl ?_
    exact mX_retb (by decide) rfl
  refine msw_cons ?_ ?_
  · refine mX_to 1 (k' := 3) (ls' := [some (.int a0)]) (st' := [.int 1]) (h' := h) rfl ?_
    exact mX_retb (by decide) rfl
  refine msw_cons ?_ ?_
  · refine mX_to 1 (k' := 3) (ls' := [some (.int a0)]) (st' := [.int 1]) (h' := h) rfl ?_
    exact mX_retb (by decide) rfl
  refine msw_cons ?_ ?_
  · refine mX_to 1 (k' := 3) (ls' := [some (.int a0)]) (st' := [.int 1]) (h' := h) rfl ?_
    exact mX_retb (by decide) rfl
  refine msw_cons ?_ ?_
  · refine mX_to 1 (k' := 3) (ls' := [some (.int a0)]) (st' := [.int 1]) (h' := h) rfl ?_
    exact mX_retb (by decide) rfl
  refine msw_nil ?_
  refine mX_to 1 (k' := 5) (ls' := [some (.int a0)]) (st' := [.int 0]) (h' := h) rfl ?_
  exact mX_retb (by decide) rfl
theorem S_X11_nextToken_12 {h : MH} (L : lay h) (d : Nat) : G_X11_nextToken_12 d h = lt_ (sI h 67 7 ((gI h 67 7) + 1)) fun h26 => G_X11_nextToken_0 d h26 := by
  refine mX_to 2 (k' := 14) (ls' := [some (.ref 67), none]) (st' := [.ref 67, .ref 67]) (h' := h) rfl ?_
  refine mX_ckv (v := .int (gI h 67 7)) (v' := .int (gI h 67 7)) (k' := 15) (ls' := [some (.ref 67), none]) (st' := [.ref 67]) (h' := h) (k_67 L) rfl rfl ?_
  refine mX_to 2 (k' := 17) (ls' := [some (.ref 67), none]) (st' := [.int ((gI h 67 7) + 1), .ref 67]) (h' := h) rfl ?_
  refine mX_ckt (k' := 18) (ls' := [some (.ref 67), none]) (st' := []) (h' := (sI h 67 7 ((gI h 67 7) + 1))) (k_67 L) rfl ?_
  refine lt_geq2 (X := fun h26 : MH => mX (mE mtab d) KX11_nextToken 18 [some (.ref 67), none] [] h26) (a := (sI h 67 7 ((gI h 67 7) + 1))) (a' := (sI h 67 7 ((gI h 67 7) + 1))) rfl fun h26 eh26 => ?_
  have L26 : lay h26 := eh26 ▸ layI L (by decide)
  refine mX_to 1 (k' := 0) (ls' := [some (.ref 67), none]) (st' := []) (h' := h26) rfl ?_
  rfl
theorem S_X11_nextToken_126 {h : MH} (L : lay h) (d : Nat) (l1 : Int32) (s0 : Int32) : G_X11_nextToken_126 d l1 s0 h = lt_ (sI h 67 9 s0) fun h28 => lt_ (sI h28 67 7 ((gI h28 67 7) + 1)) fun h30 => (if l1 = 60 then G_X11_nextToken_139 d l1 h30 else (if l1 = 62 then G_X11_nextToken_139 d l1 h30 else some (.int 0, h30))) := by
  refine mX_ckt (k' := 127) (ls' := [some (.ref 67), some (.int l1)]) (st' := []) (h' := (sI h 67 9 s0)) (k_67 L) rfl ?_
  refine lt_geq2 (X := fun h28 : MH => mX (mE mtab d) KX11_nextToken 127 [some (.ref 67), some (.int l1)] [] h28) (a := (sI h 67 9 s0)) (a' := (sI h 67 9 s0)) rfl fun h28 eh28 => ?_
  have L28 : lay h28 := eh28 ▸ layI L (by decide)
  refine mX_to 2 (k' := 129) (ls' := [some (.ref 67), some (.int l1)]) (st' := [.ref 67, .ref 67]) (h' := h28) rfl ?_
  refine mX_ckv (v := .int (gI h28 67 7)) (v' := .int (gI h28 67 7)) (k' := 130) (ls' := [some (.ref 67), some (.int l1)]) (st' := [.ref 67]) (h' := h28) (k_67 L28) rfl rfl ?_
  refine mX_to 2 (k' := 132) (ls' := [some (.ref 67), some (.int l1)]) (st' := [.int ((gI h28 67 7) + 1), .ref 67]) (h' := h28) rfl ?_
  refine mX_ckt (k' := 133) (ls' := [some (.ref 67), some (.int l1)]) (st' := []) (h' := (sI h28 67 7 ((gI h28 67 7) + 1))) (k_67 L28) rfl ?_
  refine lt_geq2 (X := fun h30 : MH => mX (mE mtab d) KX11_nextToken 133 [some (.ref 67), some (.int l1)] [] h30) (a := (sI h28 67 7 ((gI h28 67 7) + 1))) (a' := (sI h28 67 7 ((gI h28 67 7) + 1))) rfl fun h30 eh30 => ?_
  have L30 : lay h30 := eh30 ▸ layI L28 (by decide)
  refine mX_to 2 (k' := 135) (ls' := [some (.ref 67), some (.int l1)]) (st' := [.int 60, .int l1]) (h' := h30) rfl ?_
  refine mX_br (t := 139) (f := 136) (ls' := [some (.ref 67), some (.int l1)]) (st' := []) (h' := h30) rfl ?_ ?_
  · rfl
  · refine mX_to 2 (k' := 138) (ls' := [some (.ref 67), some (.int l1)]) (st' := [.int 62, .int l1]) (h' := h30) rfl ?_
    refine mX_br (t := 139) (f := 159) (ls' := [some (.ref 67), some (.int l1)]) (st' := []) (h' := h30) rfl ?_ ?_
    · rfl
    · exact mX_ret rfl
theorem S_X11_nextToken_85 {h : MH} (L : lay h) (d : Nat) (l1 : Int32) : G_X11_nextToken_85 d l1 h = cI (F_X11_byteAt d (gI h 67 7) h) (fun x32 h31 => cI (F_X11_isLetterByte d x32 h31) (fun x34 h33 => (if x34 = 0 then some (.int 0, h33) else (if (lg_cmp ((gL h33 67 11) >>> ((48 : Int32).toInt64 &&& 63)) 0) = 0 then cI (F_X11_byteAt d (gI h33 67 7) h33) (fun x36 h35 => G_X11_nextToken_111 d l1 (((gL h33 67 11) <<< ((8 : Int32).toInt64 &&& 63)) ||| ((x36 : Int32).toInt64)) h35) else G_X11_nextToken_111 d l1 1152921504606846976 h33)))) := by
  refine mX_to 2 (k' := 87) (ls' := [some (.ref 67), some (.int l1)]) (st' := [.ref 67, .ref 67]) (h' := h) rfl ?_
  refine mX_ckv (v := .int (gI h 67 7)) (v' := .int (gI h 67 7)) (k' := 88) (ls' := [some (.ref 67), some (.int l1)]) (st' := [.ref 67]) (h' := h) (k_67 L) rfl rfl ?_
  refine mX_ckct (m := mcl (mE mtab d 96 [.ref 67, .int (gI h 67 7)] h) 1 89 [some (.ref 67), some (.int l1)] []) (k_67 L) rfl ?_
  refine mk_cIe (o := F_X11_byteAt d (gI h 67 7) h) ?_
  intro x32 h31 eh31
  have L31 : lay h31 := lay_call d 96 [.ref 67, .int (gI h 67 7)] h _ h31 rfl eh31 L
  refine mX_cIe (o := F_X11_isLetterByte d x32 h31) (k' := 90) (ls' := [some (.ref 67), some (.int l1)]) (st' := []) rfl ?_
  intro x34 h33 eh33
  have L33 : lay h33 := lay_call d 98 [.int x32] h31 _ h33 rfl eh33 L31
  refine mX_br (t := 159) (f := 91) (ls' := [some (.ref 67), some (.int l1)]) (st' := []) (h' := h33) rfl ?_ ?_
  · exact mX_ret rfl
  · refine mX_to 2 (k' := 93) (ls' := [some (.ref 67), some (.int l1)]) (st' := [.ref 67, .ref 67]) (h' := h33) rfl ?_
    refine mX_ckv (v := .long (gL h33 67 11)) (v' := .long (gL h33 67 11)) (k' := 94) (ls' := [some (.ref 67), some (.int l1)]) (st' := [.ref 67]) (h' := h33) (k_67 L33) rfl rfl ?_
    refine mX_to 4 (k' := 98) (ls' := [some (.ref 67), some (.int l1)]) (st' := [.int (lg_cmp ((gL h33 67 11) >>> ((48 : Int32).toInt64 &&& 63)) 0), .ref 67]) (h' := h33) rfl ?_
    refine mX_br (t := 101) (f := 99) (ls' := [some (.ref 67), some (.int l1)]) (st' := [.ref 67]) (h' := h33) rfl ?_ ?_
    · refine mX_to 1 (k' := 102) (ls' := [some (.ref 67), some (.int l1)]) (st' := [.ref 67, .ref 67]) (h' := h33) rfl ?_
      refine mX_ckv (v := .long (gL h33 67 11)) (v' := .long (gL h33 67 11)) (k' := 103) (ls' := [some (.ref 67), some (.int l1)]) (st' := [.ref 67]) (h' := h33) (k_67 L33) rfl rfl ?_
      refine mX_to 4 (k' := 107) (ls' := [some (.ref 67), some (.int l1)]) (st' := [.ref 67, .ref 67, .long ((gL h33 67 11) <<< ((8 : Int32).toInt64 &&& 63)), .ref 67]) (h' := h33) rfl ?_
      refine mX_ckv (v := .int (gI h33 67 7)) (v' := .int (gI h33 67 7)) (k' := 108) (ls' := [some (.ref 67), some (.int l1)]) (st' := [.ref 67, .long ((gL h33 67 11) <<< ((8 : Int32).toInt64 &&& 63)), .ref 67]) (h' := h33) (k_67 L33) rfl rfl ?_
      refine mX_ckct (m := mcl (mE mtab d 96 [.ref 67, .int (gI h33 67 7)] h33) 1 109 [some (.ref 67), some (.int l1)] [.long ((gL h33 67 11) <<< ((8 : Int32).toInt64 &&& 63)), .ref 67]) (k_67 L33) rfl ?_
      refine mk_cIe (o := F_X11_byteAt d (gI h33 67 7) h33) ?_
      intro x36 h35 eh35
      have L35 : lay h35 := lay_call d 96 [.ref 67, .int (gI h33 67 7)] h33 _ h35 rfl eh35 L33
      refine mX_to 2 (k' := 111) (ls' := [some (.ref 67), some (.int l1)]) (st' := [.long (((gL h33 67 11) <<< ((8 : Int32).toInt64 &&& 63)) ||| ((x36 : Int32).toInt64)), .ref 67]) (h' := h35) rfl ?_
      rfl
    · refine mX_to 2 (k' := 111) (ls' := [some (.ref 67), some (.int l1)]) (st' := [.long 1152921504606846976, .ref 67]) (h' := h33) rfl ?_
      rfl
theorem S_X11_nextToken_43 {h : MH} (L : lay h) (d : Nat) (l1 : Int32) : G_X11_nextToken_43 d l1 h = cI (F_X11_byteAt d (gI h 67 7) h) (fun x38 h37 => cI (F_X11_isFigure d x38 h37) (fun x40 h39 => (if x40 = 0 then some (.int 0, h39) else (if (gI h39 67 10) ≤ 99999 then cI (F_X11_byteAt d (gI h39 67 7) h39) (fun x42 h41 => G_X11_nextToken_68 d l1 (((10 * (gI h39 67 10)) + x42) - 48) h41) else G_X11_nextToken_68 d l1 (gI h39 67 10) h39)))) := by
  refine mX_to 2 (k' := 45) (ls' := [some (.ref 67), some (.int l1)]) (st' := [.ref 67, .ref 67]) (h' := h) rfl ?_
  refine mX_ckv (v := .int (gI h 67 7)) (v' := .int (gI h 67 7)) (k' := 46) (ls' := [some (.ref 67), some (.int l1)]) (st' := [.ref 67]) (h' := h) (k_67 L) rfl rfl ?_
  refine mX_ckct (m := mcl (mE mtab d 96 [.ref 67, .int (gI h 67 7)] h) 1 47 [some (.ref 67), some (.int l1)] []) (k_67 L) rfl ?_
  refine mk_cIe (o := F_X11_byteAt d (gI h 67 7) h) ?_
  intro x38 h37 eh37
  have L37 : lay h37 := lay_call d 96 [.ref 67, .int (gI h 67 7)] h _ h37 rfl eh37 L
  refine mX_cIe (o := F_X11_isFigure d x38 h37) (k' := 48) (ls' := [some (.ref 67), some (.int l1)]) (st' := []) rfl ?_
  intro x40 h39 eh39
  have L39 : lay h39 := lay_call d 97 [.int x38] h37 _ h39 rfl eh39 L37
  refine mX_br (t := 159) (f := 49) (ls' := [some (.ref 67), some (.int l1)]) (st' := []) (h' := h39) rfl ?_ ?_
  · exact mX_ret rfl
  · refine mX_to 2 (k' := 51) (ls' := [some (.ref 67), some (.int l1)]) (st' := [.ref 67, .ref 67]) (h' := h39) rfl ?_
    refine mX_ckv (v := .int (gI h39 67 10)) (v' := .int (gI h39 67 10)) (k' := 52) (ls' := [some (.ref 67), some (.int l1)]) (st' := [.ref 67]) (h' := h39) (k_67 L39) rfl rfl ?_
    refine mX_to 1 (k' := 53) (ls' := [some (.ref 67), some (.int l1)]) (st' := [.int 99999, .int (gI h39 67 10), .ref 67]) (h' := h39) rfl ?_
    refine mX_br (t := 57) (f := 54) (ls' := [some (.ref 67), some (.int l1)]) (st' := [.ref 67]) (h' := h39) rfl ?_ ?_
    · refine mX_to 2 (k' := 59) (ls' := [some (.ref 67), some (.int l1)]) (st' := [.ref 67, .int 10, .ref 67]) (h' := h39) rfl ?_
      refine mX_ckv (v := .int (gI h39 67 10)) (v' := .int (gI h39 67 10)) (k' := 60) (ls' := [some (.ref 67), some (.int l1)]) (st' := [.int 10, .ref 67]) (h' := h39) (k_67 L39) rfl rfl ?_
      refine mX_to 3 (k' := 63) (ls' := [some (.ref 67), some (.int l1)]) (st' := [.ref 67, .ref 67, .int (10 * (gI h39 67 10)), .ref 67]) (h' := h39) rfl ?_
      refine mX_ckv (v := .int (gI h39 67 7)) (v' := .int (gI h39 67 7)) (k' := 64) (ls' := [some (.ref 67), some (.int l1)]) (st' := [.ref 67, .int (10 * (gI h39 67 10)), .ref 67]) (h' := h39) (k_67 L39) rfl rfl ?_
      refine mX_ckct (m := mcl (mE mtab d 96 [.ref 67, .int (gI h39 67 7)] h39) 1 65 [some (.ref 67), some (.int l1)] [.int (10 * (gI h39 67 10)), .ref 67]) (k_67 L39) rfl ?_
      refine mk_cIe (o := F_X11_byteAt d (gI h39 67 7) h39) ?_
      intro x42 h41 eh41
      have L41 : lay h41 := lay_call d 96 [.ref 67, .int (gI h39 67 7)] h39 _ h41 rfl eh41 L39
      refine mX_to 3 (k' := 68) (ls' := [some (.ref 67), some (.int l1)]) (st' := [.int (((10 * (gI h39 67 10)) + x42) - 48), .ref 67]) (h' := h41) rfl ?_
      rfl
    · refine mX_to 1 (k' := 55) (ls' := [some (.ref 67), some (.int l1)]) (st' := [.ref 67, .ref 67]) (h' := h39) rfl ?_
      refine mX_ckv (v := .int (gI h39 67 10)) (v' := .int (gI h39 67 10)) (k' := 56) (ls' := [some (.ref 67), some (.int l1)]) (st' := [.ref 67]) (h' := h39) (k_67 L39) rfl rfl ?_
      refine mX_to 1 (k' := 68) (ls' := [some (.ref 67), some (.int l1)]) (st' := [.int (gI h39 67 10), .ref 67]) (h' := h39) rfl ?_
      rfl
theorem S_X11_nextToken_0 {h : MH} (L : lay h) (d : Nat) : G_X11_nextToken_0 d h = cI (F_X11_byteAt d (gI h 67 7) h) (fun x44 h43 => (if x44 = 32 then G_X11_nextToken_12 d h43 else cI (F_X11_byteAt d (gI h43 67 7) h43) (fun x46 h45 => (if x46 = 10 then G_X11_nextToken_12 d h45 else lt_ (sI h45 67 8 (gI h45 67 7)) fun h48 => cI (F_X11_byteAt d (gI h48 67 7) h48) (fun x50 h49 => (if x50 < 0 then lt_ (sI h49 67 9 0) fun h52 => some (.int 0, h52) else cI (F_X11_isFigure d x50 h49) (fun x54 h53 => (if x54 = 0 then cI (F_X11_isLetterByte d x50 h53) (fun x56 h55 => (if x56 = 0 then cI (F_X11_isSign d x50 h55) (fun x58 h57 => (if x58 = 0 then G_X11_nextToken_126 d x50 3 h57 else G_X11_nextToken_126 d x50 x50 h57)) else lt_ (sI h55 67 9 2) fun h60 => lt_ (sL h60 67 11 0) fun h62 => G_X11_nextToken_85 d x50 h62)) else lt_ (sI h53 67 9 1) fun h64 => lt_ (sI h64 67 10 0) fun h66 => G_X11_nextToken_43 d x50 h66)))))))) := by
  refine mX_to 2 (k' := 2) (ls' := [some (.ref 67), none]) (st' := [.ref 67, .ref 67]) (h' := h) rfl ?_
  refine mX_ckv (v := .int (gI h 67 7)) (v' := .int (gI h 67 7)) (k' := 3) (ls' := [some (.ref 67), none]) (st' := [.ref 67]) (h' := h) (k_67 L) rfl rfl ?_
  refine mX_ckct (m := mcl (mE mtab d 96 [.ref 67, .int (gI h 67 7)] h) 1 4 [some (.ref 67), none] []) (k_67 L) rfl ?_
  refine mk_cIe (o := F_X11_byteAt d (gI h 67 7) h) ?_
  intro x44 h43 eh43
  have L43 : lay h43 := lay_call d 96 [.ref 67, .int (gI h 67 7)] h _ h43 rfl eh43 L
  refine mX_to 1 (k' := 5) (ls' := [some (.ref 67), none]) (st' := [.int 32, .int x44]) (h' := h43) rfl ?_
  refine mX_br (t := 12) (f := 6) (ls' := [some (.ref 67), none]) (st' := []) (h' := h43) rfl ?_ ?_
  · rfl
  · refine mX_to 2 (k' := 8) (ls' := [some (.ref 67), none]) (st' := [.ref 67, .ref 67]) (h' := h43) rfl ?_
    refine mX_ckv (v := .int (gI h43 67 7)) (v' := .int (gI h43 67 7)) (k' := 9) (ls' := [some (.ref 67), none]) (st' := [.ref 67]) (h' := h43) (k_67 L43) rfl rfl ?_
    refine mX_ckct (m := mcl (mE mtab d 96 [.ref 67, .int (gI h43 67 7)] h43) 1 10 [some (.ref 67), none] []) (k_67 L43) rfl ?_
    refine mk_cIe (o := F_X11_byteAt d (gI h43 67 7) h43) ?_
    intro x46 h45 eh45
    have L45 : lay h45 := lay_call d 96 [.ref 67, .int (gI h43 67 7)] h43 _ h45 rfl eh45 L43
    refine mX_to 1 (k' := 11) (ls' := [some (.ref 67), none]) (st' := [.int 10, .int x46]) (h' := h45) rfl ?_
    refine mX_br (t := 12) (f := 19) (ls' := [some (.ref 67), none]) (st' := []) (h' := h45) rfl ?_ ?_
    · rfl
    · refine mX_to 2 (k' := 21) (ls' := [some (.ref 67), none]) (st' := [.ref 67, .ref 67]) (h' := h45) rfl ?_
      refine mX_ckv (v := .int (gI h45 67 7)) (v' := .int (gI h45 67 7)) (k' := 22) (ls' := [some (.ref 67), none]) (st' := [.ref 67]) (h' := h45) (k_67 L45) rfl rfl ?_
      refine mX_ckt (k' := 23) (ls' := [some (.ref 67), none]) (st' := []) (h' := (sI h45 67 8 (gI h45 67 7))) (k_67 L45) rfl ?_
      refine lt_geq2 (X := fun h48 : MH => mX (mE mtab d) KX11_nextToken 23 [some (.ref 67), none] [] h48) (a := (sI h45 67 8 (gI h45 67 7))) (a' := (sI h45 67 8 (gI h45 67 7))) rfl fun h48 eh48 => ?_
      have L48 : lay h48 := eh48 ▸ layI L45 (by decide)
      refine mX_to 2 (k' := 25) (ls' := [some (.ref 67), none]) (st' := [.ref 67, .ref 67]) (h' := h48) rfl ?_
      refine mX_ckv (v := .int (gI h48 67 7)) (v' := .int (gI h48 67 7)) (k' := 26) (ls' := [some (.ref 67), none]) (st' := [.ref 67]) (h' := h48) (k_67 L48) rfl rfl ?_
      refine mX_ckct (m := mcl (mE mtab d 96 [.ref 67, .int (gI h48 67 7)] h48) 1 27 [some (.ref 67), none] []) (k_67 L48) rfl ?_
      refine mk_cIe (o := F_X11_byteAt d (gI h48 67 7) h48) ?_
      intro x50 h49 eh49
      have L49 : lay h49 := lay_call d 96 [.ref 67, .int (gI h48 67 7)] h48 _ h49 rfl eh49 L48
      refine mX_to 2 (k' := 29) (ls' := [some (.ref 67), some (.int x50)]) (st' := [.int x50]) (h' := h49) rfl ?_
      refine mX_br (t := 30) (f := 34) (ls' := [some (.ref 67), some (.int x50)]) (st' := []) (h' := h49) rfl ?_ ?_
      · refine mX_to 2 (k' := 32) (ls' := [some (.ref 67), some (.int x50)]) (st' := [.int 0, .ref 67]) (h' := h49) rfl ?_
        refine mX_ckt (k' := 33) (ls' := [some (.ref 67), some (.int x50)]) (st' := []) (h' := (sI h49 67 9 0)) (k_67 L49) rfl ?_
        refine lt_geq2 (X := fun h52 : MH => mX (mE mtab d) KX11_nextToken 33 [some (.ref 67), some (.int x50)] [] h52) (a := (sI h49 67 9 0)) (a' := (sI h49 67 9 0)) rfl fun h52 eh52 => ?_
        have L52 : lay h52 := eh52 ▸ layI L49 (by decide)
        refine mX_to 1 (k' := 159) (ls' := [some (.ref 67), some (.int x50)]) (st' := []) (h' := h52) rfl ?_
        exact mX_ret rfl
      · refine mX_to 1 (k' := 35) (ls' := [some (.ref 67), some (.int x50)]) (st' := [.int x50]) (h' := h49) rfl ?_
        refine mX_cIe (o := F_X11_isFigure d x50 h49) (k' := 36) (ls' := [some (.ref 67), some (.int x50)]) (st' := []) rfl ?_
        intro x54 h53 eh53
        have L53 : lay h53 := lay_call d 97 [.int x50] h49 _ h53 rfl eh53 L49
        refine mX_br (t := 76) (f := 37) (ls' := [some (.ref 67), some (.int x50)]) (st' := []) (h' := h53) rfl ?_ ?_
        · refine mX_to 1 (k' := 77) (ls' := [some (.ref 67), some (.int x50)]) (st' := [.int x50]) (h' := h53) rfl ?_
          refine mX_cIe (o := F_X11_isLetterByte d x50 h53) (k' := 78) (ls' := [some (.ref 67), some (.int x50)]) (st' := []) rfl ?_
          intro x56 h55 eh55
          have L55 : lay h55 := lay_call d 98 [.int x50] h53 _ h55 rfl eh55 L53
          refine mX_br (t := 119) (f := 79) (ls' := [some (.ref 67), some (.int x50)]) (st' := []) (h' := h55) rfl ?_ ?_
          · refine mX_to 2 (k' := 121) (ls' := [some (.ref 67), some (.int x50)]) (st' := [.int x50, .ref 67]) (h' := h55) rfl ?_
            refine mX_cIe (o := F_X11_isSign d x50 h55) (k' := 122) (ls' := [some (.ref 67), some (.int x50)]) (st' := [.ref 67]) rfl ?_
            intro x58 h57 eh57
            have L57 : lay h57 := lay_call d 99 [.int x50] h55 _ h57 rfl eh57 L55
            refine mX_br (t := 125) (f := 123) (ls' := [some (.ref 67), some (.int x50)]) (st' := [.ref 67]) (h' := h57) rfl ?_ ?_
            · refine mX_to 1 (k' := 126) (ls' := [some (.ref 67), some (.int x50)]) (st' := [.int 3, .ref 67]) (h' := h57) rfl ?_
              rfl
            · refine mX_to 2 (k' := 126) (ls' := [some (.ref 67), some (.int x50)]) (st' := [.int x50, .ref 67]) (h' := h57) rfl ?_
              rfl
          · refine mX_to 2 (k' := 81) (ls' := [some (.ref 67), some (.int x50)]) (st' := [.int 2, .ref 67]) (h' := h55) rfl ?_
            refine mX_ckt (k' := 82) (ls' := [some (.ref 67), some (.int x50)]) (st' := []) (h' := (sI h55 67 9 2)) (k_67 L55) rfl ?_
            refine lt_geq2 (X := fun h60 : MH => mX (mE mtab d) KX11_nextToken 82 [some (.ref 67), some (.int x50)] [] h60) (a := (sI h55 67 9 2)) (a' := (sI h55 67 9 2)) rfl fun h60 eh60 => ?_
            have L60 : lay h60 := eh60 ▸ layI L55 (by decide)
            refine mX_to 2 (k' := 84) (ls' := [some (.ref 67), some (.int x50)]) (st' := [.long 0, .ref 67]) (h' := h60) rfl ?_
            refine mX_ckt (k' := 85) (ls' := [some (.ref 67), some (.int x50)]) (st' := []) (h' := (sL h60 67 11 0)) (k_67 L60) rfl ?_
            refine lt_geq2 (X := fun h62 : MH => mX (mE mtab d) KX11_nextToken 85 [some (.ref 67), some (.int x50)] [] h62) (a := (sL h60 67 11 0)) (a' := (sL h60 67 11 0)) rfl fun h62 eh62 => ?_
            have L62 : lay h62 := eh62 ▸ layL L60
            rfl
        · refine mX_to 2 (k' := 39) (ls' := [some (.ref 67), some (.int x50)]) (st' := [.int 1, .ref 67]) (h' := h53) rfl ?_
          refine mX_ckt (k' := 40) (ls' := [some (.ref 67), some (.int x50)]) (st' := []) (h' := (sI h53 67 9 1)) (k_67 L53) rfl ?_
          refine lt_geq2 (X := fun h64 : MH => mX (mE mtab d) KX11_nextToken 40 [some (.ref 67), some (.int x50)] [] h64) (a := (sI h53 67 9 1)) (a' := (sI h53 67 9 1)) rfl fun h64 eh64 => ?_
          have L64 : lay h64 := eh64 ▸ layI L53 (by decide)
          refine mX_to 2 (k' := 42) (ls' := [some (.ref 67), some (.int x50)]) (st' := [.int 0, .ref 67]) (h' := h64) rfl ?_
          refine mX_ckt (k' := 43) (ls' := [some (.ref 67), some (.int x50)]) (st' := []) (h' := (sI h64 67 10 0)) (k_67 L64) rfl ?_
          refine lt_geq2 (X := fun h66 : MH => mX (mE mtab d) KX11_nextToken 43 [some (.ref 67), some (.int x50)] [] h66) (a := (sI h64 67 10 0)) (a' := (sI h64 67 10 0)) rfl fun h66 eh66 => ?_
          have L66 : lay h66 := eh66 ▸ layI L64 (by decide)
          rfl
theorem S_X11_nextToken_139 {h : MH} (L : lay h) (d : Nat) (l1 : Int32) : G_X11_nextToken_139 d l1 h = cI (F_X11_byteAt d (gI h 67 7) h) (fun x68 h67 => (if x68 = 61 then (if l1 = 60 then G_X11_nextToken_152 d l1 4 h67 else G_X11_nextToken_152 d l1 5 h67) else some (.int 0, h67))) := by
  refine mX_to 2 (k' := 141) (ls' := [some (.ref 67), some (.int l1)]) (st' := [.ref 67, .ref 67]) (h' := h) rfl ?_
  refine mX_ckv (v := .int (gI h 67 7)) (v' := .int (gI h 67 7)) (k' := 142) (ls' := [some (.ref 67), some (.int l1)]) (st' := [.ref 67]) (h' := h) (k_67 L) rfl rfl ?_
  refine mX_ckct (m := mcl (mE mtab d 96 [.ref 67, .int (gI h 67 7)] h) 1 143 [some (.ref 67), some (.int l1)] []) (k_67 L) rfl ?_
  refine mk_cIe (o := F_X11_byteAt d (gI h 67 7) h) ?_
  intro x68 h67 eh67
  have L67 : lay h67 := lay_call d 96 [.ref 67, .int (gI h 67 7)] h _ h67 rfl eh67 L
  refine mX_to 1 (k' := 144) (ls' := [some (.ref 67), some (.int l1)]) (st' := [.int 61, .int x68]) (h' := h67) rfl ?_
  refine mX_br (t := 145) (f := 159) (ls' := [some (.ref 67), some (.int l1)]) (st' := []) (h' := h67) rfl ?_ ?_
  · refine mX_to 3 (k' := 148) (ls' := [some (.ref 67), some (.int l1)]) (st' := [.int 60, .int l1, .ref 67]) (h' := h67) rfl ?_
    refine mX_br (t := 149) (f := 151) (ls' := [some (.ref 67), some (.int l1)]) (st' := [.ref 67]) (h' := h67) rfl ?_ ?_
    · refine mX_to 2 (k' := 152) (ls' := [some (.ref 67), some (.int l1)]) (st' := [.int 4, .ref 67]) (h' := h67) rfl ?_
      rfl
    · refine mX_to 1 (k' := 152) (ls' := [some (.ref 67), some (.int l1)]) (st' := [.int 5, .ref 67]) (h' := h67) rfl ?_
      rfl
  · exact mX_ret rfl
theorem S_X11_nextToken_111 {h : MH} (L : lay h) (d : Nat) (l1 : Int32) (s0 : Int64) : G_X11_nextToken_111 d l1 s0 h = lt_ (sL h 67 11 s0) fun h70 => lt_ (sI h70 67 7 ((gI h70 67 7) + 1)) fun h72 => G_X11_nextToken_85 d l1 h72 := by
  refine mX_ckt (k' := 112) (ls' := [some (.ref 67), some (.int l1)]) (st' := []) (h' := (sL h 67 11 s0)) (k_67 L) rfl ?_
  refine lt_geq2 (X := fun h70 : MH => mX (mE mtab d) KX11_nextToken 112 [some (.ref 67), some (.int l1)] [] h70) (a := (sL h 67 11 s0)) (a' := (sL h 67 11 s0)) rfl fun h70 eh70 => ?_
  have L70 : lay h70 := eh70 ▸ layL L
  refine mX_to 2 (k' := 114) (ls' := [some (.ref 67), some (.int l1)]) (st' := [.ref 67, .ref 67]) (h' := h70) rfl ?_
  refine mX_ckv (v := .int (gI h70 67 7)) (v' := .int (gI h70 67 7)) (k' := 115) (ls' := [some (.ref 67), some (.int l1)]) (st' := [.ref 67]) (h' := h70) (k_67 L70) rfl rfl ?_
  refine mX_to 2 (k' := 117) (ls' := [some (.ref 67), some (.int l1)]) (st' := [.int ((gI h70 67 7) + 1), .ref 67]) (h' := h70) rfl ?_
  refine mX_ckt (k' := 118) (ls' := [some (.ref 67), some (.int l1)]) (st' := []) (h' := (sI h70 67 7 ((gI h70 67 7) + 1))) (k_67 L70) rfl ?_
  refine lt_geq2 (X := fun h72 : MH => mX (mE mtab d) KX11_nextToken 118 [some (.ref 67), some (.int l1)] [] h72) (a := (sI h70 67 7 ((gI h70 67 7) + 1))) (a' := (sI h70 67 7 ((gI h70 67 7) + 1))) rfl fun h72 eh72 => ?_
  have L72 : lay h72 := eh72 ▸ layI L70 (by decide)
  refine mX_to 1 (k' := 85) (ls' := [some (.ref 67), some (.int l1)]) (st' := []) (h' := h72) rfl ?_
  rfl
theorem S_X11_nextToken_68 {h : MH} (L : lay h) (d : Nat) (l1 : Int32) (s0 : Int32) : G_X11_nextToken_68 d l1 s0 h = lt_ (sI h 67 10 s0) fun h74 => lt_ (sI h74 67 7 ((gI h74 67 7) + 1)) fun h76 => G_X11_nextToken_43 d l1 h76 := by
  refine mX_ckt (k' := 69) (ls' := [some (.ref 67), some (.int l1)]) (st' := []) (h' := (sI h 67 10 s0)) (k_67 L) rfl ?_
  refine lt_geq2 (X := fun h74 : MH => mX (mE mtab d) KX11_nextToken 69 [some (.ref 67), some (.int l1)] [] h74) (a := (sI h 67 10 s0)) (a' := (sI h 67 10 s0)) rfl fun h74 eh74 => ?_
  have L74 : lay h74 := eh74 ▸ layI L (by decide)
  refine mX_to 2 (k' := 71) (ls' := [some (.ref 67), some (.int l1)]) (st' := [.ref 67, .ref 67]) (h' := h74) rfl ?_
  refine mX_ckv (v := .int (gI h74 67 7)) (v' := .int (gI h74 67 7)) (k' := 72) (ls' := [some (.ref 67), some (.int l1)]) (st' := [.ref 67]) (h' := h74) (k_67 L74) rfl rfl ?_
  refine mX_to 2 (k' := 74) (ls' := [some (.ref 67), some (.int l1)]) (st' := [.int ((gI h74 67 7) + 1), .ref 67]) (h' := h74) rfl ?_
  refine mX_ckt (k' := 75) (ls' := [some (.ref 67), some (.int l1)]) (st' := []) (h' := (sI h74 67 7 ((gI h74 67 7) + 1))) (k_67 L74) rfl ?_
  refine lt_geq2 (X := fun h76 : MH => mX (mE mtab d) KX11_nextToken 75 [some (.ref 67), some (.int l1)] [] h76) (a := (sI h74 67 7 ((gI h74 67 7) + 1))) (a' := (sI h74 67 7 ((gI h74 67 7) + 1))) rfl fun h76 eh76 => ?_
  have L76 : lay h76 := eh76 ▸ layI L74 (by decide)
  refine mX_to 1 (k' := 43) (ls' := [some (.ref 67), some (.int l1)]) (st' := []) (h' := h76) rfl ?_
  rfl
theorem S_X11_nextToken_152 {h : MH} (L : lay h) (d : Nat) (l1 : Int32) (s0 : Int32) : G_X11_nextToken_152 d l1 s0 h = lt_ (sI h 67 9 s0) fun h78 => lt_ (sI h78 67 7 ((gI h78 67 7) + 1)) fun h80 => some (.int 0, h80) := by
  refine mX_ckt (k' := 153) (ls' := [some (.ref 67), some (.int l1)]) (st' := []) (h' := (sI h 67 9 s0)) (k_67 L) rfl ?_
  refine lt_geq2 (X := fun h78 : MH => mX (mE mtab d) KX11_nextToken 153 [some (.ref 67), some (.int l1)] [] h78) (a := (sI h 67 9 s0)) (a' := (sI h 67 9 s0)) rfl fun h78 eh78 => ?_
  have L78 : lay h78 := eh78 ▸ layI L (by decide)
  refine mX_to 2 (k' := 155) (ls' := [some (.ref 67), some (.int l1)]) (st' := [.ref 67, .ref 67]) (h' := h78) rfl ?_
  refine mX_ckv (v := .int (gI h78 67 7)) (v' := .int (gI h78 67 7)) (k' := 156) (ls' := [some (.ref 67), some (.int l1)]) (st' := [.ref 67]) (h' := h78) (k_67 L78) rfl rfl ?_
  refine mX_to 2 (k' := 158) (ls' := [some (.ref 67), some (.int l1)]) (st' := [.int ((gI h78 67 7) + 1), .ref 67]) (h' := h78) rfl ?_
  refine mX_ckt (k' := 159) (ls' := [some (.ref 67), some (.int l1)]) (st' := []) (h' := (sI h78 67 7 ((gI h78 67 7) + 1))) (k_67 L78) rfl ?_
  refine lt_geq2 (X := fun h80 : MH => mX (mE mtab d) KX11_nextToken 159 [some (.ref 67), some (.int l1)] [] h80) (a := (sI h78 67 7 ((gI h78 67 7) + 1))) (a' := (sI h78 67 7 ((gI h78 67 7) + 1))) rfl fun h80 eh80 => ?_
  have L80 : lay h80 := eh80 ▸ layI L78 (by decide)
  exact mX_ret rfl
theorem S_X11_nextToken {h : MH} (L : lay h) (d : Nat) : F_X11_nextToken (d + 1) h = cI (F_X11_byteAt d (gI h 67 7) h) (fun x2 h1 => (if x2 = 32 then G_X11_nextToken_12 d h1 else cI (F_X11_byteAt d (gI h1 67 7) h1) (fun x4 h3 => (if x4 = 10 then G_X11_nextToken_12 d h3 else lt_ (sI h3 67 8 (gI h3 67 7)) fun h6 => cI (F_X11_byteAt d (gI h6 67 7) h6) (fun x8 h7 => (if x8 < 0 then lt_ (sI h7 67 9 0) fun h10 => some (.int 0, h10) else cI (F_X11_isFigure d x8 h7) (fun x12 h11 => (if x12 = 0 then cI (F_X11_isLetterByte d x8 h11) (fun x14 h13 => (if x14 = 0 then cI (F_X11_isSign d x8 h13) (fun x16 h15 => (if x16 = 0 then G_X11_nextToken_126 d x8 3 h15 else G_X11_nextToken_126 d x8 x8 h15)) else lt_ (sI h13 67 9 2) fun h18 => lt_ (sL h18 67 11 0) fun h20 => G_X11_nextToken_85 d x8 h20)) else lt_ (sI h11 67 9 1) fun h22 => lt_ (sI h22 67 10 0) fun h24 => G_X11_nextToken_43 d x8 h24)))))))) := by
  refine mE_eq (q := (yX11_nextToken, cX11_nextToken, 2, none, KX11_nextToken)) (C := KX11_nextToken) (ls := [some (.ref 67), none]) rfl rfl rfl rfl ?_
  refine mX_to 2 (k' := 2) (ls' := [some (.ref 67), none]) (st' := [.ref 67, .ref 67]) (h' := h) rfl ?_
  refine mX_ckv (v := .int (gI h 67 7)) (v' := .int (gI h 67 7)) (k' := 3) (ls' := [some (.ref 67), none]) (st' := [.ref 67]) (h' := h) (k_67 L) rfl rfl ?_
  refine mX_ckct (m := mcl (mE mtab d 96 [.ref 67, .int (gI h 67 7)] h) 1 4 [some (.ref 67), none] []) (k_67 L) rfl ?_
  refine mk_cIe (o := F_X11_byteAt d (gI h 67 7) h) ?_
  intro x2 h1 eh1
  have L1 : lay h1 := lay_call d 96 [.ref 67, .int (gI h 67 7)] h _ h1 rfl eh1 L
  refine mX_to 1 (k' := 5) (ls' := [some (.ref 67), none]) (st' := [.int 32, .int x2]) (h' := h1) rfl ?_
  refine mX_br (t := 12) (f := 6) (ls' := [some (.ref 67), none]) (st' := []) (h' := h1) rfl ?_ ?_
  · rfl
  · refine mX_to 2 (k' := 8) (ls' := [some (.ref 67), none]) (st' := [.ref 67, .ref 67]) (h' := h1) rfl ?_
    refine mX_ckv (v := .int (gI h1 67 7)) (v' := .int (gI h1 67 7)) (k' := 9) (ls' := [some (.ref 67), none]) (st' := [.ref 67]) (h' := h1) (k_67 L1) rfl rfl ?_
    refine mX_ckct (m := mcl (mE mtab d 96 [.ref 67, .int (gI h1 67 7)] h1) 1 10 [some (.ref 67), none] []) (k_67 L1) rfl ?_
    refine mk_cIe (o := F_X11_byteAt d (gI h1 67 7) h1) ?_
    intro x4 h3 eh3
    have L3 : lay h3 := lay_call d 96 [.ref 67, .int (gI h1 67 7)] h1 _ h3 rfl eh3 L1
    refine mX_to 1 (k' := 11) (ls' := [some (.ref 67), none]) (st' := [.int 10, .int x4]) (h' := h3) rfl ?_
    refine mX_br (t := 12) (f := 19) (ls' := [some (.ref 67), none]) (st' := []) (h' := h3) rfl ?_ ?_
    · rfl
    · refine mX_to 2 (k' := 21) (ls' := [some (.ref 67), none]) (st' := [.ref 67, .ref 67]) (h' := h3) rfl ?_
      refine mX_ckv (v := .int (gI h3 67 7)) (v' := .int (gI h3 67 7)) (k' := 22) (ls' := [some (.ref 67), none]) (st' := [.ref 67]) (h' := h3) (k_67 L3) rfl rfl ?_
      refine mX_ckt (k' := 23) (ls' := [some (.ref 67), none]) (st' := []) (h' := (sI h3 67 8 (gI h3 67 7))) (k_67 L3) rfl ?_
      refine lt_geq2 (X := fun h6 : MH => mX (mE mtab d) KX11_nextToken 23 [some (.ref 67), none] [] h6) (a := (sI h3 67 8 (gI h3 67 7))) (a' := (sI h3 67 8 (gI h3 67 7))) rfl fun h6 eh6 => ?_
      have L6 : lay h6 := eh6 ▸ layI L3 (by decide)
      refine mX_to 2 (k' := 25) (ls' := [some (.ref 67), none]) (st' := [.ref 67, .ref 67]) (h' := h6) rfl ?_
      refine mX_ckv (v := .int (gI h6 67 7)) (v' := .int (gI h6 67 7)) (k' := 26) (ls' := [some (.ref 67), none]) (st' := [.ref 67]) (h' := h6) (k_67 L6) rfl rfl ?_
      refine mX_ckct (m := mcl (mE mtab d 96 [.ref 67, .int (gI h6 67 7)] h6) 1 27 [some (.ref 67), none] []) (k_67 L6) rfl ?_
      refine mk_cIe (o := F_X11_byteAt d (gI h6 67 7) h6) ?_
      intro x8 h7 eh7
      have L7 : lay h7 := lay_call d 96 [.ref 67, .int (gI h6 67 7)] h6 _ h7 rfl eh7 L6
      refine mX_to 2 (k' := 29) (ls' := [some (.ref 67), some (.int x8)]) (st' := [.int x8]) (h' := h7) rfl ?_
      refine mX_br (t := 30) (f := 34) (ls' := [some (.ref 67), some (.int x8)]) (st' := []) (h' := h7) rfl ?_ ?_
      · refine mX_to 2 (k' := 32) (ls' := [some (.ref 67), some (.int x8)]) (st' := [.int 0, .ref 67]) (h' := h7) rfl ?_
        refine mX_ckt (k' := 33) (ls' := [some (.ref 67), some (.int x8)]) (st' := []) (h' := (sI h7 67 9 0)) (k_67 L7) rfl ?_
        refine lt_geq2 (X := fun h10 : MH => mX (mE mtab d) KX11_nextToken 33 [some (.ref 67), some (.int x8)] [] h10) (a := (sI h7 67 9 0)) (a' := (sI h7 67 9 0)) rfl fun h10 eh10 => ?_
        have L10 : lay h10 := eh10 ▸ layI L7 (by decide)
        refine mX_to 1 (k' := 159) (ls' := [some (.ref 67), some (.int x8)]) (st' := []) (h' := h10) rfl ?_
        exact mX_ret rfl
      · refine mX_to 1 (k' := 35) (ls' := [some (.ref 67), some (.int x8)]) (st' := [.int x8]) (h' := h7) rfl ?_
        refine mX_cIe (o := F_X11_isFigure d x8 h7) (k' := 36) (ls' := [some (.ref 67), some (.int x8)]) (st' := []) rfl ?_
        intro x12 h11 eh11
        have L11 : lay h11 := lay_call d 97 [.int x8] h7 _ h11 rfl eh11 L7
        refine mX_br (t := 76) (f := 37) (ls' := [some (.ref 67), some (.int x8)]) (st' := []) (h' := h11) rfl ?_ ?_
        · refine mX_to 1 (k' := 77) (ls' := [some (.ref 67), some (.int x8)]) (st' := [.int x8]) (h' := h11) rfl ?_
          refine mX_cIe (o := F_X11_isLetterByte d x8 h11) (k' := 78) (ls' := [some (.ref 67), some (.int x8)]) (st' := []) rfl ?_
          intro x14 h13 eh13
          have L13 : lay h13 := lay_call d 98 [.int x8] h11 _ h13 rfl eh13 L11
          refine mX_br (t := 119) (f := 79) (ls' := [some (.ref 67), some (.int x8)]) (st' := []) (h' := h13) rfl ?_ ?_
          · refine mX_to 2 (k' := 121) (ls' := [some (.ref 67), some (.int x8)]) (st' := [.int x8, .ref 67]) (h' := h13) rfl ?_
            refine mX_cIe (o := F_X11_isSign d x8 h13) (k' := 122) (ls' := [some (.ref 67), some (.int x8)]) (st' := [.ref 67]) rfl ?_
            intro x16 h15 eh15
            have L15 : lay h15 := lay_call d 99 [.int x8] h13 _ h15 rfl eh15 L13
            refine mX_br (t := 125) (f := 123) (ls' := [some (.ref 67), some (.int x8)]) (st' := [.ref 67]) (h' := h15) rfl ?_ ?_
            · refine mX_to 1 (k' := 126) (ls' := [some (.ref 67), some (.int x8)]) (st' := [.int 3, .ref 67]) (h' := h15) rfl ?_
              rfl
            · refine mX_to 2 (k' := 126) (ls' := [some (.ref 67), some (.int x8)]) (st' := [.int x8, .ref 67]) (h' := h15) rfl ?_
              rfl
          · refine mX_to 2 (k' := 81) (ls' := [some (.ref 67), some (.int x8)]) (st' := [.int 2, .ref 67]) (h' := h13) rfl ?_
            refine mX_ckt (k' := 82) (ls' := [some (.ref 67), some (.int x8)]) (st' := []) (h' := (sI h13 67 9 2)) (k_67 L13) rfl ?_
            refine lt_geq2 (X := fun h18 : MH => mX (mE mtab d) KX11_nextToken 82 [some (.ref 67), some (.int x8)] [] h18) (a := (sI h13 67 9 2)) (a' := (sI h13 67 9 2)) rfl fun h18 eh18 => ?_
            have L18 : lay h18 := eh18 ▸ layI L13 (by decide)
            refine mX_to 2 (k' := 84) (ls' := [some (.ref 67), some (.int x8)]) (st' := [.long 0, .ref 67]) (h' := h18) rfl ?_
            refine mX_ckt (k' := 85) (ls' := [some (.ref 67), some (.int x8)]) (st' := []) (h' := (sL h18 67 11 0)) (k_67 L18) rfl ?_
            refine lt_geq2 (X := fun h20 : MH => mX (mE mtab d) KX11_nextToken 85 [some (.ref 67), some (.int x8)] [] h20) (a := (sL h18 67 11 0)) (a' := (sL h18 67 11 0)) rfl fun h20 eh20 => ?_
            have L20 : lay h20 := eh20 ▸ layL L18
            rfl
        · refine mX_to 2 (k' := 39) (ls' := [some (.ref 67), some (.int x8)]) (st' := [.int 1, .ref 67]) (h' := h11) rfl ?_
          refine mX_ckt (k' := 40) (ls' := [some (.ref 67), some (.int x8)]) (st' := []) (h' := (sI h11 67 9 1)) (k_67 L11) rfl ?_
          refine lt_geq2 (X := fun h22 : MH => mX (mE mtab d) KX11_nextToken 40 [some (.ref 67), some (.int x8)] [] h22) (a := (sI h11 67 9 1)) (a' := (sI h11 67 9 1)) rfl fun h22 eh22 => ?_
          have L22 : lay h22 := eh22 ▸ layI L11 (by decide)
          refine mX_to 2 (k' := 42) (ls' := [some (.ref 67), some (.int x8)]) (st' := [.int 0, .ref 67]) (h' := h22) rfl ?_
          refine mX_ckt (k' := 43) (ls' := [some (.ref 67), some (.int x8)]) (st' := []) (h' := (sI h22 67 10 0)) (k_67 L22) rfl ?_
          refine lt_geq2 (X := fun h24 : MH => mX (mE mtab d) KX11_nextToken 43 [some (.ref 67), some (.int x8)] [] h24) (a := (sI h22 67 10 0)) (a' := (sI h22 67 10 0)) rfl fun h24 eh24 => ?_
          have L24 : lay h24 := eh24 ▸ layI L22 (by decide)
          rfl
theorem S_X11_w2 {h : MH} (L : lay h) (d : Nat) (a0 : Int32) (a1 : Int32) : F_X11_w2 (d + 1) a0 a1 h = some (.long ((((a0 : Int32).toInt64) <<< ((8 : Int32).toInt64 &&& 63)) ||| ((a1 : Int32).toInt64)), h) := by
  refine mE_eq (q := (yX11_w2, cX11_w2, 2, (some .long), KX11_w2)) (C := KX11_w2) (ls := [some (.int a0), some (.int a1)]) rfl rfl rfl rfl ?_
  refine mX_to 7 (k' := 7) (ls' := [some (.int a0), some (.int a1)]) (st' := [.long ((((a0 : Int32).toInt64) <<< ((8 : Int32).toInt64 &&& 63)) ||| ((a1 : Int32).toInt64))]) (h' := h) rfl ?_
  exact mX_ret rfl
theorem S_X11_w3 {h : MH} (L : lay h) (d : Nat) (a0 : Int32) (a1 : Int32) (a2 : Int32) : F_X11_w3 (d + 1) a0 a1 a2 h = cL (F_X11_w2 d a0 a1 h) (fun x2 h1 => some (.long ((x2 <<< ((8 : Int32).toInt64 &&& 63)) ||| ((a2 : Int32).toInt64)), h1)) := by
  refine mE_eq (q := (yX11_w3, cX11_w3, 3, (some .long), KX11_w3)) (C := KX11_w3) (ls := [some (.int a0), some (.int a1), some (.int a2)]) rfl rfl rfl rfl ?_
  refine mX_to 2 (k' := 2) (ls' := [some (.int a0), some (.int a1), some (.int a2)]) (st' := [.int a1, .int a0]) (h' := h) rfl ?_
  refine mX_cLe (o := F_X11_w2 d a0 a1 h) (k' := 3) (ls' := [some (.int a0), some (.int a1), some (.int a2)]) (st' := []) rfl ?_
  intro x2 h1 eh1
  have L1 : lay h1 := lay_call d 101 [.int a0, .int a1] h _ h1 rfl eh1 L
  refine mX_to 5 (k' := 8) (ls' := [some (.int a0), some (.int a1), some (.int a2)]) (st' := [.long ((x2 <<< ((8 : Int32).toInt64 &&& 63)) ||| ((a2 : Int32).toInt64))]) (h' := h1) rfl ?_
  exact mX_ret rfl
