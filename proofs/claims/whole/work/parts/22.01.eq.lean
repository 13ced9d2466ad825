--deps:19.lay 21.facts 22.00.names
/-! EQUATIONS over the fixed cells (written by wip/gen/sgen.py) -/
theorem S_X11_copy_2 {h : MH} (L : lay h) (d : Nat) (l0 : Nat) (l1 : Nat) (l2 : Int32) : G_X11_copy_2 d l0 l1 l2 h = (if l2 < 1498 then ck ((kd h l0 = 20 ∨ kd h l0 = 24) ∧ ib l2 (ln h l0)) (ck (kd h l1 = 20 ∧ ib l2 (ln h l1)) (lt_ (sI h l1 (ix l2) (gI h l0 (ix l2))) fun h2 => G_X11_copy_2 d l0 l1 (l2 + 1) h2)) else some (.int 0, h)) := by
  refine mX_to 2 (k' := 4) (ls' := [some (.ref l0), some (.ref l1), some (.int l2)]) (st' := [.int 1498, .int l2]) (h' := h) rfl ?_
  refine mX_br (t := 5) (f := 13) (ls' := [some (.ref l0), some (.ref l1), some (.int l2)]) (st' := []) (h' := h) rfl ?_ ?_
  · refine mX_to 4 (k' := 9) (ls' := [some (.ref l0), some (.ref l1), some (.int l2)]) (st' := [.int l2, .ref l0, .int l2, .ref l1]) (h' := h) rfl ?_
    refine mX_ckw (v := .int (gI h l0 (ix l2))) (v' := .int (gI h l0 (ix l2))) (k' := 10) (ls' := [some (.ref l0), some (.ref l1), some (.int l2)]) (st' := [.int l2, .ref l1]) (h' := h) Iff.rfl rfl rfl fun c3 => ?_
    refine mX_cki (k' := 11) (ls' := [some (.ref l0), some (.ref l1), some (.int l2)]) (st' := []) (h' := (sI h l1 (ix l2) (gI h l0 (ix l2)))) Iff.rfl rfl fun c1 => ?_
    refine lt_geq2 (X := fun h2 : MH => mX (mE mtab d) KX11_copy 11 [some (.ref l0), some (.ref l1), some (.int l2)] [] h2) (a := (sI h l1 (ix l2) (gI h l0 (ix l2)))) (a' := (sI h l1 (ix l2) (gI h l0 (ix l2)))) rfl fun h2 eh2 => ?_
    have L2 : lay h2 := eh2 ▸ layI L (lay_ne L (by rw [c1.1]; decide))
    refine mX_to 2 (k' := 2) (ls' := [some (.ref l0), some (.ref l1), some (.int (l2 + 1))]) (st' := []) (h' := h2) rfl ?_
    rfl
  · exact mX_ret rfl
theorem S_X11_copy {h : MH} (L : lay h) (d : Nat) (a0 : Nat) (a1 : Nat) : F_X11_copy (d + 1) a0 a1 h = G_X11_copy_2 d a0 a1 0 h := by
  refine mE_eq (q := (yX11_copy, cX11_copy, 3, none, KX11_copy)) (C := KX11_copy) (ls := [some (.ref a0), some (.ref a1), none]) rfl rfl rfl rfl ?_
  refine mX_to 2 (k' := 2) (ls' := [some (.ref a0), some (.ref a1), some (.int 0)]) (st' := []) (h' := h) rfl ?_
  rfl
theorem S_X10_within {h : MH} (L : lay h) (d : Nat) (a0 : Int32) (a1 : Int32) (a2 : Int32) : F_X10_within (d + 1) a0 a1 a2 h = (if a0 < a1 then some (.int 0, h) else (if a0 ≤ a2 then some (.int 1, h) else some (.int 0, h))) := by
  refine mE_eq (q := (yX10_within, cX10_within, 3, (some .boolean), KX10_within)) (C := KX10_within) (ls := [some (.int a0), some (.int a1), some (.int a2)]) rfl rfl rfl rfl ?_
  refine mX_to 2 (k' := 2) (ls' := [some (.int a0), some (.int a1), some (.int a2)]) (st' := [.int a1, .int a0]) (h' := h) rfl ?_
  refine mX_br (t := 8) (f := 3) (ls' := [some (.int a0), some (.int a1), some (.int a2)]) (st' := []) (h' := h) rfl ?_ ?_
  · refine mX_to 1 (k' := 9) (ls' := [some (.int a0), some (.int a1), some (.int a2)]) (st' := [.int 0]) (h' := h) rfl ?_
    exact mX_retb (by decide) rfl
  · refine mX_to 2 (k' := 5) (ls' := [some (.int a0), some (.int a1), some (.int a2)]) (st' := [.int a2, .int a0]) (h' := h) rfl ?_
    refine mX_br (t := 6) (f := 8) (ls' := [some (.int a0), some (.int a1), some (.int a2)]) (st' := []) (h' := h) rfl ?_ ?_
    · refine mX_to 2 (k' := 9) (ls' := [some (.int a0), some (.int a1), some (.int a2)]) (st' := [.int 1]) (h' := h) rfl ?_
      exact mX_retb (by decide) rfl
    · refine mX_to 1 (k' := 9) (ls' := [some (.int a0), some (.int a1), some (.int a2)]) (st' := [.int 0]) (h' := h) rfl ?_
      exact mX_retb (by decide) rfl
theorem S_X9_settle {h : MH} (L : lay h) (d : Nat) (q : Nat) (a1 : Int32) (a2 : Int32) (T : tAt q) : F_X9_settle (d + 1) q a1 a2 h = (if (gI h q 0) < 4 then ck (ib (gI h q 0) 4) (lt_ (sI h (q + 1) (ix (gI h q 0)) a1) fun h2 => ck (ib (gI h2 q 0) 4) (lt_ (sI h2 (q + 2) (ix (gI h2 q 0)) a2) fun h4 => ck (ib (gI h4 q 0) 4) (lt_ (sI h4 (q + 3) (ix (gI h4 q 0)) (-1)) fun h6 => lt_ (sI h6 q 0 ((gI h6 q 0) + 1)) fun h8 => some (.int ((gI h8 q 0) - 1), h8)))) else some (.int (-1), h)) := by
  refine mE_eq (q := (yX9_settle, cX9_settle, 3, (some .int), KX9_settle)) (C := KX9_settle) (ls := [some (.ref q), some (.int a1), some (.int a2)]) rfl rfl rfl rfl ?_
  refine mX_to 1 (k' := 1) (ls' := [some (.ref q), some (.int a1), some (.int a2)]) (st' := [.ref q]) (h' := h) rfl ?_
  refine mX_ckv (v := .int (gI h q 0)) (v' := .int (gI h q 0)) (k' := 2) (ls' := [some (.ref q), some (.int a1), some (.int a2)]) (st' := []) (h' := h) (kT0 L T) rfl rfl ?_
  refine mX_to 1 (k' := 3) (ls' := [some (.ref q), some (.int a1), some (.int a2)]) (st' := [.int 4, .int (gI h q 0)]) (h' := h) rfl ?_
  refine mX_br (t := 6) (f := 4) (ls' := [some (.ref q), some (.int a1), some (.int a2)]) (st' := []) (h' := h) rfl ?_ ?_
  · refine mX_to 1 (k' := 7) (ls' := [some (.ref q), some (.int a1), some (.int a2)]) (st' := [.ref q]) (h' := h) rfl ?_
    refine mX_ckv (v := .ref (gR h q 1)) (v' := .ref (q + 1)) (k' := 8) (ls' := [some (.ref q), some (.int a1), some (.int a2)]) (st' := []) (h' := h) (kT0 L T) (congrArg Value.ref (rT1 L T)) rfl ?_
    refine mX_to 1 (k' := 9) (ls' := [some (.ref q), some (.int a1), some (.int a2)]) (st' := [.ref q, .ref (q + 1)]) (h' := h) rfl ?_
    refine mX_ckv (v := .int (gI h q 0)) (v' := .int (gI h q 0)) (k' := 10) (ls' := [some (.ref q), some (.int a1), some (.int a2)]) (st' := [.ref (q + 1)]) (h' := h) (kT0 L T) rfl rfl ?_
    refine mX_to 1 (k' := 11) (ls' := [some (.ref q), some (.int a1), some (.int a2)]) (st' := [.int a1, .int (gI h q 0), .ref (q + 1)]) (h' := h) rfl ?_
    refine mX_cki (k' := 12) (ls' := [some (.ref q), some (.int a1), some (.int a2)]) (st' := []) (h' := (sI h (q + 1) (ix (gI h q 0)) a1)) (ckA0 (kT1 L T) (nT1 L T)) rfl fun c1 => ?_
    refine lt_geq2 (X := fun h2 : MH => mX (mE mtab d) KX9_settle 12 [some (.ref q), some (.int a1), some (.int a2)] [] h2) (a := (sI h (q + 1) (ix (gI h q 0)) a1)) (a' := (sI h (q + 1) (ix (gI h q 0)) a1)) rfl fun h2 eh2 => ?_
    have L2 : lay h2 := eh2 ▸ layI L (neT1 T)
    refine mX_to 1 (k' := 13) (ls' := [some (.ref q), some (.int a1), some (.int a2)]) (st' := [.ref q]) (h' := h2) rfl ?_
    refine mX_ckv (v := .ref (gR h2 q 2)) (v' := .ref (q + 2)) (k' := 14) (ls' := [some (.ref q), some (.int a1), some (.int a2)]) (st' := []) (h' := h2) (kT0 L2 T) (congrArg Value.ref (rT2 L2 T)) rfl ?_
    refine mX_to 1 (k' := 15) (ls' := [some (.ref q), some (.int a1), some (.int a2)]) (st' := [.ref q, .ref (q + 2)]) (h' := h2) rfl ?_
    refine mX_ckv (v := .int (gI h2 q 0)) (v' := .int (gI h2 q 0)) (k' := 16) (ls' := [some (.ref q), some (.int a1), some (.int a2)]) (st' := [.ref (q + 2)]) (h' := h2) (kT0 L2 T) rfl rfl ?_
    refine mX_to 1 (k' := 17) (ls' := [some (.ref q), some (.int a1), some (.int a2)]) (st' := [.int a2, .int (gI h2 q 0), .ref (q + 2)]) (h' := h2) rfl ?_
    refine mX_cki (k' := 18) (ls' := [some (.ref q), some (.int a1), some (.int a2)]) (st' := []) (h' := (sI h2 (q + 2) (ix (gI h2 q 0)) a2)) (ckA0 (kT2 L2 T) (nT2 L2 T)) rfl fun c3 => ?_
    refine lt_geq2 (X := fun h4 : MH => mX (mE mtab d) KX9_settle 18 [some (.ref q), some (.int a1), some (.int a2)] [] h4) (a := (sI h2 (q + 2) (ix (gI h2 q 0)) a2)) (a' := (sI h2 (q + 2) (ix (gI h2 q 0)) a2)) rfl fun h4 eh4 => ?_
    have L4 : lay h4 := eh4 ▸ layI L2 (neT2 T)
    refine mX_to 1 (k' := 19) (ls' := [some (.ref q), some (.int a1), some (.int a2)]) (st' := [.ref q]) (h' := h4) rfl ?_
    refine mX_ckv (v := .ref (gR h4 q 3)) (v' := .ref (q + 3)) (k' := 20) (ls' := [some (.ref q), some (.int a1), some (.int a2)]) (st' := []) (h' := h4) (kT0 L4 T) (congrArg Value.ref (rT3 L4 T)) rfl ?_
    refine mX_to 1 (k' := 21) (ls' := [some (.ref q), some (.int a1), some (.int a2)]) (st' := [.ref q, .ref (q + 3)]) (h' := h4) rfl ?_
    refine mX_ckv (v := .int (gI h4 q 0)) (v' := .int (gI h4 q 0)) (k' := 22) (ls' := [some (.ref q), some (.int a1), some (.int a2)]) (st' := [.ref (q + 3)]) (h' := h4) (kT0 L4 T) rfl rfl ?_
    refine mX_to 1 (k' := 23) (ls' := [some (.ref q), some (.int a1), some (.int a2)]) (st' := [.int (-1), .int (gI h4 q 0), .ref (q + 3)]) (h' := h4) rfl ?_
    refine mX_cki (k' := 24) (ls' := [some (.ref q), some (.int a1), some (.int a2)]) (st' := []) (h' := (sI h4 (q + 3) (ix (gI h4 q 0)) (-1))) (ckA0 (kT3 L4 T) (nT3 L4 T)) rfl fun c5 => ?_
    refine lt_geq2 (X := fun h6 : MH => mX (mE mtab d) KX9_settle 24 [some (.ref q), some (.int a1), some (.int a2)] [] h6) (a := (sI h4 (q + 3) (ix (gI h4 q 0)) (-1))) (a' := (sI h4 (q + 3) (ix (gI h4 q 0)) (-1))) rfl fun h6 eh6 => ?_
    have L6 : lay h6 := eh6 ▸ layI L4 (neT3 T)
    refine mX_to 2 (k' := 26) (ls' := [some (.ref q), some (.int a1), some (.int a2)]) (st' := [.ref q, .ref q]) (h' := h6) rfl ?_
    refine mX_ckv (v := .int (gI h6 q 0)) (v' := .int (gI h6 q 0)) (k' := 27) (ls' := [some (.ref q), some (.int a1), some (.int a2)]) (st' := [.ref q]) (h' := h6) (kT0 L6 T) rfl rfl ?_
    refine mX_to 2 (k' := 29) (ls' := [some (.ref q), some (.int a1), some (.int a2)]) (st' := [.int ((gI h6 q 0) + 1), .ref q]) (h' := h6) rfl ?_
    refine mX_ckt (k' := 30) (ls' := [some (.ref q), some (.int a1), some (.int a2)]) (st' := []) (h' := (sI h6 q 0 ((gI h6 q 0) + 1))) (kT0 L6 T) rfl ?_
    refine lt_geq2 (X := fun h8 : MH => mX (mE mtab d) KX9_settle 30 [some (.ref q), some (.int a1), some (.int a2)] [] h8) (a := (sI h6 q 0 ((gI h6 q 0) + 1))) (a' := (sI h6 q 0 ((gI h6 q 0) + 1))) rfl fun h8 eh8 => ?_
    have L8 : lay h8 := eh8 ▸ layI L6 (neT0 T)
    refine mX_to 1 (k' := 31) (ls' := [some (.ref q), some (.int a1), some (.int a2)]) (st' := [.ref q]) (h' := h8) rfl ?_
    refine mX_ckv (v := .int (gI h8 q 0)) (v' := .int (gI h8 q 0)) (k' := 32) (ls' := [some (.ref q), some (.int a1), some (.int a2)]) (st' := []) (h' := h8) (kT0 L8 T) rfl rfl ?_
    refine mX_to 2 (k' := 34) (ls' := [some (.ref q), some (.int a1), some (.int a2)]) (st' := [.int ((gI h8 q 0) - 1)]) (h' := h8) rfl ?_
    exact mX_reti rfl
  · refine mX_to 1 (k' := 5) (ls' := [some (.ref q), some (.int a1), some (.int a2)]) (st' := [.int (-1)]) (h' := h) rfl ?_
    exact mX_reti rfl
theorem S_X10_person {h : MH} (L : lay h) (d : Nat) (a1 : Int32) (a2 : Int32) : F_X10_person (d + 1) a1 a2 h = cI (F_X10_within d a1 1 9 h) (fun x2 h1 => (if x2 = 0 then some (.int (-1), h1) else cI (F_X10_within d a2 0 8 h1) (fun x4 h3 => (if x4 = 0 then some (.int (-1), h3) else cI (F_X9_settle d 10 a1 a2 h3) (fun x6 h5 => some (.int x6, h5)))))) := by
  refine mE_eq (q := (yX10_person, cX10_person, 3, (some .int), KX10_person)) (C := KX10_person) (ls := [some (.ref 8), some (.int a1), some (.int a2)]) rfl rfl rfl rfl ?_
  refine mX_to 3 (k' := 3) (ls' := [some (.ref 8), some (.int a1), some (.int a2)]) (st' := [.int 9, .int 1, .int a1]) (h' := h) rfl ?_
  refine mX_cIe (o := F_X10_within d a1 1 9 h) (k' := 4) (ls' := [some (.ref 8), some (.int a1), some (.int a2)]) (st' := []) rfl ?_
  intro x2 h1 eh1
  have L1 : lay h1 := lay_call d 11 [.int a1, .int 1, .int 9] h _ h1 rfl eh1 L
  refine mX_br (t := 10) (f := 5) (ls' := [some (.ref 8), some (.int a1), some (.int a2)]) (st' := []) (h' := h1) rfl ?_ ?_
  · refine mX_to 1 (k' := 11) (ls' := [some (.ref 8), some (.int a1), some (.int a2)]) (st' := [.int (-1)]) (h' := h1) rfl ?_
    exact mX_reti rfl
  · refine mX_to 3 (k' := 8) (ls' := [some (.ref 8), some (.int a1), some (.int a2)]) (st' := [.int 8, .int 0, .int a2]) (h' := h1) rfl ?_
    refine mX_cIe (o := F_X10_within d a2 0 8 h1) (k' := 9) (ls' := [some (.ref 8), some (.int a1), some (.int a2)]) (st' := []) rfl ?_
    intro x4 h3 eh3
    have L3 : lay h3 := lay_call d 11 [.int a2, .int 0, .int 8] h1 _ h3 rfl eh3 L1
    refine mX_br (t := 10) (f := 12) (ls' := [some (.ref 8), some (.int a1), some (.int a2)]) (st' := []) (h' := h3) rfl ?_ ?_
    · refine mX_to 1 (k' := 11) (ls' := [some (.ref 8), some (.int a1), some (.int a2)]) (st' := [.int (-1)]) (h' := h3) rfl ?_
      exact mX_reti rfl
    · refine mX_to 1 (k' := 13) (ls' := [some (.ref 8), some (.int a1), some (.int a2)]) (st' := [.ref 8]) (h' := h3) rfl ?_
      refine mX_ckv (v := .ref (gR h3 8 0)) (v' := .ref 9) (k' := 14) (ls' := [some (.ref 8), some (.int a1), some (.int a2)]) (st' := []) (h' := h3) (k_8 L3) (congrArg Value.ref (r_8_0 L3)) rfl ?_
      refine mX_ckv (v := .ref (gR h3 9 0)) (v' := .ref 10) (k' := 15) (ls' := [some (.ref 8), some (.int a1), some (.int a2)]) (st' := []) (h' := h3) (k_9 L3) (congrArg Value.ref (r_9_0 L3)) rfl ?_
      refine mX_to 2 (k' := 17) (ls' := [some (.ref 8), some (.int a1), some (.int a2)]) (st' := [.int a2, .int a1, .ref 10]) (h' := h3) rfl ?_
      refine mX_ckct (m := mcl (mE mtab d 12 [.ref 10, .int a1, .int a2] h3) 1 18 [some (.ref 8), some (.int a1), some (.int a2)] []) (k_10 L3) rfl ?_
      refine mk_cIe (o := F_X9_settle d 10 a1 a2 h3) ?_
      intro x6 h5 eh5
      have L5 : lay h5 := lay_call d 12 [.ref 10, .int a1, .int a2] h3 _ h5 rfl eh5 L3
      exact mX_reti rfl
theorem S_X11_isIn {h : MH} (L : lay h) (d : Nat) (a0 : Int32) (a1 : Int32) (a2 : Int32) : F_X11_isIn (d + 1) a0 a1 a2 h = (if a0 < a1 then some (.int 0, h) else (if a0 ≤ a2 then some (.int 1, h) else some (.int 0, h))) := by
  refine mE_eq (q := (yX11_isIn, cX11_isIn, 3, (some .boolean), KX11_isIn)) (C := KX11_isIn) (ls := [some (.int a0), some (.int a1), some (.int a2)]) rfl rfl rfl rfl ?_
  refine mX_to 2 (k' := 2) (ls' := [some (.int a0), some (.int a1), some (.int a2)]) (st' := [.int a1, .int a0]) (h' := h) rfl ?_
  refine mX_br (t := 8) (f := 3) (ls' := [some (.int a0), some (.int a1), some (.int a2)]) (st' := []) (h' := h) rfl ?_ ?_
  · refine mX_to 1 (k' := 9) (ls' := [some (.int a0), some (.int a1), some (.int a2)]) (st' := [.int 0]) (h' := h) rfl ?_
    exact mX_retb (by decide) rfl
  · refine mX_to 2 (k' := 5) (ls' := [some (.int a0), some (.int a1), some (.int a2)]) (st' := [.int a2, .int a0]) (h' := h) rfl ?_
    refine mX_br (t := 6) (f := 8) (ls' := [some (.int a0), some (.int a1), some (.int a2)]) (st' := []) (h' := h) rfl ?_ ?_
    · refine mX_to 2 (k' := 9) (ls' := [some (.int a0), some (.int a1), some (.int a2)]) (st' := [.int 1]) (h' := h) rfl ?_
      exact mX_retb (by decide) rfl
    · refine mX_to 1 (k' := 9) (ls' := [some (.int a0), some (.int a1), some (.int a2)]) (st' := [.int 0]) (h' := h) rfl ?_
      exact mX_retb (by decide) rfl
theorem S_X11_isPlace {h : MH} (L : lay h) (d : Nat) (a0 : Int32) : F_X11_isPlace (d + 1) a0 h = cI (F_X11_isIn d a0 0 8 h) (fun x2 h1 => ck (mrt 1 x2) (some (.int x2, h1))) := by
  refine mE_eq (q := (yX11_isPlace, cX11_isPlace, 1, (some .boolean), KX11_isPlace)) (C := KX11_isPlace) (ls := [some (.int a0)]) rfl rfl rfl rfl ?_
  refine mX_to 3 (k' := 3) (ls' := [some (.int a0)]) (st' := [.int 8, .int 0, .int a0]) (h' := h) rfl ?_
  refine mX_cIe (o := F_X11_isIn d a0 0 8 h) (k' := 4) (ls' := [some (.int a0)]) (st' := []) rfl ?_
  intro x2 h1 eh1
  have L1 : lay h1 := lay_call d 14 [.int a0, .int 0, .int 8] h _ h1 rfl eh1 L
  exact mX_retc rfl
theorem S_X11_person {h : MH} (L : lay h) (d : Nat) (a1 : Int32) (a2 : Int32) : F_X11_person (d + 1) a1 a2 h = cI (F_X11_isIn d a1 1 9 h) (fun x2 h1 => (if x2 = 0 then some (.int (-1), h1) else cI (F_X11_isPlace d a2 h1) (fun x4 h3 => (if x4 = 0 then some (.int (-1), h3) else (if (gI h3 68 0) = 4 then some (.int (-1), h3) else ck (ib (22 + (gI h3 68 0)) 1498) (lt_ (sI h3 68 (ix (22 + (gI h3 68 0))) a1) fun h6 => ck (ib (26 + (gI h3 68 0)) 1498) (lt_ (sI h6 68 (ix (26 + (gI h3 68 0))) a2) fun h8 => ck (ib (9 + (gI h3 68 0)) 1498) (lt_ (sI h8 68 (ix (9 + (gI h3 68 0))) a2) fun h10 => lt_ (sI h10 68 0 ((gI h10 68 0) + 1)) fun h12 => some (.int (gI h3 68 0), h12))))))))) := by
  refine mE_eq (q := (yX11_person, cX11_person, 4, (some .int), KX11_person)) (C := KX11_person) (ls := [some (.ref 67), some (.int a1), some (.int a2), none]) rfl rfl rfl rfl ?_
  refine mX_to 3 (k' := 3) (ls' := [some (.ref 67), some (.int a1), some (.int a2), none]) (st' := [.int 9, .int 1, .int a1]) (h' := h) rfl ?_
  refine mX_cIe (o := F_X11_isIn d a1 1 9 h) (k' := 4) (ls' := [some (.ref 67), some (.int a1), some (.int a2), none]) (st' := []) rfl ?_
  intro x2 h1 eh1
  have L1 : lay h1 := lay_call d 14 [.int a1, .int 1, .int 9] h _ h1 rfl eh1 L
  refine mX_br (t := 14) (f := 5) (ls' := [some (.ref 67), some (.int a1), some (.int a2), none]) (st' := []) (h' := h1) rfl ?_ ?_
  · refine mX_to 1 (k' := 15) (ls' := [some (.ref 67), some (.int a1), some (.int a2), none]) (st' := [.int (-1)]) (h' := h1) rfl ?_
    exact mX_reti rfl
  · refine mX_to 1 (k' := 6) (ls' := [some (.ref 67), some (.int a1), some (.int a2), none]) (st' := [.int a2]) (h' := h1) rfl ?_
    refine mX_cIe (o := F_X11_isPlace d a2 h1) (k' := 7) (ls' := [some (.ref 67), some (.int a1), some (.int a2), none]) (st' := []) rfl ?_
    intro x4 h3 eh3
    have L3 : lay h3 := lay_call d 15 [.int a2] h1 _ h3 rfl eh3 L1
    refine mX_br (t := 14) (f := 8) (ls' := [some (.ref 67), some (.int a1), some (.int a2), none]) (st' := []) (h' := h3) rfl ?_ ?_
    · refine mX_to 1 (k' := 15) (ls' := [some (.ref 67), some (.int a1), some (.int a2), none]) (st' := [.int (-1)]) (h' := h3) rfl ?_
      exact mX_reti rfl
    · refine mX_to 1 (k' := 9) (ls' := [some (.ref 67), some (.int a1), some (.int a2), none]) (st' := [.ref 67]) (h' := h3) rfl ?_
      refine mX_ckv (v := .ref (gR h3 67 0)) (v' := .ref 68) (k' := 10) (ls' := [some (.ref 67), some (.int a1), some (.int a2), none]) (st' := []) (h' := h3) (k_67 L3) (congrArg Value.ref (r_67_0 L3)) rfl ?_
      refine mX_to 1 (k' := 11) (ls' := [some (.ref 67), some (.int a1), some (.int a2), none]) (st' := [.int 0, .ref 68]) (h' := h3) rfl ?_
      refine mX_ckv (v := .int (gI h3 68 (ix (0 : Int32)))) (v' := .int (gI h3 68 0)) (k' := 12) (ls' := [some (.ref 67), some (.int a1), some (.int a2), none]) (st' := []) (h' := h3) ((ckA1 (k_68 L3) (n_68 L3)).mpr (ib_lit (n := 0) rfl (by decide) (by decide))) (congrArg (fun j => Value.int (gI h3 68 j)) (ix_lit (n := 0) rfl (by decide))) rfl ?_
      refine mX_to 1 (k' := 13) (ls' := [some (.ref 67), some (.int a1), some (.int a2), none]) (st' := [.int 4, .int (gI h3 68 0)]) (h' := h3) rfl ?_
      refine mX_br (t := 14) (f := 16) (ls' := [some (.ref 67), some (.int a1), some (.int a2), none]) (st' := []) (h' := h3) rfl ?_ ?_
      · refine mX_to 1 (k' := 15) (ls' := [some (.ref 67), some (.int a1), some (.int a2), none]) (st' := [.int (-1)]) (h' := h3) rfl ?_
        exact mX_reti rfl
      · refine mX_to 1 (k' := 17) (ls' := [some (.ref 67), some (.int a1), some (.int a2), none]) (st' := [.ref 67]) (h' := h3) rfl ?_
        refine mX_ckv (v := .ref (gR h3 67 0)) (v' := .ref 68) (k' := 18) (ls' := [some (.ref 67), some (.int a1), some (.int a2), none]) (st' := []) (h' := h3) (k_67 L3) (congrArg Value.ref (r_67_0 L3)) rfl ?_
        refine mX_to 1 (k' := 19) (ls' := [some (.ref 67), some (.int a1), some (.int a2), none]) (st' := [.int 0, .ref 68]) (h' := h3) rfl ?_
        refine mX_ckv (v := .int (gI h3 68 (ix (0 : Int32)))) (v' := .int (gI h3 68 0)) (k' := 20) (ls' := [some (.ref 67), some (.int a1), some (.int a2), none]) (st' := []) (h' := h3) ((ckA1 (k_68 L3) (n_68 L3)).mpr (ib_lit (n := 0) rfl (by decide) (by decide))) (congrArg (fun j => Value.int (gI h3 68 j)) (ix_lit (n := 0) rfl (by decide))) rfl ?_
        refine mX_to 2 (k' := 22) (ls' := [some (.ref 67), some (.int a1), some (.int a2), some (.int (gI h3 68 0))]) (st' := [.ref 67]) (h' := h3) rfl ?_
        refine mX_ckv (v := .ref (gR h3 67 0)) (v' := .ref 68) (k' := 23) (ls' := [some (.ref 67), some (.int a1), some (.int a2), some (.int (gI h3 68 0))]) (st' := []) (h' := h3) (k_67 L3) (congrArg Value.ref (r_67_0 L3)) rfl ?_
        refine mX_to 4 (k' := 27) (ls' := [some (.ref 67), some (.int a1), some (.int a2), some (.int (gI h3 68 0))]) (st' := [.int a1, .int (22 + (gI h3 68 0)), .ref 68]) (h' := h3) rfl ?_
        refine mX_cki (k' := 28) (ls' := [some (.ref 67), some (.int a1), some (.int a2), some (.int (gI h3 68 0))]) (st' := []) (h' := (sI h3 68 (ix (22 + (gI h3 68 0))) a1)) (ckA0 (k_68 L3) (n_68 L3)) rfl fun c5 => ?_
        refine lt_geq2 (X := fun h6 : MH => mX (mE mtab d) KX11_person 28 [some (.ref 67), some (.int a1), some (.int a2), some (.int (gI h3 68 0))] [] h6) (a := (sI h3 68 (ix (22 + (gI h3 68 0))) a1)) (a' := (sI h3 68 (ix (22 + (gI h3 68 0))) a1)) rfl fun h6 eh6 => ?_
        have L6 : lay h6 := eh6 ▸ layI L3 (by decide)
        refine mX_to 1 (k' := 29) (ls' := [some (.ref 67), some (.int a1), some (.int a2), some (.int (gI h3 68 0))]) (st' := [.ref 67]) (h' := h6) rfl ?_
        refine mX_ckv (v := .ref (gR h6 67 0)) (v' := .ref 68) (k' := 30) (ls' := [some (.ref 67), some (.int a1), some (.int a2), some (.int (gI h3 68 0))]) (st' := []) (h' := h6) (k_67 L6) (congrArg Value.ref (r_67_0 L6)) rfl ?_
        refine mX_to 4 (k' := 34) (ls' := [some (.ref 67), some (.int a1), some (.int a2), some (.int (gI h3 68 0))]) (st' := [.int a2, .int (26 + (gI h3 68 0)), .ref 68]) (h' := h6) rfl ?_
        refine mX_cki (k' := 35) (ls' := [some (.ref 67), some (.int a1), some (.int a2), some (.int (gI h3 68 0))]) (st' := []) (h' := (sI h6 68 (ix (26 + (gI h3 68 0))) a2)) (ckA0 (k_68 L6) (n_68 L6)) rfl fun c7 => ?_
        refine lt_geq2 (X := fun h8 : MH => mX (mE mtab d) KX11_person 35 [some (.ref 67), some (.int a1), some (.int a2), some (.int (gI h3 68 0))] [] h8) (a := (sI h6 68 (ix (26 + (gI h3 68 0))) a2)) (a' := (sI h6 68 (ix (26 + (gI h3 68 0))) a2)) rfl fun h8 eh8 => ?_
        have L8 : lay h8 := eh8 ▸ layI L6 (by decide)
        refine mX_to 1 (k' := 36) (ls' := [some (.ref 67), some (.int a1), some (.int a2), some (.int (gI h3 68 0))]) (st' := [.ref 67]) (h' := h8) rfl ?_
        refine mX_ckv (v := .ref (gR h8 67 0)) (v' := .ref 68) (k' := 37) (ls' := [some (.ref 67), some (.int a1), some (.int a2), some (.int (gI h3 68 0))]) (st' := []) (h' := h8) (k_67 L8) (congrArg Value.ref (r_67_0 L8)) rfl ?_
        refine mX_to 4 (k' := 41) (ls' := [some (.ref 67), some (.int a1), some (.int a2), some (.int (gI h3 68 0))]) (st' := [.int a2, .int (9 + (gI h3 68 0)), .ref 68]) (h' := h8) rfl ?_
        refine mX_cki (k' := 42) (ls' := [some (.ref 67), some (.int a1), some (.int a2), some (.int (gI h3 68 0))]) (st' := []) (h' := (sI h8 68 (ix (9 + (gI h3 68 0))) a2)) (ckA0 (k_68 L8) (n_68 L8)) rfl fun c9 => ?_
        refine lt_geq2 (X := fun h10 : MH => mX (mE mtab d) KX11_person 42 [some (.ref 67), some (.int a1), some (.int a2), some (.int (gI h3 68 0))] [] h10) (a := (sI h8 68 (ix (9 + (gI h3 68 0))) a2)) (a' := (sI h8 68 (ix (9 + (gI h3 68 0))) a2)) rfl fun h10 eh10 => ?_
        have L10 : lay h10 := eh10 ▸ layI L8 (by decide)
        refine mX_to 1 (k' := 43) (ls' := [some (.ref 67), some (.int a1), some (.int a2), some (.int (gI h3 68 0))]) (st' := [.ref 67]) (h' := h10) rfl ?_
        refine mX_ckv (v := .ref (gR h10 67 0)) (v' := .ref 68) (k' := 44) (ls' := [some (.ref 67), some (.int a1), some (.int a2), some (.int (gI h3 68 0))]) (st' := []) (h' := h10) (k_67 L10) (congrArg Value.ref (r_67_0 L10)) rfl ?_
        refine mX_to 2 (k' := 46) (ls' := [some (.ref 67), some (.int a1), some (.int a2), some (.int (gI h3 68 0))]) (st' := [.int 0, .ref 68, .int 0, .ref 68]) (h' := h10) rfl ?_
        refine mX_ckv (v := .int (gI h10 68 (ix (0 : Int32)))) (v' := .int (gI h10 68 0)) (k' := 47) (ls' := [some (.ref 67), some (.int a1), some (.int a2), some (.int (gI h3 68 0))]) (st' := [.int 0, .ref 68]) (h' := h10) ((ckA1 (k_68 L10) (n_68 L10)).mpr (ib_lit (n := 0) rfl (by decide) (by decide))) (congrArg (fun j => Value.int (gI h10 68 j)) (ix_lit (n := 0) rfl (by decide))) rfl ?_
        refine mX_to 2 (k' := 49) (ls' := [some (.ref 67), some (.int a1), some (.int a2), some (.int (gI h3 68 0))]) (st' := [.int ((gI h10 68 0) + 1), .int 0, .ref 68]) (h' := h10) rfl ?_
        refine mX_ckt (k' := 50) (ls' := [some (.ref 67), some (.int a1), some (.int a2), some (.int (gI h3 68 0))]) (st' := []) (h' := (sI h10 68 (ix (0 : Int32)) ((gI h10 68 0) + 1))) ((ckA0 (k_68 L10) (n_68 L10)).mpr (ib_lit (n := 0) rfl (by decide) (by decide))) rfl ?_
        refine lt_geq2 (X := fun h12 : MH => mX (mE mtab d) KX11_person 50 [some (.ref 67), some (.int a1), some (.int a2), some (.int (gI h3 68 0))] [] h12) (a := (sI h10 68 (ix (0 : Int32)) ((gI h10 68 0) + 1))) (a' := (sI h10 68 0 ((gI h10 68 0) + 1))) (congrArg (fun j => sI h10 68 j ((gI h10 68 0) + 1)) (ix_lit (n := 0) rfl (by decide))) fun h12 eh12 => ?_
        have L12 : lay h12 := eh12 ▸ layI L10 (by decide)
        refine mX_to 1 (k' := 51) (ls' := [some (.ref 67), some (.int a1), some (.int a2), some (.int (gI h3 68 0))]) (st' := [.int (gI h3 68 0)]) (h' := h12) rfl ?_
        exact mX_reti rfl
theorem S_X9_has {h : MH} (L : lay h) (d : Nat) (q : Nat) (a1 : Int32) (T : tAt q) : F_X9_has (d + 1) q a1 h = cI (F_X10_within d a1 0 ((gI h q 0) - 1) h) (fun x2 h1 => ck (mrt 1 x2) (some (.int x2, h1))) := by
  refine mE_eq (q := (yX9_has, cX9_has, 2, (some .boolean), KX9_has)) (C := KX9_has) (ls := [some (.ref q), some (.int a1)]) rfl rfl rfl rfl ?_
  refine mX_to 3 (k' := 3) (ls' := [some (.ref q), some (.int a1)]) (st' := [.ref q, .int 0, .int a1]) (h' := h) rfl ?_
  refine mX_ckv (v := .int (gI h q 0)) (v' := .int (gI h q 0)) (k' := 4) (ls' := [some (.ref q), some (.int a1)]) (st' := [.int 0, .int a1]) (h' := h) (kT0 L T) rfl rfl ?_
  refine mX_to 2 (k' := 6) (ls' := [some (.ref q), some (.int a1)]) (st' := [.int ((gI h q 0) - 1), .int 0, .int a1]) (h' := h) rfl ?_
  refine mX_cIe (o := F_X10_within d a1 0 ((gI h q 0) - 1) h) (k' := 7) (ls' := [some (.ref q), some (.int a1)]) (st' := []) rfl ?_
  intro x2 h1 eh1
  have L1 : lay h1 := lay_call d 11 [.int a1, .int 0, .int ((gI h q 0) - 1)] h _ h1 rfl eh1 L
  exact mX_retc rfl
theorem S_X9_aims {h : MH} (L : lay h) (d : Nat) (q : Nat) (a1 : Int32) (a2 : Int32) (T : tAt q) : F_X9_aims (d + 1) q a1 a2 h = cI (F_X9_has d q a1 h) (fun x2 h1 => (if x2 = 0 then some (.int 0, h1) else ck (ib a1 4) (lt_ (sI h1 (q + 3) (ix a1) a2) fun h4 => some (.int 1, h4)))) := by
  refine mE_eq (q := (yX9_aims, cX9_aims, 3, (some .boolean), KX9_aims)) (C := KX9_aims) (ls := [some (.ref q), some (.int a1), some (.int a2)]) rfl rfl rfl rfl ?_
  refine mX_to 2 (k' := 2) (ls' := [some (.ref q), some (.int a1), some (.int a2)]) (st' := [.int a1, .ref q]) (h' := h) rfl ?_
  refine mX_ckct (m := mcl (mE mtab d 17 [.ref q, .int a1] h) 1 3 [some (.ref q), some (.int a1), some (.int a2)] []) (kT0 L T) rfl ?_
  refine mk_cIe (o := F_X9_has d q a1 h) ?_
  intro x2 h1 eh1
  have L1 : lay h1 := lay_call d 17 [.ref q, .int a1] h _ h1 rfl eh1 L
  refine mX_br (t := 4) (f := 6) (ls' := [some (.ref q), some (.int a1), some (.int a2)]) (st' := []) (h' := h1) rfl ?_ ?_
  · refine mX_to 1 (k' := 5) (ls' := [some (.ref q), some (.int a1), some (.int a2)]) (st' := [.int 0]) (h' := h1) rfl ?_
    exact mX_retb (by decide) rfl
  · refine mX_to 1 (k' := 7) (ls' := [some (.ref q), some (.int a1), some (.int a2)]) (st' := [.ref q]) (h' := h1) rfl ?_
    refine mX_ckv (v := .ref (gR h1 q 3)) (v' := .ref (q + 3)) (k' := 8) (ls' := [some (.ref q), some (.int a1), some (.int a2)]) (st' := []) (h' := h1) (kT0 L1 T) (congrArg Value.ref (rT3 L1 T)) rfl ?_
    refine mX_to 2 (k' := 10) (ls' := [some (.ref q), some (.int a1), some (.int a2)]) (st' := [.int a2, .int a1, .ref (q + 3)]) (h' := h1) rfl ?_
    refine mX_cki (k' := 11) (ls' := [some (.ref q), some (.int a1), some (.int a2)]) (st' := []) (h' := (sI h1 (q + 3) (ix a1) a2)) (ckA0 (kT3 L1 T) (nT3 L1 T)) rfl fun c3 => ?_
    refine lt_geq2 (X := fun h4 : MH => mX (mE mtab d) KX9_aims 11 [some (.ref q), some (.int a1), some (.int a2)] [] h4) (a := (sI h1 (q + 3) (ix a1) a2)) (a' := (sI h1 (q + 3) (ix a1) a2)) rfl fun h4 eh4 => ?_
    have L4 : lay h4 := eh4 ▸ layI L1 (neT3 T)
    refine mX_to 1 (k' := 12) (ls' := [some (.ref q), some (.int a1), some (.int a2)]) (st' := [.int 1]) (h' := h4) rfl ?_
    exact mX_retb (by decide) rfl
theorem S_X10_goal {h : MH} (L : lay h) (d : Nat) (a1 : Int32) (a2 : Int32) : F_X10_goal (d + 1) a1 a2 h = cI (F_X10_within d a2 (-1) 8 h) (fun x2 h1 => (if x2 = 0 then some (.int 0, h1) else cI (F_X9_aims d 10 a1 a2 h1) (fun x4 h3 => ck (mrt 1 x4) (some (.int x4, h3))))) := by
  refine mE_eq (q := (yX10_goal, cX10_goal, 3, (some .boolean), KX10_goal)) (C := KX10_goal) (ls := [some (.ref 8), some (.int a1), some (.int a2)]) rfl rfl rfl rfl ?_
  refine mX_to 3 (k' := 3) (ls' := [some (.ref 8), some (.int a1), some (.int a2)]) (st' := [.int 8, .int (-1), .int a2]) (h' := h) rfl ?_
  refine mX_cIe (o := F_X10_within d a2 (-1) 8 h) (k' := 4) (ls' := [some (.ref 8), some (.int a1), some (.int a2)]) (st' := []) rfl ?_
  intro x2 h1 eh1
  have L1 : lay h1 := lay_call d 11 [.int a2, .int (-1), .int 8] h _ h1 rfl eh1 L
  refine mX_br (t := 5) (f := 7) (ls' := [some (.ref 8), some (.int a1), some (.int a2)]) (st' := []) (h' := h1) rfl ?_ ?_
  · refine mX_to 1 (k' := 6) (ls' := [some (.ref 8), some (.int a1), some (.int a2)]) (st' := [.int 0]) (h' := h1) rfl ?_
    exact mX_retb (by decide) rfl
  · refine mX_to 1 (k' := 8) (ls' := [some (.ref 8), some (.int a1), some (.int a2)]) (st' := [.ref 8]) (h' := h1) rfl ?_
    refine mX_ckv (v := .ref (gR h1 8 0)) (v' := .ref 9) (k' := 9) (ls' := [some (.ref 8), some (.int a1), some (.int a2)]) (st' := []) (h' := h1) (k_8 L1) (congrArg Value.ref (r_8_0 L1)) rfl ?_
    refine mX_ckv (v := .ref (gR h1 9 0)) (v' := .ref 10) (k' := 10) (ls' := [some (.ref 8), some (.int a1), some (.int a2)]) (st' := []) (h' := h1) (k_9 L1) (congrArg Value.ref (r_9_0 L1)) rfl ?_
    refine mX_to 2 (k' := 12) (ls' := [some (.ref 8), some (.int a1), some (.int a2)]) (st' := [.int a2, .int a1, .ref 10]) (h' := h1) rfl ?_
    refine mX_ckct (m := mcl (mE mtab d 18 [.ref 10, .int a1, .int a2] h1) 1 13 [some (.ref 8), some (.int a1), some (.int a2)] []) (k_10 L1) rfl ?_
    refine mk_cIe (o := F_X9_aims d 10 a1 a2 h1) ?_
    intro x4 h3 eh3
    have L3 : lay h3 := lay_call d 18 [.ref 10, .int a1, .int a2] h1 _ h3 rfl eh3 L1
    exact mX_retc rfl
theorem S_X11_isPerson {h : MH} (L : lay h) (d : Nat) (a1 : Int32) : F_X11_isPerson (d + 1) a1 h = cI (F_X11_isIn d a1 0 ((gI h 68 0) - 1) h) (fun x2 h1 => ck (mrt 1 x2) (some (.int x2, h1))) := by
  refine mE_eq (q := (yX11_isPerson, cX11_isPerson, 2, (some .boolean), KX11_isPerson)) (C := KX11_isPerson) (ls := [some (.ref 67), some (.int a1)]) rfl rfl rfl rfl ?_
  refine mX_to 3 (k' := 3) (ls' := [some (.ref 67), some (.int a1)]) (st' := [.ref 67, .int 0, .int a1]) (h' := h) rfl ?_
  refine mX_ckv (v := .ref (gR h 67 0)) (v' := .ref 68) (k' := 4) (ls' := [some (.ref 67), some (.int a1)]) (st' := [.int 0, .int a1]) (h' := h) (k_67 L) (congrArg Value.ref (r_67_0 L)) rfl ?_
  refine mX_to 1 (k' := 5) (ls' := [some (.ref 67), some (.int a1)]) (st' := [.int 0, .ref 68, .int 0, .int a1]) (h' := h) rfl ?_
  refine mX_ckv (v := .int (gI h 68 (ix (0 : Int32)))) (v' := .int (gI h 68 0)) (k' := 6) (ls' := [some (.ref 67), some (.int a1)]) (st' := [.int 0, .int a1]) (h' := h) ((ckA1 (k_68 L) (n_68 L)).mpr (ib_lit (n := 0) rfl (by decide) (by decide))) (congrArg (fun j => Value.int (gI h 68 j)) (ix_lit (n := 0) rfl (by decide))) rfl ?_
  refine mX_to 2 (k' := 8) (ls' := [some (.ref 67), some (.int a1)]) (st' := [.int ((gI h 68 0) - 1), .int 0, .int a1]) (h' := h) rfl ?_
  refine mX_cIe (o := F_X11_isIn d a1 0 ((gI h 68 0) - 1) h) (k' := 9) (ls' := [some (.ref 67), some (.int a1)]) (st' := []) rfl ?_
  intro x2 h1 eh1
  have L1 : lay h1 := lay_call d 14 [.int a1, .int 0, .int ((gI h 68 0) - 1)] h _ h1 rfl eh1 L
  exact mX_retc rfl
theorem S_X11_goal_12 {h : MH} (L : lay h) (d : Nat) (l1 : Int32) (l2 : Int32) : G_X11_goal_12 d l1 l2 h = ck (ib (30 + l1) 1498) (lt_ (sI h 68 (ix (30 + l1)) l2) fun h6 => some (.int 1, h6)) := by
  refine mX_to 1 (k' := 13) (ls' := [some (.ref 67), some (.int l1), some (.int l2)]) (st' := [.ref 67]) (h' := h) rfl ?_
  refine mX_ckv (v := .ref (gR h 67 0)) (v' := .ref 68) (k' := 14) (ls' := [some (.ref 67), some (.int l1), some (.int l2)]) (st' := []) (h' := h) (k_67 L) (congrArg Value.ref (r_67_0 L)) rfl ?_
  refine mX_to 4 (k' := 18) (ls' := [some (.ref 67), some (.int l1), some (.int l2)]) (st' := [.int l2, .int (30 + l1), .ref 68]) (h' := h) rfl ?_
  refine mX_cki (k' := 19) (ls' := [some (.ref 67), some (.int l1), some (.int l2)]) (st' := []) (h' := (sI h 68 (ix (30 + l1)) l2)) (ckA0 (k_68 L) (n_68 L)) rfl fun c5 => ?_
  refine lt_geq2 (X := fun h6 : MH => mX (mE mtab d) KX11_goal 19 [some (.ref 67), some (.int l1), some (.int l2)] [] h6) (a := (sI h 68 (ix (30 + l1)) l2)) (a' := (sI h 68 (ix (30 + l1)) l2)) rfl fun h6 eh6 => ?_
  have L6 : lay h6 := eh6 ▸ layI L (by decide)
  refine mX_to 1 (k' := 20) (ls' := [some (.ref 67), some (.int l1), some (.int l2)]) (st' := [.int 1]) (h' := h6) rfl ?_
  exact mX_retb (by decide) rfl
theorem S_X11_goal {h : MH} (L : lay h) (d : Nat) (a1 : Int32) (a2 : Int32) : F_X11_goal (d + 1) a1 a2 h = cI (F_X11_isPerson d a1 h) (fun x2 h1 => (if x2 = 0 then some (.int 0, h1) else (if a2 = (-1) then G_X11_goal_12 d a1 a2 h1 else cI (F_X11_isPlace d a2 h1) (fun x4 h3 => (if x4 = 0 then some (.int 0, h3) else G_X11_goal_12 d a1 a2 h3))))) := by
  refine mE_eq (q := (yX11_goal, cX11_goal, 3, (some .boolean), KX11_goal)) (C := KX11_goal) (ls := [some (.ref 67), some (.int a1), some (.int a2)]) rfl rfl rfl rfl ?_
  refine mX_to 2 (k' := 2) (ls' := [some (.ref 67), some (.int a1), some (.int a2)]) (st' := [.int a1, .ref 67]) (h' := h) rfl ?_
  refine mX_ckct (m := mcl (mE mtab d 20 [.ref 67, .int a1] h) 1 3 [some (.ref 67), some (.int a1), some (.int a2)] []) (k_67 L) rfl ?_
  refine mk_cIe (o := F_X11_isPerson d a1 h) ?_
  intro x2 h1 eh1
  have L1 : lay h1 := lay_call d 20 [.ref 67, .int a1] h _ h1 rfl eh1 L
  refine mX_br (t := 10) (f := 4) (ls' := [some (.ref 67), some (.int a1), some (.int a2)]) (st' := []) (h' := h1) rfl ?_ ?_
  · refine mX_to 1 (k' := 11) (ls' := [some (.ref 67), some (.int a1), some (.int a2)]) (st' := [.int 0]) (h' := h1) rfl ?_
    exact mX_retb (by decide) rfl
  · refine mX_to 2 (k' := 6) (ls' := [some (.ref 67), some (.int a1), some (.int a2)]) (st' := [.int (-1), .int a2]) (h' := h1) rfl ?_
    refine mX_br (t := 12) (f := 7) (ls' := [some (.ref 67), some (.int a1), some (.int a2)]) (st' := []) (h' := h1) rfl ?_ ?_
    · rfl
    · refine mX_to 1 (k' := 8) (ls' := [some (.ref 67), some (.int a1), some (.int a2)]) (st' := [.int a2]) (h' := h1) rfl ?_
      refine mX_cIe (o := F_X11_isPlace d a2 h1) (k' := 9) (ls' := [some (.ref 67), some (.int a1), some (.int a2)]) (st' := []) rfl ?_
      intro x4 h3 eh3
      have L3 : lay h3 := lay_call d 15 [.int a2] h1 _ h3 rfl eh3 L1
      refine mX_br (t := 10) (f := 12) (ls' := [some (.ref 67), some (.int a1), some (.int a2)]) (st' := []) (h' := h3) rfl ?_ ?_
      · refine mX_to 1 (k' := 11) (ls' := [some (.ref 67), some (.int a1), some (.int a2)]) (st' := [.int 0]) (h' := h3) rfl ?_
        exact mX_retb (by decide) rfl
      · rfl
theorem S_X2_hire {h : MH} (L : lay h) (d : Nat) (a1 : Int32) (a2 : Int32) : F_X2_hire (d + 1) a1 a2 h = (if (gI h 19 3) < 4 then ck (ib (gI h 19 3) 4) (lt_ (sI h 20 (ix (gI h 19 3)) a1) fun h2 => ck (ib (gI h2 19 3) 4) (lt_ (sI h2 21 (ix (gI h2 19 3)) a2) fun h4 => lt_ (sI h4 19 3 ((gI h4 19 3) + 1)) fun h6 => some (.int ((gI h6 19 3) - 1), h6))) else some (.int (-1), h)) := by
  refine mE_eq (q := (yX2_hire, cX2_hire, 3, (some .int), KX2_hire)) (C := KX2_hire) (ls := [some (.ref 19), some (.int a1), some (.int a2)]) rfl rfl rfl rfl ?_
  refine mX_to 1 (k' := 1) (ls' := [some (.ref 19), some (.int a1), some (.int a2)]) (st' := [.ref 19]) (h' := h) rfl ?_
  refine mX_ckv (v := .int (gI h 19 3)) (v' := .int (gI h 19 3)) (k' := 2) (ls' := [some (.ref 19), some (.int a1), some (.int a2)]) (st' := []) (h' := h) (k_19 L) rfl rfl ?_
  refine mX_to 1 (k' := 3) (ls' := [some (.ref 19), some (.int a1), some (.int a2)]) (st' := [.int 4, .int (gI h 19 3)]) (h' := h) rfl ?_
  refine mX_br (t := 6) (f := 4) (ls' := [some (.ref 19), some (.int a1), some (.int a2)]) (st' := []) (h' := h) rfl ?_ ?_
  · refine mX_to 1 (k' := 7) (ls' := [some (.ref 19), some (.int a1), some (.int a2)]) (st' := [.ref 19]) (h' := h) rfl ?_
    refine mX_ckv (v := .ref (gR h 19 0)) (v' := .ref 20) (k' := 8) (ls' := [some (.ref 19), some (.int a1), some (.int a2)]) (st' := []) (h' := h) (k_19 L) (congrArg Value.ref (r_19_0 L)) rfl ?_
    refine mX_to 1 (k' := 9) (ls' := [some (.ref 19), some (.int a1), some (.int a2)]) (st' := [.ref 19, .ref 20]) (h' := h) rfl ?_
    refine mX_ckv (v := .int (gI h 19 3)) (v' := .int (gI h 19 3)) (k' := 10) (ls' := [some (.ref 19), some (.int a1), some (.int a2)]) (st' := [.ref 20]) (h' := h) (k_19 L) rfl rfl ?_
    refine mX_to 1 (k' := 11) (ls' := [some (.ref 19), some (.int a1), some (.int a2)]) (st' := [.int a1, .int (gI h 19 3), .ref 20]) (h' := h) rfl ?_
    refine mX_cki (k' := 12) (ls' := [some (.ref 19), some (.int a1), some (.int a2)]) (st' := []) (h' := (sI h 20 (ix (gI h 19 3)) a1)) (ckA0 (k_20 L) (n_20 L)) rfl fun c1 => ?_
    refine lt_geq2 (X := fun h2 : MH => mX (mE mtab d) KX2_hire 12 [some (.ref 19), some (.int a1), some (.int a2)] [] h2) (a := (sI h 20 (ix (gI h 19 3)) a1)) (a' := (sI h 20 (ix (gI h 19 3)) a1)) rfl fun h2 eh2 => ?_
    have L2 : lay h2 := eh2 ▸ layI L (by decide)
    refine mX_to 1 (k' := 13) (ls' := [some (.ref 19), some (.int a1), some (.int a2)]) (st' := [.ref 19]) (h' := h2) rfl ?_
    refine mX_ckv (v := .ref (gR h2 19 1)) (v' := .ref 21) (k' := 14) (ls' := [some (.ref 19), some (.int a1), some (.int a2)]) (st' := []) (h' := h2) (k_19 L2) (congrArg Value.ref (r_19_1 L2)) rfl ?_
    refine mX_to 1 (k' := 15) (ls' := [some (.ref 19), some (.int a1), some (.int a2)]) (st' := [.ref 19, .ref 21]) (h' := h2) rfl ?_
    refine mX_ckv (v := .int (gI h2 19 3)) (v' := .int (gI h2 19 3)) (k' := 16) (ls' := [some (.ref 19), some (.int a1), some (.int a2)]) (st' := [.ref 21]) (h' := h2) (k_19 L2) rfl rfl ?_
    refine mX_to 1 (k' := 17) (ls' := [some (.ref 19), some (.int a1), some (.int a2)]) (st' := [.int a2, .int (gI h2 19 3), .ref 21]) (h' := h2) rfl ?_
    refine mX_cki (k' := 18) (ls' := [some (.ref 19), some (.int a1), some (.int a2)]) (st' := []) (h' := (sI h2 21 (ix (gI h2 19 3)) a2)) (ckA0 (k_21 L2) (n_21 L2)) rfl fun c3 => ?_
    refine lt_geq2 (X := fun h4 : MH => mX (mE mtab d) KX2_hire 18 [some (.ref 19), some (.int a1), some (.int a2)] [] h4) (a := (sI h2 21 (ix (gI h2 19 3)) a2)) (a' := (sI h2 21 (ix (gI h2 19 3)) a2)) rfl fun h4 eh4 => ?_
    have L4 : lay h4 := eh4 ▸ layI L2 (by decide)
    refine mX_to 2 (k' := 20) (ls' := [some (.ref 19), some (.int a1), some (.int a2)]) (st' := [.ref 19, .ref 19]) (h' := h4) rfl ?_
    refine mX_ckv (v := .int (gI h4 19 3)) (v' := .int (gI h4 19 3)) (k' := 21) (ls' := [some (.ref 19), some (.int a1), some (.int a2)]) (st' := [.ref 19]) (h' := h4) (k_19 L4) rfl rfl ?_
    refine mX_to 2 (k' := 23) (ls' := [some (.ref 19), some (.int a1), some (.int a2)]) (st' := [.int ((gI h4 19 3) + 1), .ref 19]) (h' := h4) rfl ?_
    refine mX_ckt (k' := 24) (ls' := [some (.ref 19), some (.int a1), some (.int a2)]) (st' := []) (h' := (sI h4 19 3 ((gI h4 19 3) + 1))) (k_19 L4) rfl ?_
    refine lt_geq2 (X := fun h6 : MH => mX (mE mtab d) KX2_hire 24 [some (.ref 19), some (.int a1), some (.int a2)] [] h6) (a := (sI h4 19 3 ((gI h4 19 3) + 1))) (a' := (sI h4 19 3 ((gI h4 19 3) + 1))) rfl fun h6 eh6 => ?_
    have L6 : lay h6 := eh6 ▸ layI L4 (by decide)
    refine mX_to 1 (k' := 25) (ls' := [some (.ref 19), some (.int a1), some (.int a2)]) (st' := [.ref 19]) (h' := h6) rfl ?_
    refine mX_ckv (v := .int (gI h6 19 3)) (v' := .int (gI h6 19 3)) (k' := 26) (ls' := [some (.ref 19), some (.int a1), some (.int a2)]) (st' := []) (h' := h6) (k_19 L6) rfl rfl ?_
    refine mX_to 2 (k' := 28) (ls' := [some (.ref 19), some (.int a1), some (.int a2)]) (st' := [.int ((gI h6 19 3) - 1)]) (h' := h6) rfl ?_
    exact mX_reti rfl
  · refine mX_to 1 (k' := 5) (ls' := [some (.ref 19), some (.int a1), some (.int a2)]) (st' := [.int (-1)]) (h' := h) rfl ?_
    exact mX_reti rfl
theorem S_X10_hand {h : MH} (L : lay h) (d : Nat) (a1 : Int32) (a2 : Int32) : F_X10_hand (d + 1) a1 a2 h = cI (F_X10_within d a1 1 9 h) (fun x2 h1 => (if x2 = 0 then some (.int (-1), h1) else cI (F_X10_within d a2 0 99 h1) (fun x4 h3 => (if x4 = 0 then some (.int (-1), h3) else cI (F_X2_hire d a1 a2 h3) (fun x6 h5 => some (.int x6, h5)))))) := by
  refine mE_eq (q := (yX10_hand, cX10_hand, 3, (some .int), KX10_hand)) (C := KX10_hand) (ls := [some (.ref 8), some (.int a1), some (.int a2)]) rfl rfl rfl rfl ?_
  refine mX_to 3 (k' := 3) (ls' := [some (.ref 8), some (.int a1), some (.int a2)]) (st' := [.int 9, .int 1, .int a1]) (h' := h) rfl ?_
  refine mX_cIe (o := F_X10_within d a1 1 9 h) (k' := 4) (ls' := [some (.ref 8), some (.int a1), some (.int a2)]) (st' := []) rfl ?_
  intro x2 h1 eh1
  have L1 : lay h1 := lay_call d 11 [.int a1, .int 1, .int 9] h _ h1 rfl eh1 L
  refine mX_br (t := 10) (f := 5) (ls' := [some (.ref 8), some (.int a1), some (.int a2)]) (st' := []) (h' := h1) rfl ?_ ?_
  · refine mX_to 1 (k' := 11) (ls' := [some (.ref 8), some (.int a1), some (.int a2)]) (st' := [.int (-1)]) (h' := h1) rfl ?_
    exact mX_reti rfl
  · refine mX_to 3 (k' := 8) (ls' := [some (.ref 8), some (.int a1), some (.int a2)]) (st' := [.int 99, .int 0, .int a2]) (h' := h1) rfl ?_
    refine mX_cIe (o := F_X10_within d a2 0 99 h1) (k' := 9) (ls' := [some (.ref 8), some (.int a1), some (.int a2)]) (st' := []) rfl ?_
    intro x4 h3 eh3
    have L3 : lay h3 := lay_call d 11 [.int a2, .int 0, .int 99] h1 _ h3 rfl eh3 L1
    refine mX_br (t := 10) (f := 12) (ls' := [some (.ref 8), some (.int a1), some (.int a2)]) (st' := []) (h' := h3) rfl ?_ ?_
    · refine mX_to 1 (k' := 11) (ls' := [some (.ref 8), some (.int a1), some (.int a2)]) (st' := [.int (-1)]) (h' := h3) rfl ?_
      exact mX_reti rfl
    · refine mX_to 1 (k' := 13) (ls' := [some (.ref 8), some (.int a1), some (.int a2)]) (st' := [.ref 8]) (h' := h3) rfl ?_
      refine mX_ckv (v := .ref (gR h3 8 0)) (v' := .ref 9) (k' := 14) (ls' := [some (.ref 8), some (.int a1), some (.int a2)]) (st' := []) (h' := h3) (k_8 L3) (congrArg Value.ref (r_8_0 L3)) rfl ?_
      refine mX_ckv (v := .ref (gR h3 9 2)) (v' := .ref 19) (k' := 15) (ls' := [some (.ref 8), some (.int a1), some (.int a2)]) (st' := []) (h' := h3) (k_9 L3) (congrArg Value.ref (r_9_2 L3)) rfl ?_
      refine mX_to 2 (k' := 17) (ls' := [some (.ref 8), some (.int a1), some (.int a2)]) (st' := [.int a2, .int a1, .ref 19]) (h' := h3) rfl ?_
      refine mX_ckct (m := mcl (mE mtab d 22 [.ref 19, .int a1, .int a2] h3) 1 18 [some (.ref 8), some (.int a1), some (.int a2)] []) (k_19 L3) rfl ?_
      refine mk_cIe (o := F_X2_hire d a1 a2 h3) ?_
      intro x6 h5 eh5
      have L5 : lay h5 := lay_call d 22 [.ref 19, .int a1, .int a2] h3 _ h5 rfl eh5 L3
      exact mX_reti rfl
theorem S_X11_hand {h : MH} (L : lay h) (d : Nat) (a1 : Int32) (a2 : Int32) : F_X11_hand (d + 1) a1 a2 h = cI (F_X11_isIn d a1 1 9 h) (fun x2 h1 => (if x2 = 0 then some (.int (-1), h1) else cI (F_X11_isIn d a2 0 99 h1) (fun x4 h3 => (if x4 = 0 then some (.int (-1), h3) else (if (gI h3 68 1) = 4 then some (.int (-1), h3) else ck (ib (34 + (2 * (gI h3 68 1))) 1498) (lt_ (sI h3 68 (ix (34 + (2 * (gI h3 68 1)))) a1) fun h6 => ck (ib ((34 + (2 * (gI h6 68 1))) + 1) 1498) (lt_ (sI h6 68 (ix ((34 + (2 * (gI h6 68 1))) + 1)) a2) fun h8 => lt_ (sI h8 68 1 ((gI h8 68 1) + 1)) fun h10 => some (.int ((gI h10 68 1) - 1), h10)))))))) := by
  refine mE_eq (q := (yX11_hand, cX11_hand, 3, (some .int), KX11_hand)) (C := KX11_hand) (ls := [some (.ref 67), some (.int a1), some (.int a2)]) rfl rfl rfl rfl ?_
  refine mX_to 3 (k' := 3) (ls' := [some (.ref 67), some (.int a1), some (.int a2)]) (st' := [.int 9, .int 1, .int a1]) (h' := h) rfl ?_
  refine mX_cIe (o := F_X11_isIn d a1 1 9 h) (k' := 4) (ls' := [some (.ref 67), some (.int a1), some (.int a2)]) (st' := []) rfl ?_
  intro x2 h1 eh1
  have L1 : lay h1 := lay_call d 14 [.int a1, .int 1, .int 9] h _ h1 rfl eh1 L
  refine mX_br (t := 16) (f := 5) (ls' := [some (.ref 67), some (.int a1), some (.int a2)]) (st' := []) (h' := h1) rfl ?_ ?_
  · refine mX_to 1 (k' := 17) (ls' := [some (.ref 67), some (.int a1), some (.int a2)]) (st' := [.int (-1)]) (h' := h1) rfl ?_
    exact mX_reti rfl
  · refine mX_to 3 (k' := 8) (ls' := [some (.ref 67), some (.int a1), some (.int a2)]) (st' := [.int 99, .int 0, .int a2]) (h' := h1) rfl ?_
    refine mX_cIe (o := F_X11_isIn d a2 0 99 h1) (k' := 9) (ls' := [some (.ref 67), some (.int a1), some (.int a2)]) (st' := []) rfl ?_
    intro x4 h3 eh3
    have L3 : lay h3 := lay_call d 14 [.int a2, .int 0, .int 99] h1 _ h3 rfl eh3 L1
    refine mX_br (t := 16) (f := 10) (ls' := [some (.ref 67), some (.int a1), some (.int a2)]) (st' := []) (h' := h3) rfl ?_ ?_
    · refine mX_to 1 (k' := 17) (ls' := [some (.ref 67), some (.int a1), some (.int a2)]) (st' := [.int (-1)]) (h' := h3) rfl ?_
      exact mX_reti rfl
    · refine mX_to 1 (k' := 11) (ls' := [some (.ref 67), some (.int a1), some (.int a2)]) (st' := [.ref 67]) (h' := h3) rfl ?_
      refine mX_ckv (v := .ref (gR h3 67 0)) (v' := .ref 68) (k' := 12) (ls' := [some (.ref 67), some (.int a1), some (.int a2)]) (st' := []) (h' := h3) (k_67 L3) (congrArg Value.ref (r_67_0 L3)) rfl ?_
      refine mX_to 1 (k' := 13) (ls' := [some (.ref 67), some (.int a1), some (.int a2)]) (st' := [.int 1, .ref 68]) (h' := h3) rfl ?_
      refine mX_ckv (v := .int (gI h3 68 (ix (1 : Int32)))) (v' := .int (gI h3 68 1)) (k' := 14) (ls' := [some (.ref 67), some (.int a1), some (.int a2)]) (st' := []) (h' := h3) ((ckA1 (k_68 L3) (n_68 L3)).mpr (ib_lit (n := 1) rfl (by decide) (by decide))) (congrArg (fun j => Value.int (gI h3 68 j)) (ix_lit (n := 1) rfl (by decide))) rfl ?_
      refine mX_to 1 (k' := 15) (ls' := [some (.ref 67), some (.int a1), some (.int a2)]) (st' := [.int 4, .int (gI h3 68 1)]) (h' := h3) rfl ?_
      refine mX_br (t := 16) (f := 18) (ls' := [some (.ref 67), some (.int a1), some (.int a2)]) (st' := []) (h' := h3) rfl ?_ ?_
      · refine mX_to 1 (k' := 17) (ls' := [some (.ref 67), some (.int a1), some (.int a2)]) (st' := [.int (-1)]) (h' := h3) rfl ?_
        exact mX_reti rfl
      · refine mX_to 1 (k' := 19) (ls' := [some (.ref 67), some (.int a1), some (.int a2)]) (st' := [.ref 67]) (h' := h3) rfl ?_
        refine mX_ckv (v := .ref (gR h3 67 0)) (v' := .ref 68) (k' := 20) (ls' := [some (.ref 67), some (.int a1), some (.int a2)]) (st' := []) (h' := h3) (k_67 L3) (congrArg Value.ref (r_67_0 L3)) rfl ?_
        refine mX_to 3 (k' := 23) (ls' := [some (.ref 67), some (.int a1), some (.int a2)]) (st' := [.ref 67, .int 2, .int 34, .ref 68]) (h' := h3) rfl ?_
        refine mX_ckv (v := .ref (gR h3 67 0)) (v' := .ref 68) (k' := 24) (ls' := [some (.ref 67), some (.int a1), some (.int a2)]) (st' := [.int 2, .int 34, .ref 68]) (h' := h3) (k_67 L3) (congrArg Value.ref (r_67_0 L3)) rfl ?_
        refine mX_to 1 (k' := 25) (ls' := [some (.ref 67), some (.int a1), some (.int a2)]) (st' := [.int 1, .ref 68, .int 2, .int 34, .ref 68]) (h' := h3) rfl ?_
        refine mX_ckv (v := .int (gI h3 68 (ix (1 : Int32)))) (v' := .int (gI h3 68 1)) (k' := 26) (ls' := [some (.ref 67), some (.int a1), some (.int a2)]) (st' := [.int 2, .int 34, .ref 68]) (h' := h3) ((ckA1 (k_68 L3) (n_68 L3)).mpr (ib_lit (n := 1) rfl (by decide) (by decide))) (congrArg (fun j => Value.int (gI h3 68 j)) (ix_lit (n := 1) rfl (by decide))) rfl ?_
        refine mX_to 3 (k' := 29) (ls' := [some (.ref 67), some (.int a1), some (.int a2)]) (st' := [.int a1, .int (34 + (2 * (gI h3 68 1))), .ref 68]) (h' := h3) rfl ?_
        refine mX_cki (k' := 30) (ls' := [some (.ref 67), some (.int a1), some (.int a2)]) (st' := []) (h' := (sI h3 68 (ix (34 + (2 * (gI h3 68 1)))) a1)) (ckA0 (k_68 L3) (n_68 L3)) rfl fun c5 => ?_
        refine lt_geq2 (X := fun h6 : MH => mX (mE mtab d) KX11_hand 30 [some (.ref 67), some (.int a1), some (.int a2)] [] h6) (a := (sI h3 68 (ix (34 + (2 * (gI h3 68 1)))) a1)) (a' := (sI h3 68 (ix (34 + (2 * (gI h3 68 1)))) a1)) rfl fun h6 eh6 => ?_
        have L6 : lay h6 := eh6 ▸ layI L3 (by decide)
        refine mX_to 1 (k' := 31) (ls' := [some (.ref 67), some (.int a1), some (.int a2)]) (st' := [.ref 67]) (h' := h6) rfl ?_
        refine mX_ckv (v := .ref (gR h6 67 0)) (v' := .ref 68) (k' := 32) (ls' := [some (.ref 67), some (.int a1), some (.int a2)]) (st' := []) (h' := h6) (k_67 L6) (congrArg Value.ref (r_67_0 L6)) rfl ?_
        refine mX_to 3 (k' := 35) (ls' := [some (.ref 67), some (.int a1), some (.int a2)]) (st' := [.ref 67, .int 2, .int 34, .ref 68]) (h' := h6) rfl ?_
        refine mX_ckv (v := .ref (gR h6 67 0)) (v' := .ref 68) (k' := 36) (ls' := [some (.ref 67), some (.int a1), some (.int a2)]) (st' := [.int 2, .int 34, .ref 68]) (h' := h6) (k_67 L6) (congrArg Value.ref (r_67_0 L6)) rfl ?_
        refine mX_to 1 (k' := 37) (ls' := [some (.ref 67), some (.int a1), some (.int a2)]) (st' := [.int 1, .ref 68, .int 2, .int 34, .ref 68]) (h' := h6) rfl ?_
        refine mX_ckv (v := .int (gI h6 68 (ix (1 : Int32)))) (v' := .int (gI h6 68 1)) (k' := 38) (ls' := [some (.ref 67), some (.int a1), some (.int a2)]) (st' := [.int 2, .int 34, .ref 68]) (h' := h6) ((ckA1 (k_68 L6) (n_68 L6)).mpr (ib_lit (n := 1) rfl (by decide) (by decide))) (congrArg (fun j => Value.int (gI h6 68 j)) (ix_lit (n := 1) rfl (by decide))) rfl ?_
        refine mX_to 5 (k' := 43) (ls' := [some (.ref 67), some (.int a1), some (.int a2)]) (st' := [.int a2, .int ((34 + (2 * (gI h6 68 1))) + 1), .ref 68]) (h' := h6) rfl ?_
        refine mX_cki (k' := 44) (ls' := [some (.ref 67), some (.int a1), some (.int a2)]) (st' := []) (h' := (sI h6 68 (ix ((34 + (2 * (gI h6 68 1))) + 1)) a2)) (ckA0 (k_68 L6) (n_68 L6)) rfl fun c7 => ?_
        refine lt_geq2 (X := fun h8 : MH => mX (mE mtab d) KX11_hand 44 [some (.ref 67), some (.int a1), some (.int a2)] [] h8) (a := (sI h6 68 (ix ((34 + (2 * (gI h6 68 1))) + 1)) a2)) (a' := (sI h6 68 (ix ((34 + (2 * (gI h6 68 1))) + 1)) a2)) rfl fun h8 eh8 => ?_
        have L8 : lay h8 := eh8 ▸ layI L6 (by decide)
        refine mX_to 1 (k' := 45) (ls' := [some (.ref 67), some (.int a1), some (.int a2)]) (st' := [.ref 67]) (h' := h8) rfl ?_
        refine mX_ckv (v := .ref (gR h8 67 0)) (v' := .ref 68) (k' := 46) (ls' := [some (.ref 67), some (.int a1), some (.int a2)]) (st' := []) (h' := h8) (k_67 L8) (congrArg Value.ref (r_67_0 L8)) rfl ?_
        refine mX_to 2 (k' := 48) (ls' := [some (.ref 67), some (.int a1), some (.int a2)]) (st' := [.int 1, .ref 68, .int 1, .ref 68]) (h' := h8) rfl ?_
        refine mX_ckv (v := .int (gI h8 68 (ix (1 : Int32)))) (v' := .int (gI h8 68 1)) (k' := 49) (ls' := [some (.ref 67), some (.int a1), some (.int a2)]) (st' := [.int 1, .ref 68]) (h' := h8) ((ckA1 (k_68 L8) (n_68 L8)).mpr (ib_lit (n := 1) rfl (by decide) (by decide))) (congrArg (fun j => Value.int (gI h8 68 j)) (ix_lit (n := 1) rfl (by decide))) rfl ?_
        refine mX_to 2 (k' := 51) (ls' := [some (.ref 67), some (.int a1), some (.int a2)]) (st' := [.int ((gI h8 68 1) + 1), .int 1, .ref 68]) (h' := h8) rfl ?_
        refine mX_ckt (k' := 52) (ls' := [some (.ref 67), some (.int a1), some (.int a2)]) (st' := []) (h' := (sI h8 68 (ix (1 : Int32)) ((gI h8 68 1) + 1))) ((ckA0 (k_68 L8) (n_68 L8)).mpr (ib_lit (n := 1) rfl (by decide) (by decide))) rfl ?_
        refine lt_geq2 (X := fun h10 : MH => mX (mE mtab d) KX11_hand 52 [some (.ref 67), some (.int a1), some (.int a2)] [] h10) (a := (sI h8 68 (ix (1 : Int32)) ((gI h8 68 1) + 1))) (a' := (sI h8 68 1 ((gI h8 68 1) + 1))) (congrArg (fun j => sI h8 68 j ((gI h8 68 1) + 1)) (ix_lit (n := 1) rfl (by decide))) fun h10 eh10 => ?_
        have L10 : lay h10 := eh10 ▸ layI L8 (by decide)
        refine mX_to 1 (k' := 53) (ls' := [some (.ref 67), some (.int a1), some (.int a2)]) (st' := [.ref 67]) (h' := h10) rfl ?_
        refine mX_ckv (v := .ref (gR h10 67 0)) (v' := .ref 68) (k' := 54) (ls' := [some (.ref 67), some (.int a1), some (.int a2)]) (st' := []) (h' := h10) (k_67 L10) (congrArg Value.ref (r_67_0 L10)) rfl ?_
        refine mX_to 1 (k' := 55) (ls' := [some (.ref 67), some (.int a1), some (.int a2)]) (st' := [.int 1, .ref 68]) (h' := h10) rfl ?_
        refine mX_ckv (v := .int (gI h10 68 (ix (1 : Int32)))) (v' := .int (gI h10 68 1)) (k' := 56) (ls' := [some (.ref 67), some (.int a1), some (.int a2)]) (st' := []) (h' := h10) ((ckA1 (k_68 L10) (n_68 L10)).mpr (ib_lit (n := 1) rfl (by decide) (by decide))) (congrArg (fun j => Value.int (gI h10 68 j)) (ix_lit (n := 1) rfl (by decide))) rfl ?_
        refine mX_to 2 (k' := 58) (ls' := [some (.ref 67), some (.int a1), some (.int a2)]) (st' := [.int ((gI h10 68 1) - 1)]) (h' := h10) rfl ?_
        exact mX_reti rfl
theorem S_X7_append_2 {h : MH} (L : lay h) (d : Nat) (l1 : Int32) (l2 : Int32) : G_X7_append_2 d l1 l2 h = (if l2 < 0 then some (.int 0, h) else (if (gI h 50 1) < 300 then ck (ib (gI h 50 1) 300) (lt_ (sI h 51 (ix (gI h 50 1)) ((l1 >>> (l2 &&& 31)) &&& 255)) fun h2 => lt_ (sI h2 50 1 ((gI h2 50 1) + 1)) fun h4 => G_X7_append_2 d l1 (l2 + (-8)) h4) else some (.int 0, h))) := by
  refine mX_to 1 (k' := 3) (ls' := [some (.ref 50), some (.int l1), some (.int l2)]) (st' := [.int l2]) (h' := h) rfl ?_
  refine mX_br (t := 26) (f := 4) (ls' := [some (.ref 50), some (.int l1), some (.int l2)]) (st' := []) (h' := h) rfl ?_ ?_
  · exact mX_ret rfl
  · refine mX_to 1 (k' := 5) (ls' := [some (.ref 50), some (.int l1), some (.int l2)]) (st' := [.ref 50]) (h' := h) rfl ?_
    refine mX_ckv (v := .int (gI h 50 1)) (v' := .int (gI h 50 1)) (k' := 6) (ls' := [some (.ref 50), some (.int l1), some (.int l2)]) (st' := []) (h' := h) (k_50 L) rfl rfl ?_
    refine mX_to 1 (k' := 7) (ls' := [some (.ref 50), some (.int l1), some (.int l2)]) (st' := [.int 300, .int (gI h 50 1)]) (h' := h) rfl ?_
    refine mX_br (t := 8) (f := 26) (ls' := [some (.ref 50), some (.int l1), some (.int l2)]) (st' := []) (h' := h) rfl ?_ ?_
    · refine mX_to 1 (k' := 9) (ls' := [some (.ref 50), some (.int l1), some (.int l2)]) (st' := [.ref 50]) (h' := h) rfl ?_
      refine mX_ckv (v := .ref (gR h 50 0)) (v' := .ref 51) (k' := 10) (ls' := [some (.ref 50), some (.int l1), some (.int l2)]) (st' := []) (h' := h) (k_50 L) (congrArg Value.ref (r_50_0 L)) rfl ?_
      refine mX_to 1 (k' := 11) (ls' := [some (.ref 50), some (.int l1), some (.int l2)]) (st' := [.ref 50, .ref 51]) (h' := h) rfl ?_
      refine mX_ckv (v := .int (gI h 50 1)) (v' := .int (gI h 50 1)) (k' := 12) (ls' := [some (.ref 50), some (.int l1), some (.int l2)]) (st' := [.ref 51]) (h' := h) (k_50 L) rfl rfl ?_
      refine mX_to 5 (k' := 17) (ls' := [some (.ref 50), some (.int l1), some (.int l2)]) (st' := [.int ((l1 >>> (l2 &&& 31)) &&& 255), .int (gI h 50 1), .ref 51]) (h' := h) rfl ?_
      refine mX_cki (k' := 18) (ls' := [some (.ref 50), some (.int l1), some (.int l2)]) (st' := []) (h' := (sI h 51 (ix (gI h 50 1)) ((l1 >>> (l2 &&& 31)) &&& 255))) (ckA0 (k_51 L) (n_51 L)) rfl fun c1 => ?_
      refine lt_geq2 (X := fun h2 : MH => mX (mE mtab d) KX7_append 18 [some (.ref 50), some (.int l1), some (.int l2)] [] h2) (a := (sI h 51 (ix (gI h 50 1)) ((l1 >>> (l2 &&& 31)) &&& 255))) (a' := (sI h 51 (ix (gI h 50 1)) ((l1 >>> (l2 &&& 31)) &&& 255))) rfl fun h2 eh2 => ?_
      have L2 : lay h2 := eh2 ▸ layI L (by decide)
      refine mX_to 2 (k' := 20) (ls' := [some (.ref 50), some (.int l1), some (.int l2)]) (st' := [.ref 50, .ref 50]) (h' := h2) rfl ?_
      refine mX_ckv (v := .int (gI h2 50 1)) (v' := .int (gI h2 50 1)) (k' := 21) (ls' := [some (.ref 50), some (.int l1), some (.int l2)]) (st' := [.ref 50]) (h' := h2) (k_50 L2) rfl rfl ?_
      refine mX_to 2 (k' := 23) (ls' := [some (.ref 50), some (.int l1), some (.int l2)]) (st' := [.int ((gI h2 50 1) + 1), .ref 50]) (h' := h2) rfl ?_
      refine mX_ckt (k' := 24) (ls' := [some (.ref 50), some (.int l1), some (.int l2)]) (st' := []) (h' := (sI h2 50 1 ((gI h2 50 1) + 1))) (k_50 L2) rfl ?_
      refine lt_geq2 (X := fun h4 : MH => mX (mE mtab d) KX7_append 24 [some (.ref 50), some (.int l1), some (.int l2)] [] h4) (a := (sI h2 50 1 ((gI h2 50 1) + 1))) (a' := (sI h2 50 1 ((gI h2 50 1) + 1))) rfl fun h4 eh4 => ?_
      have L4 : lay h4 := eh4 ▸ layI L2 (by decide)
      refine mX_to 2 (k' := 2) (ls' := [some (.ref 50), some (.int l1), some (.int (l2 + (-8)))]) (st' := []) (h' := h4) rfl ?_
      rfl
    · exact mX_ret rfl
theorem S_X7_append {h : MH} (L : lay h) (d : Nat) (a1 : Int32) : F_X7_append (d + 1) a1 h = G_X7_append_2 d a1 24 h := by
  refine mE_eq (q := (yX7_append, cX7_append, 3, none, KX7_append)) (C := KX7_append) (ls := [some (.ref 50), some (.int a1), none]) rfl rfl rfl rfl ?_
  refine mX_to 2 (k' := 2) (ls' := [some (.ref 50), some (.int a1), some (.int 24)]) (st' := []) (h' := h) rfl ?_
  rfl
theorem S_X10_feed {h : MH} (L : lay h) (d : Nat) (a1 : Int32) (a2 : Int32) (a3 : Int32) (a4 : Int32) (a5 : Int32) : F_X10_feed (d + 1) a1 a2 a3 a4 a5 h = (if ((gI h 50 1) + 20) ≤ 300 then cV (F_X7_append d a1 h) (fun h1 => cV (F_X7_append d a2 h1) (fun h2 => cV (F_X7_append d a3 h2) (fun h3 => cV (F_X7_append d a4 h3) (fun h4 => cV (F_X7_append d a5 h4) (fun h5 => some (.int (gI h5 50 1), h5)))))) else some (.int (-1), h)) := by
  refine mE_eq (q := (yX10_feed, cX10_feed, 6, (some .int), KX10_feed)) (C := KX10_feed) (ls := [some (.ref 8), some (.int a1), some (.int a2), some (.int a3), some (.int a4), some (.int a5)]) rfl rfl rfl rfl ?_
  refine mX_to 1 (k' := 1) (ls' := [some (.ref 8), some (.int a1), some (.int a2), some (.int a3), some (.int a4), some (.int a5)]) (st' := [.ref 8]) (h' := h) rfl ?_
  refine mX_ckv (v := .ref (gR h 8 3)) (v' := .ref 50) (k' := 2) (ls' := [some (.ref 8), some (.int a1), some (.int a2), some (.int a3), some (.int a4), some (.int a5)]) (st' := []) (h' := h) (k_8 L) (congrArg Value.ref (r_8_3 L)) rfl ?_
  refine mX_ckv (v := .int (gI h 50 1)) (v' := .int (gI h 50 1)) (k' := 3) (ls' := [some (.ref 8), some (.int a1), some (.int a2), some (.int a3), some (.int a4), some (.int a5)]) (st' := []) (h' := h) (k_50 L) rfl rfl ?_
  refine mX_to 3 (k' := 6) (ls' := [some (.ref 8), some (.int a1), some (.int a2), some (.int a3), some (.int a4), some (.int a5)]) (st' := [.int 300, .int ((gI h 50 1) + 20)]) (h' := h) rfl ?_
  refine mX_br (t := 9) (f := 7) (ls' := [some (.ref 8), some (.int a1), some (.int a2), some (.int a3), some (.int a4), some (.int a5)]) (st' := []) (h' := h) rfl ?_ ?_
  · refine mX_to 1 (k' := 10) (ls' := [some (.ref 8), some (.int a1), some (.int a2), some (.int a3), some (.int a4), some (.int a5)]) (st' := [.ref 8]) (h' := h) rfl ?_
    refine mX_ckv (v := .ref (gR h 8 3)) (v' := .ref 50) (k' := 11) (ls' := [some (.ref 8), some (.int a1), some (.int a2), some (.int a3), some (.int a4), some (.int a5)]) (st' := []) (h' := h) (k_8 L) (congrArg Value.ref (r_8_3 L)) rfl ?_
    refine mX_to 1 (k' := 12) (ls' := [some (.ref 8), some (.int a1), some (.int a2), some (.int a3), some (.int a4), some (.int a5)]) (st' := [.int a1, .ref 50]) (h' := h) rfl ?_
    refine mX_ckct (m := mcl (mE mtab d 25 [.ref 50, .int a1] h) 0 13 [some (.ref 8), some (.int a1), some (.int a2), some (.int a3), some (.int a4), some (.int a5)] []) (k_50 L) rfl ?_
    refine mk_cVe (o := F_X7_append d a1 h) ?_
    intro wh1 h1 eh1
    have L1 : lay h1 := lay_call d 25 [.ref 50, .int a1] h _ h1 rfl eh1 L
    refine mX_to 1 (k' := 14) (ls' := [some (.ref 8), some (.int a1), some (.int a2), some (.int a3), some (.int a4), some (.int a5)]) (st' := [.ref 8]) (h' := h1) rfl ?_
    refine mX_ckv (v := .ref (gR h1 8 3)) (v' := .ref 50) (k' := 15) (ls' := [some (.ref 8), some (.int a1), some (.int a2), some (.int a3), some (.int a4), some (.int a5)]) (st' := []) (h' := h1) (k_8 L1) (congrArg Value.ref (r_8_3 L1)) rfl ?_
    refine mX_to 1 (k' := 16) (ls' := [some (.ref 8), some (.int a1), some (.int a2), some (.int a3), some (.int a4), some (.int a5)]) (st' := [.int a2, .ref 50]) (h' := h1) rfl ?_
    refine mX_ckct (m := mcl (mE mtab d 25 [.ref 50, .int a2] h1) 0 17 [some (.ref 8), some (.int a1), some (.int a2), some (.int a3), some (.int a4), some (.int a5)] []) (k_50 L1) rfl ?_
    refine mk_cVe (o := F_X7_append d a2 h1) ?_
    intro wh2 h2 eh2
    have L2 : lay h2 := lay_call d 25 [.ref 50, .int a2] h1 _ h2 rfl eh2 L1
    refine mX_to 1 (k' := 18) (ls' := [some (.ref 8), some (.int a1), some (.int a2), some (.int a3), some (.int a4), some (.int a5)]) (st' := [.ref 8]) (h' := h2) rfl ?_
    refine mX_ckv (v := .ref (gR h2 8 3)) (v' := .ref 50) (k' := 19) (ls' := [some (.ref 8), some (.int a1), some (.int a2), some (.int a3), some (.int a4), some (.int a5)]) (st' := []) (h' := h2) (k_8 L2) (congrArg Value.ref (r_8_3 L2)) rfl ?_
    refine mX_to 1 (k' := 20) (ls' := [some (.ref 8), some (.int a1), some (.int a2), some (.int a3), some (.int a4), some (.int a5)]) (st' := [.int a3, .ref 50]) (h' := h2) rfl ?_
    refine mX_ckct (m := mcl (mE mtab d 25 [.ref 50, .int a3] h2) 0 21 [some (.ref 8), some (.int a1), some (.int a2), some (.int a3), some (.int a4), some (.int a5)] []) (k_50 L2) rfl ?_
    refine mk_cVe (o := F_X7_append d a3 h2) ?_
    intro wh3 h3 eh3
    have L3 : lay h3 := lay_call d 25 [.ref 50, .int a3] h2 _ h3 rfl eh3 L2
    refine mX_to 1 (k' := 22) (ls' := [some (.ref 8), some (.int a1), some (.int a2), some (.int a3), some (.int a4), some (.int a5)]) (st' := [.ref 8]) (h' := h3) rfl ?_
    refine mX_ckv (v := .ref (gR h3 8 3)) (v' := .ref 50) (k' := 23) (ls' := [some (.ref 8), some (.int a1), some (.int a2), some (.int a3), some (.int a4), some (.int a5)]) (st' := []) (h' := h3) (k_8 L3) (congrArg Value.ref (r_8_3 L3)) rfl ?_
    refine mX_to 1 (k' := 24) (ls' := [some (.ref 8), some (.int a1), some (.int a2), some (.int a3), some (.int a4), some (.int a5)]) (st' := [.int a4, .ref 50]) (h' := h3) rfl ?_
    refine mX_ckct (m := mcl (mE mtab d 25 [.ref 50, .int a4] h3) 0 25 [some (.ref 8), some (.int a1), some (.int a2), some (.int a3), some (.int a4), some (.int a5)] []) (k_50 L3) rfl ?_
    refine mk_cVe (o := F_X7_append d a4 h3) ?_
    intro wh4 h4 eh4
    have L4 : lay h4 := lay_call d 25 [.ref 50, .int a4] h3 _ h4 rfl eh4 L3
    refine mX_to 1 (k' := 26) (ls' := [some (.ref 8), some (.int a1), some (.int a2), some (.int a3), some (.int a4), some (.int a5)]) (st' := [.ref 8]) (h' := h4) rfl ?_
    refine mX_ckv (v := .ref (gR h4 8 3)) (v' := .ref 50) (k' := 27) (ls' := [some (.ref 8), some (.int a1), some (.int a2), some (.int a3), some (.int a4), some (.int a5)]) (st' := []) (h' := h4) (k_8 L4) (congrArg Value.ref (r_8_3 L4)) rfl ?_
    refine mX_to 1 (k' := 28) (ls' := [some (.ref 8), some (.int a1), some (.int a2), some (.int a3), some (.int a4), some (.int a5)]) (st' := [.int a5, .ref 50]) (h' := h4) rfl ?_
    refine mX_ckct (m := mcl (mE mtab d 25 [.ref 50, .int a5] h4) 0 29 [some (.ref 8), some (.int a1), some (.int a2), some (.int a3), some (.int a4), some (.int a5)] []) (k_50 L4) rfl ?_
    refine mk_cVe (o := F_X7_append d a5 h4) ?_
    intro wh5 h5 eh5
    have L5 : lay h5 := lay_call d 25 [.ref 50, .int a5] h4 _ h5 rfl eh5 L4
    refine mX_to 1 (k' := 30) (ls' := [some (.ref 8), some (.int a1), some (.int a2), some (.int a3), some (.int a4), some (.int a5)]) (st' := [.ref 8]) (h' := h5) rfl ?_
    refine mX_ckv (v := .ref (gR h5 8 3)) (v' := .ref 50) (k' := 31) (ls' := [some (.ref 8), some (.int a1), some (.int a2), some (.int a3), some (.int a4), some (.int a5)]) (st' := []) (h' := h5) (k_8 L5) (congrArg Value.ref (r_8_3 L5)) rfl ?_
    refine mX_ckv (v := .int (gI h5 50 1)) (v' := .int (gI h5 50 1)) (k' := 32) (ls' := [some (.ref 8), some (.int a1), some (.int a2), some (.int a3), some (.int a4), some (.int a5)]) (st' := []) (h' := h5) (k_50 L5) rfl rfl ?_
    exact mX_reti rfl
  · refine mX_to 1 (k' := 8) (ls' := [some (.ref 8), some (.int a1), some (.int a2), some (.int a3), some (.int a4), some (.int a5)]) (st' := [.int (-1)]) (h' := h) rfl ?_
    exact mX_reti rfl
theorem S_X11_four_2 {h : MH} (L : lay h) (d : Nat) (l1 : Int32) (l2 : Int32) : G_X11_four_2 d l1 l2 h = (if l2 < 0 then some (.int 0, h) else ck (ib (gI h 67 4) 300) (lt_ (sI h 71 (ix (gI h 67 4)) ((l1 >>> (l2 &&& 31)) &&& 255)) fun h2 => lt_ (sI h2 67 4 ((gI h2 67 4) + 1)) fun h4 => G_X11_four_2 d l1 (l2 + (-8)) h4)) := by
  refine mX_to 1 (k' := 3) (ls' := [some (.ref 67), some (.int l1), some (.int l2)]) (st' := [.int l2]) (h' := h) rfl ?_
  refine mX_br (t := 22) (f := 4) (ls' := [some (.ref 67), some (.int l1), some (.int l2)]) (st' := []) (h' := h) rfl ?_ ?_
  · exact mX_ret rfl
  · refine mX_to 1 (k' := 5) (ls' := [some (.ref 67), some (.int l1), some (.int l2)]) (st' := [.ref 67]) (h' := h) rfl ?_
    refine mX_ckv (v := .ref (gR h 67 3)) (v' := .ref 71) (k' := 6) (ls' := [some (.ref 67), some (.int l1), some (.int l2)]) (st' := []) (h' := h) (k_67 L) (congrArg Value.ref (r_67_3 L)) rfl ?_
    refine mX_to 1 (k' := 7) (ls' := [some (.ref 67), some (.int l1), some (.int l2)]) (st' := [.ref 67, .ref 71]) (h' := h) rfl ?_
    refine mX_ckv (v := .int (gI h 67 4)) (v' := .int (gI h 67 4)) (k' := 8) (ls' := [some (.ref 67), some (.int l1), some (.int l2)]) (st' := [.ref 71]) (h' := h) (k_67 L) rfl rfl ?_
    refine mX_to 5 (k' := 13) (ls' := [some (.ref 67), some (.int l1), some (.int l2)]) (st' := [.int ((l1 >>> (l2 &&& 31)) &&& 255), .int (gI h 67 4), .ref 71]) (h' := h) rfl ?_
    refine mX_cki (k' := 14) (ls' := [some (.ref 67), some (.int l1), some (.int l2)]) (st' := []) (h' := (sI h 71 (ix (gI h 67 4)) ((l1 >>> (l2 &&& 31)) &&& 255))) (ckA0 (k_71 L) (n_71 L)) rfl fun c1 => ?_
    refine lt_geq2 (X := fun h2 : MH => mX (mE mtab d) KX11_four 14 [some (.ref 67), some (.int l1), some (.int l2)] [] h2) (a := (sI h 71 (ix (gI h 67 4)) ((l1 >>> (l2 &&& 31)) &&& 255))) (a' := (sI h 71 (ix (gI h 67 4)) ((l1 >>> (l2 &&& 31)) &&& 255))) rfl fun h2 eh2 => ?_
    have L2 : lay h2 := eh2 ▸ layI L (by decide)
    refine mX_to 2 (k' := 16) (ls' := [some (.ref 67), some (.int l1), some (.int l2)]) (st' := [.ref 67, .ref 67]) (h' := h2) rfl ?_
    refine mX_ckv (v := .int (gI h2 67 4)) (v' := .int (gI h2 67 4)) (k' := 17) (ls' := [some (.ref 67), some (.int l1), some (.int l2)]) (st' := [.ref 67]) (h' := h2) (k_67 L2) rfl rfl ?_
    refine mX_to 2 (k' := 19) (ls' := [some (.ref 67), some (.int l1), some (.int l2)]) (st' := [.int ((gI h2 67 4) + 1), .ref 67]) (h' := h2) rfl ?_
    refine mX_ckt (k' := 20) (ls' := [some (.ref 67), some (.int l1), some (.int l2)]) (st' := []) (h' := (sI h2 67 4 ((gI h2 67 4) + 1))) (k_67 L2) rfl ?_
    refine lt_geq2 (X := fun h4 : MH => mX (mE mtab d) KX11_four 20 [some (.ref 67), some (.int l1), some (.int l2)] [] h4) (a := (sI h2 67 4 ((gI h2 67 4) + 1))) (a' := (sI h2 67 4 ((gI h2 67 4) + 1))) rfl fun h4 eh4 => ?_
    have L4 : lay h4 := eh4 ▸ layI L2 (by decide)
    refine mX_to 2 (k' := 2) (ls' := [some (.ref 67), some (.int l1), some (.int (l2 + (-8)))]) (st' := []) (h' := h4) rfl ?_
    rfl
theorem S_X11_four {h : MH} (L : lay h) (d : Nat) (a1 : Int32) : F_X11_four (d + 1) a1 h = G_X11_four_2 d a1 24 h := by
  refine mE_eq (q := (yX11_four, cX11_four, 3, none, KX11_four)) (C := KX11_four) (ls := [some (.ref 67), some (.int a1), none]) rfl rfl rfl rfl ?_
  refine mX_to 2 (k' := 2) (ls' := [some (.ref 67), some (.int a1), some (.int 24)]) (st' := []) (h' := h) rfl ?_
  rfl
theorem S_X11_feed {h : MH} (L : lay h) (d : Nat) (a1 : Int32) (a2 : Int32) (a3 : Int32) (a4 : Int32) (a5 : Int32) : F_X11_feed (d + 1) a1 a2 a3 a4 a5 h = (if ((gI h 67 4) + 20) ≤ 300 then cV (F_X11_four d a1 h) (fun h1 => cV (F_X11_four d a2 h1) (fun h2 => cV (F_X11_four d a3 h2) (fun h3 => cV (F_X11_four d a4 h3) (fun h4 => cV (F_X11_four d a5 h4) (fun h5 => some (.int (gI h5 67 4), h5)))))) else some (.int (-1), h)) := by
  refine mE_eq (q := (yX11_feed, cX11_feed, 6, (some .int), KX11_feed)) (C := KX11_feed) (ls := [some (.ref 67), some (.int a1), some (.int a2), some (.int a3), some (.int a4), some (.int a5)]) rfl rfl rfl rfl ?_
  refine mX_to 1 (k' := 1) (ls' := [some (.ref 67), some (.int a1), some (.int a2), some (.int a3), some (.int a4), some (.int a5)]) (st' := [.ref 67]) (h' := h) rfl ?_
  refine mX_ckv (v := .int (gI h 67 4)) (v' := .int (gI h 67 4)) (k' := 2) (ls' := [some (.ref 67), some (.int a1), some (.int a2), some (.int a3), some (.int a4), some (.int a5)]) (st' := []) (h' := h) (k_67 L) rfl rfl ?_
  refine mX_to 3 (k' := 5) (ls' := [some (.ref 67), some (.int a1), some (.int a2), some (.int a3), some (.int a4), some (.int a5)]) (st' := [.int 300, .int ((gI h 67 4) + 20)]) (h' := h) rfl ?_
  refine mX_br (t := 8) (f := 6) (ls' := [some (.ref 67), some (.int a1), some (.int a2), some (.int a3), some (.int a4), some (.int a5)]) (st' := []) (h' := h) rfl ?_ ?_
  · refine mX_to 2 (k' := 10) (ls' := [some (.ref 67), some (.int a1), some (.int a2), some (.int a3), some (.int a4), some (.int a5)]) (st' := [.int a1, .ref 67]) (h' := h) rfl ?_
    refine mX_ckct (m := mcl (mE mtab d 27 [.ref 67, .int a1] h) 0 11 [some (.ref 67), some (.int a1), some (.int a2), some (.int a3), some (.int a4), some (.int a5)] []) (k_67 L) rfl ?_
    refine mk_cVe (o := F_X11_four d a1 h) ?_
    intro wh1 h1 eh1
    have L1 : lay h1 := lay_call d 27 [.ref 67, .int a1] h _ h1 rfl eh1 L
    refine mX_to 2 (k' := 13) (ls' := [some (.ref 67), some (.int a1), some (.int a2), some (.int a3), some (.int a4), some (.int a5)]) (st' := [.int a2, .ref 67]) (h' := h1) rfl ?_
    refine mX_ckct (m := mcl (mE mtab d 27 [.ref 67, .int a2] h1) 0 14 [some (.ref 67), some (.int a1), some (.int a2), some (.int a3), some (.int a4), some (.int a5)] []) (k_67 L1) rfl ?_
    refine mk_cVe (o := F_X11_four d a2 h1) ?_
    intro wh2 h2 eh2
    have L2 : lay h2 := lay_call d 27 [.ref 67, .int a2] h1 _ h2 rfl eh2 L1
    refine mX_to 2 (k' := 16) (ls' := [some (.ref 67), some (.int a1), some (.int a2), some (.int a3), some (.int a4), some (.int a5)]) (st' := [.int a3, .ref 67]) (h' := h2) rfl ?_
    refine mX_ckct (m := mcl (mE mtab d 27 [.ref 67, .int a3] h2) 0 17 [some (.ref 67), some (.int a1), some (.int a2), some (.int a3), some (.int a4), some (.int a5)] []) (k_67 L2) rfl ?_
    refine mk_cVe (o := F_X11_four d a3 h2) ?_
    intro wh3 h3 eh3
    have L3 : lay h3 := lay_call d 27 [.ref 67, .int a3] h2 _ h3 rfl eh3 L2
    refine mX_to 2 (k' := 19) (ls' := [some (.ref 67), some (.int a1), some (.int a2), some (.int a3), some (.int a4), some (.int a5)]) (st' := [.int a4, .ref 67]) (h' := h3) rfl ?_
    refine mX_ckct (m := mcl (mE mtab d 27 [.ref 67, .int a4] h3) 0 20 [some (.ref 67), some (.int a1), some (.int a2), some (.int a3), some (.int a4), some (.int a5)] []) (k_67 L3) rfl ?_
    refine mk_cVe (o := F_X11_four d a4 h3) ?_
    intro wh4 h4 eh4
    have L4 : lay h4 := lay_call d 27 [.ref 67, .int a4] h3 _ h4 rfl eh4 L3
    refine mX_to 2 (k' := 22) (ls' := [some (.ref 67), some (.int a1), some (.int a2), some (.int a3), some (.int a4), some (.int a5)]) (st' := [.int a5, .ref 67]) (h' := h4) rfl ?_
    refine mX_ckct (m := mcl (mE mtab d 27 [.ref 67, .int a5] h4) 0 23 [some (.ref 67), some (.int a1), some (.int a2), some (.int a3), some (.int a4), some (.int a5)] []) (k_67 L4) rfl ?_
    refine mk_cVe (o := F_X11_four d a5 h4) ?_
    intro wh5 h5 eh5
    have L5 : lay h5 := lay_call d 27 [.ref 67, .int a5] h4 _ h5 rfl eh5 L4
    refine mX_to 1 (k' := 24) (ls' := [some (.ref 67), some (.int a1), some (.int a2), some (.int a3), some (.int a4), some (.int a5)]) (st' := [.ref 67]) (h' := h5) rfl ?_
    refine mX_ckv (v := .int (gI h5 67 4)) (v' := .int (gI h5 67 4)) (k' := 25) (ls' := [some (.ref 67), some (.int a1), some (.int a2), some (.int a3), some (.int a4), some (.int a5)]) (st' := []) (h' := h5) (k_67 L5) rfl rfl ?_
    exact mX_reti rfl
  · refine mX_to 1 (k' := 7) (ls' := [some (.ref 67), some (.int a1), some (.int a2), some (.int a3), some (.int a4), some (.int a5)]) (st' := [.int (-1)]) (h' := h) rfl ?_
    exact mX_reti rfl
theorem S_X10_end {h : MH} (L : lay h) (d : Nat) (a1 : Int32) : F_X10_end (d + 1) a1 h = cI (F_X10_within d a1 0 (gI h 50 1) h) (fun x2 h1 => (if x2 = 0 then some (.int (-1), h1) else lt_ (sI h1 50 1 a1) fun h4 => some (.int a1, h4))) := by
  refine mE_eq (q := (yX10_end, cX10_end, 2, (some .int), KX10_end)) (C := KX10_end) (ls := [some (.ref 8), some (.int a1)]) rfl rfl rfl rfl ?_
  refine mX_to 3 (k' := 3) (ls' := [some (.ref 8), some (.int a1)]) (st' := [.ref 8, .int 0, .int a1]) (h' := h) rfl ?_
  refine mX_ckv (v := .ref (gR h 8 3)) (v' := .ref 50) (k' := 4) (ls' := [some (.ref 8), some (.int a1)]) (st' := [.int 0, .int a1]) (h' := h) (k_8 L) (congrArg Value.ref (r_8_3 L)) rfl ?_
  refine mX_ckv (v := .int (gI h 50 1)) (v' := .int (gI h 50 1)) (k' := 5) (ls' := [some (.ref 8), some (.int a1)]) (st' := [.int 0, .int a1]) (h' := h) (k_50 L) rfl rfl ?_
  refine mX_cIe (o := F_X10_within d a1 0 (gI h 50 1) h) (k' := 6) (ls' := [some (.ref 8), some (.int a1)]) (st' := []) rfl ?_
  intro x2 h1 eh1
  have L1 : lay h1 := lay_call d 11 [.int a1, .int 0, .int (gI h 50 1)] h _ h1 rfl eh1 L
  refine mX_br (t := 7) (f := 9) (ls' := [some (.ref 8), some (.int a1)]) (st' := []) (h' := h1) rfl ?_ ?_
  · refine mX_to 1 (k' := 8) (ls' := [some (.ref 8), some (.int a1)]) (st' := [.int (-1)]) (h' := h1) rfl ?_
    exact mX_reti rfl
  · refine mX_to 1 (k' := 10) (ls' := [some (.ref 8), some (.int a1)]) (st' := [.ref 8]) (h' := h1) rfl ?_
    refine mX_ckv (v := .ref (gR h1 8 3)) (v' := .ref 50) (k' := 11) (ls' := [some (.ref 8), some (.int a1)]) (st' := []) (h' := h1) (k_8 L1) (congrArg Value.ref (r_8_3 L1)) rfl ?_
    refine mX_to 1 (k' := 12) (ls' := [some (.ref 8), some (.int a1)]) (st' := [.int a1, .ref 50]) (h' := h1) rfl ?_
    refine mX_ckt (k' := 13) (ls' := [some (.ref 8), some (.int a1)]) (st' := []) (h' := (sI h1 50 1 a1)) (k_50 L1) rfl ?_
    refine lt_geq2 (X := fun h4 : MH => mX (mE mtab d) KX10_end 13 [some (.ref 8), some (.int a1)] [] h4) (a := (sI h1 50 1 a1)) (a' := (sI h1 50 1 a1)) rfl fun h4 eh4 => ?_
    have L4 : lay h4 := eh4 ▸ layI L1 (by decide)
    refine mX_to 1 (k' := 14) (ls' := [some (.ref 8), some (.int a1)]) (st' := [.int a1]) (h' := h4) rfl ?_
    exact mX_reti rfl
theorem S_X11_end {h : MH} (L : lay h) (d : Nat) (a1 : Int32) : F_X11_end (d + 1) a1 h = cI (F_X11_isIn d a1 0 (gI h 67 4) h) (fun x2 h1 => (if x2 = 0 then some (.int (-1), h1) else lt_ (sI h1 67 4 a1) fun h4 => some (.int a1, h4))) := by
  refine mE_eq (q := (yX11_end, cX11_end, 2, (some .int), KX11_end)) (C := KX11_end) (ls := [some (.ref 67), some (.int a1)]) rfl rfl rfl rfl ?_
  refine mX_to 3 (k' := 3) (ls' := [some (.ref 67), some (.int a1)]) (st' := [.ref 67, .int 0, .int a1]) (h' := h) rfl ?_
  refine mX_ckv (v := .int (gI h 67 4)) (v' := .int (gI h 67 4)) (k' := 4) (ls' := [some (.ref 67), some (.int a1)]) (st' := [.int 0, .int a1]) (h' := h) (k_67 L) rfl rfl ?_
  refine mX_cIe (o := F_X11_isIn d a1 0 (gI h 67 4) h) (k' := 5) (ls' := [some (.ref 67), some (.int a1)]) (st' := []) rfl ?_
  intro x2 h1 eh1
  have L1 : lay h1 := lay_call d 14 [.int a1, .int 0, .int (gI h 67 4)] h _ h1 rfl eh1 L
  refine mX_br (t := 6) (f := 8) (ls' := [some (.ref 67), some (.int a1)]) (st' := []) (h' := h1) rfl ?_ ?_
  · refine mX_to 1 (k' := 7) (ls' := [some (.ref 67), some (.int a1)]) (st' := [.int (-1)]) (h' := h1) rfl ?_
    exact mX_reti rfl
  · refine mX_to 2 (k' := 10) (ls' := [some (.ref 67), some (.int a1)]) (st' := [.int a1, .ref 67]) (h' := h1) rfl ?_
    refine mX_ckt (k' := 11) (ls' := [some (.ref 67), some (.int a1)]) (st' := []) (h' := (sI h1 67 4 a1)) (k_67 L1) rfl ?_
    refine lt_geq2 (X := fun h4 : MH => mX (mE mtab d) KX11_end 11 [some (.ref 67), some (.int a1)] [] h4) (a := (sI h1 67 4 a1)) (a' := (sI h1 67 4 a1)) rfl fun h4 eh4 => ?_
    have L4 : lay h4 := eh4 ▸ layI L1 (by decide)
    refine mX_to 1 (k' := 12) (ls' := [some (.ref 67), some (.int a1)]) (st' := [.int a1]) (h' := h4) rfl ?_
    exact mX_reti rfl
