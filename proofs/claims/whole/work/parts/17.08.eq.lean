/-! EQUATIONS OF THE METHODS (written by wip/gen/dgen.py) -/
theorem D_X11_fault (d : Nat) (h : MH) (a0 : Nat) (a1 : Int32) : mE mtab (d + 1) 132 [.ref a0, .int a1] h = (if a1 = 0 then ck (kd h a0 = 12) (some (.int (gI h a0 5), h)) else (if a1 = 1 then ck (kd h a0 = 12) (some (.int (gI h a0 6), h)) else some (.int (-1), h))) := by
  refine mE_eq (q := (yX11_fault, cX11_fault, 2, (some .int), KX11_fault)) (C := KX11_fault) (ls := [some (.ref a0), some (.int a1)]) rfl rfl rfl rfl ?_
  refine mX_to 1 (k' := 1) (ls' := [some (.ref a0), some (.int a1)]) (st' := [.int a1]) (h' := h) rfl ?_
  refine mX_br (t := 2) (f := 5) (ls' := [some (.ref a0), some (.int a1)]) (st' := []) (h' := h) rfl ?_ ?_
  · refine mX_to 1 (k' := 3) (ls' := [some (.ref a0), some (.int a1)]) (st' := [.ref a0]) (h' := h) rfl ?_
    refine mX_ck (k' := 4) (ls' := [some (.ref a0), some (.int a1)]) (st' := [.int (gI h a0 5)]) (h' := h) rfl ?_
    refine mX_to 1 (k' := 12) (ls' := [some (.ref a0), some (.int a1)]) (st' := [.int (gI h a0 5)]) (h' := h) rfl ?_
    exact mX_reti rfl
  · refine mX_to 2 (k' := 7) (ls' := [some (.ref a0), some (.int a1)]) (st' := [.int 1, .int a1]) (h' := h) rfl ?_
    refine mX_br (t := 8) (f := 11) (ls' := [some (.ref a0), some (.int a1)]) (st' := []) (h' := h) rfl ?_ ?_
    · refine mX_to 1 (k' := 9) (ls' := [some (.ref a0), some (.int a1)]) (st' := [.ref a0]) (h' := h) rfl ?_
      refine mX_ck (k' := 10) (ls' := [some (.ref a0), some (.int a1)]) (st' := [.int (gI h a0 6)]) (h' := h) rfl ?_
      refine mX_to 1 (k' := 12) (ls' := [some (.ref a0), some (.int a1)]) (st' := [.int (gI h a0 6)]) (h' := h) rfl ?_
      exact mX_reti rfl
    · refine mX_to 1 (k' := 12) (ls' := [some (.ref a0), some (.int a1)]) (st' := [.int (-1)]) (h' := h) rfl ?_
      exact mX_reti rfl
theorem D_X0_textOf (d : Nat) (h : MH) (a0 : Nat) (a1 : Int32) : mE mtab (d + 1) 133 [.ref a0, .int a1] h = ck (kd h a0 = 1) (cI (mE mtab d 11 [.int a1, .int 0, .int ((gI h a0 4) - 1)] h) (fun x2 h1 => (if x2 = 0 then some (.ref 0, h1) else ck (kd h1 a0 = 1) (ck (kd h1 (gR h1 a0 3) = 23 ∧ ib a1 (ln h1 (gR h1 a0 3))) (some (.ref (gR h1 (gR h1 a0 3) (ix a1)), h1)))))) := by
  refine mE_eq (q := (yX0_textOf, cX0_textOf, 2, (some (.object "BoroughBeam$Text")), KX0_textOf)) (C := KX0_textOf) (ls := [some (.ref a0), some (.int a1)]) rfl rfl rfl rfl ?_
  refine mX_to 3 (k' := 3) (ls' := [some (.ref a0), some (.int a1)]) (st' := [.ref a0, .int 0, .int a1]) (h' := h) rfl ?_
  refine mX_ck (k' := 4) (ls' := [some (.ref a0), some (.int a1)]) (st' := [.int (gI h a0 4), .int 0, .int a1]) (h' := h) rfl ?_
  refine mX_to 2 (k' := 6) (ls' := [some (.ref a0), some (.int a1)]) (st' := [.int ((gI h a0 4) - 1), .int 0, .int a1]) (h' := h) rfl ?_
  refine mX_cI (o := mE mtab d 11 [.int a1, .int 0, .int ((gI h a0 4) - 1)] h) (k' := 7) (ls' := [some (.ref a0), some (.int a1)]) (st' := []) rfl ?_
  intro x2 h1
  refine mX_br (t := 13) (f := 8) (ls' := [some (.ref a0), some (.int a1)]) (st' := []) (h' := h1) rfl ?_ ?_
  · refine mX_to 1 (k' := 14) (ls' := [some (.ref a0), some (.int a1)]) (st' := [.ref 0]) (h' := h1) rfl ?_
    exact mX_ret rfl
  · refine mX_to 1 (k' := 9) (ls' := [some (.ref a0), some (.int a1)]) (st' := [.ref a0]) (h' := h1) rfl ?_
    refine mX_ck (k' := 10) (ls' := [some (.ref a0), some (.int a1)]) (st' := [.ref (gR h1 a0 3)]) (h' := h1) rfl ?_
    refine mX_to 1 (k' := 11) (ls' := [some (.ref a0), some (.int a1)]) (st' := [.int a1, .ref (gR h1 a0 3)]) (h' := h1) rfl ?_
    refine mX_ck (k' := 12) (ls' := [some (.ref a0), some (.int a1)]) (st' := [.ref (gR h1 (gR h1 a0 3) (ix a1))]) (h' := h1) rfl ?_
    refine mX_to 1 (k' := 14) (ls' := [some (.ref a0), some (.int a1)]) (st' := [.ref (gR h1 (gR h1 a0 3) (ix a1))]) (h' := h1) rfl ?_
    exact mX_ret rfl
theorem D_X0_rule (d : Nat) (h : MH) (a0 : Nat) (a1 : Int32) : mE mtab (d + 1) 134 [.ref a0, .int a1] h = ck (kd h a0 = 1) (lt_ (sI h a0 5 a1) fun h1 => ck (kd h1 a0 = 1) (ck (kd h1 a0 = 1) (cR (mE mtab d 133 [.ref a0, .int a1] h1) (fun x3 h2 => ck (kd h2 (gR h1 a0 0) = 10) (lt_ (sR h2 (gR h1 a0 0) 9 x3) fun h4 => some (.int 0, h4)))))) := by
  refine mE_eq (q := (yX0_rule, cX0_rule, 2, none, KX0_rule)) (C := KX0_rule) (ls := [some (.ref a0), some (.int a1)]) rfl rfl rfl rfl ?_
  refine mX_to 2 (k' := 2) (ls' := [some (.ref a0), some (.int a1)]) (st' := [.int a1, .ref a0]) (h' := h) rfl ?_
  refine mX_ck (k' := 3) (ls' := [some (.ref a0), some (.int a1)]) (st' := []) (h' := (sI h a0 5 a1)) rfl ?_
  refine lt_gen (X := fun h1 : MH => mX (mE mtab d) KX0_rule 3 [some (.ref a0), some (.int a1)] [] h1) fun h1 => ?_
  refine mX_to 1 (k' := 4) (ls' := [some (.ref a0), some (.int a1)]) (st' := [.ref a0]) (h' := h1) rfl ?_
  refine mX_ck (k' := 5) (ls' := [some (.ref a0), some (.int a1)]) (st' := [.ref (gR h1 a0 0)]) (h' := h1) rfl ?_
  refine mX_to 2 (k' := 7) (ls' := [some (.ref a0), some (.int a1)]) (st' := [.int a1, .ref a0, .ref (gR h1 a0 0)]) (h' := h1) rfl ?_
  refine mX_ckc (m := mcl (mE mtab d 133 [.ref a0, .int a1] h1) 3 8 [some (.ref a0), some (.int a1)] [.ref (gR h1 a0 0)]) rfl ?_
  refine mk_cR ?_
  intro x3 h2
  refine mX_ck (k' := 9) (ls' := [some (.ref a0), some (.int a1)]) (st' := []) (h' := (sR h2 (gR h1 a0 0) 9 x3)) rfl ?_
  refine lt_gen (X := fun h4 : MH => mX (mE mtab d) KX0_rule 9 [some (.ref a0), some (.int a1)] [] h4) fun h4 => ?_
  exact mX_ret rfl
theorem D_X10_by (d : Nat) (h : MH) (a0 : Nat) (a1 : Int32) : mE mtab (d + 1) 135 [.ref a0, .int a1] h = ck (kd h a0 = 11) (ck (kd h (gR h a0 0) = 1) (cI (mE mtab d 11 [.int a1, .int (-1), .int ((gI h (gR h a0 0) 4) - 1)] h) (fun x2 h1 => (if x2 = 0 then some (.int 0, h1) else ck (kd h1 a0 = 11) (ck (kd h1 (gR h1 a0 0) = 1) (cV (mE mtab d 134 [.ref (gR h1 a0 0), .int a1] h1) (fun h3 => some (.int 1, h3)))))))) := by
  refine mE_eq (q := (yX10_by, cX10_by, 2, (some .boolean), KX10_by)) (C := KX10_by) (ls := [some (.ref a0), some (.int a1)]) rfl rfl rfl rfl ?_
  refine mX_to 3 (k' := 3) (ls' := [some (.ref a0), some (.int a1)]) (st' := [.ref a0, .int (-1), .int a1]) (h' := h) rfl ?_
  refine mX_ck (k' := 4) (ls' := [some (.ref a0), some (.int a1)]) (st' := [.ref (gR h a0 0), .int (-1), .int a1]) (h' := h) rfl ?_
  refine mX_ck (k' := 5) (ls' := [some (.ref a0), some (.int a1)]) (st' := [.int (gI h (gR h a0 0) 4), .int (-1), .int a1]) (h' := h) rfl ?_
  refine mX_to 2 (k' := 7) (ls' := [some (.ref a0), some (.int a1)]) (st' := [.int ((gI h (gR h a0 0) 4) - 1), .int (-1), .int a1]) (h' := h) rfl ?_
  refine mX_cI (o := mE mtab d 11 [.int a1, .int (-1), .int ((gI h (gR h a0 0) 4) - 1)] h) (k' := 8) (ls' := [some (.ref a0), some (.int a1)]) (st' := []) rfl ?_
  intro x2 h1
  refine mX_br (t := 9) (f := 11) (ls' := [some (.ref a0), some (.int a1)]) (st' := []) (h' := h1) rfl ?_ ?_
  · refine mX_to 1 (k' := 10) (ls' := [some (.ref a0), some (.int a1)]) (st' := [.int 0]) (h' := h1) rfl ?_
    exact mX_retb (by decide) rfl
  · refine mX_to 1 (k' := 12) (ls' := [some (.ref a0), some (.int a1)]) (st' := [.ref a0]) (h' := h1) rfl ?_
    refine mX_ck (k' := 13) (ls' := [some (.ref a0), some (.int a1)]) (st' := [.ref (gR h1 a0 0)]) (h' := h1) rfl ?_
    refine mX_to 1 (k' := 14) (ls' := [some (.ref a0), some (.int a1)]) (st' := [.int a1, .ref (gR h1 a0 0)]) (h' := h1) rfl ?_
    refine mX_ckc (m := mcl (mE mtab d 134 [.ref (gR h1 a0 0), .int a1] h1) 0 15 [some (.ref a0), some (.int a1)] []) rfl ?_
    refine mk_cV ?_
    intro h3
    refine mX_to 1 (k' := 16) (ls' := [some (.ref a0), some (.int a1)]) (st' := [.int 1]) (h' := h3) rfl ?_
    exact mX_retb (by decide) rfl
theorem D_X11_by (d : Nat) (h : MH) (a0 : Nat) (a1 : Int32) : mE mtab (d + 1) 136 [.ref a0, .int a1] h = ck (kd h a0 = 12) (ck ((kd h (gR h a0 0) = 20 ∨ kd h (gR h a0 0) = 24) ∧ ib (2 : Int32) (ln h (gR h a0 0))) (cI (mE mtab d 14 [.int a1, .int (-1), .int ((gI h (gR h a0 0) (ix (2 : Int32))) - 1)] h) (fun x2 h1 => (if x2 = 0 then some (.int 0, h1) else ck (kd h1 a0 = 12) (ck (kd h1 (gR h1 a0 0) = 20 ∧ ib (3 : Int32) (ln h1 (gR h1 a0 0))) (lt_ (sI h1 (gR h1 a0 0) (ix (3 : Int32)) a1) fun h3 => some (.int 1, h3))))))) := by
  refine mE_eq (q := (yX11_by, cX11_by, 2, (some .boolean), KX11_by)) (C := KX11_by) (ls := [some (.ref a0), some (.int a1)]) rfl rfl rfl rfl ?_
  refine mX_to 3 (k' := 3) (ls' := [some (.ref a0), some (.int a1)]) (st' := [.ref a0, .int (-1), .int a1]) (h' := h) rfl ?_
  refine mX_ck (k' := 4) (ls' := [some (.ref a0), some (.int a1)]) (st' := [.ref (gR h a0 0), .int (-1), .int a1]) (h' := h) rfl ?_
  refine mX_to 1 (k' := 5) (ls' := [some (.ref a0), some (.int a1)]) (st' := [.int 2, .ref (gR h a0 0), .int (-1), .int a1]) (h' := h) rfl ?_
  refine mX_ck (k' := 6) (ls' := [some (.ref a0), some (.int a1)]) (st' := [.int (gI h (gR h a0 0) (ix (2 : Int32))), .int (-1), .int a1]) (h' := h) rfl ?_
  refine mX_to 2 (k' := 8) (ls' := [some (.ref a0), some (.int a1)]) (st' := [.int ((gI h (gR h a0 0) (ix (2 : Int32))) - 1), .int (-1), .int a1]) (h' := h) rfl ?_
  refine mX_cI (o := mE mtab d 14 [.int a1, .int (-1), .int ((gI h (gR h a0 0) (ix (2 : Int32))) - 1)] h) (k' := 9) (ls' := [some (.ref a0), some (.int a1)]) (st' := []) rfl ?_
  intro x2 h1
  refine mX_br (t := 10) (f := 12) (ls' := [some (.ref a0), some (.int a1)]) (st' := []) (h' := h1) rfl ?_ ?_
  · refine mX_to 1 (k' := 11) (ls' := [some (.ref a0), some (.int a1)]) (st' := [.int 0]) (h' := h1) rfl ?_
    exact mX_retb (by decide) rfl
  · refine mX_to 1 (k' := 13) (ls' := [some (.ref a0), some (.int a1)]) (st' := [.ref a0]) (h' := h1) rfl ?_
    refine mX_ck (k' := 14) (ls' := [some (.ref a0), some (.int a1)]) (st' := [.ref (gR h1 a0 0)]) (h' := h1) rfl ?_
    refine mX_to 2 (k' := 16) (ls' := [some (.ref a0), some (.int a1)]) (st' := [.int a1, .int 3, .ref (gR h1 a0 0)]) (h' := h1) rfl ?_
    refine mX_ck (k' := 17) (ls' := [some (.ref a0), some (.int a1)]) (st' := []) (h' := (sI h1 (gR h1 a0 0) (ix (3 : Int32)) a1)) rfl ?_
    refine lt_gen (X := fun h3 : MH => mX (mE mtab d) KX11_by 17 [some (.ref a0), some (.int a1)] [] h3) fun h3 => ?_
    refine mX_to 1 (k' := 18) (ls' := [some (.ref a0), some (.int a1)]) (st' := [.int 1]) (h' := h3) rfl ?_
    exact mX_retb (by decide) rfl
theorem D_X6_mark (d : Nat) (h : MH) (a0 : Nat) (a1 : Nat) : mE mtab (d + 1) 137 [.ref a0, .ref a1] h = ck (kd h a0 = 7) (ck (kd h a0 = 7) (lt_ ((((gI h a0 1) + (gI h a0 2)) - ((gI h a0 1) + (gI h a0 2)) / 31 * 31) * 47) fun v1 => ck (kd h a0 = 7) (ck (kd h a1 = 10) (ck (kd h (gR h a0 0) = 20 ∧ ib v1 (ln h (gR h a0 0))) (lt_ (sI h (gR h a0 0) (ix v1) (gI h a1 0)) fun h2 => ck (kd h2 a0 = 7) (ck (kd h2 a1 = 10) (ck (kd h2 (gR h2 a0 0) = 20 ∧ ib (v1 + 1) (ln h2 (gR h2 a0 0))) (lt_ (sI h2 (gR h2 a0 0) (ix (v1 + 1)) (gI h2 a1 5)) fun h3 => ck (kd h3 a0 = 7) (ck (kd h3 a1 = 10) (ck (kd h3 (gR h3 a0 0) = 20 ∧ ib (v1 + 2) (ln h3 (gR h3 a0 0))) (lt_ (sI h3 (gR h3 a0 0) (ix (v1 + 2)) (gI h3 a1 6)) fun h4 => ck (kd h4 a0 = 7) (ck (kd h4 a1 = 10) (ck (kd h4 (gR h4 a0 0) = 20 ∧ ib (v1 + 3) (ln h4 (gR h4 a0 0))) (lt_ (sI h4 (gR h4 a0 0) (ix (v1 + 3)) (gI h4 a1 8)) fun h5 => ck (kd h5 a1 = 10) (ck (kd h5 a0 = 7) (ck (kd h5 (gR h5 a1 2) = 20 ∧ kd h5 (gR h5 a0 0) = 20 ∧ ¬ (0 : Int32) < 0 ∧ ¬ (v1 + 4) < 0 ∧ ¬ (4 : Int32) < 0 ∧ ix (0 : Int32) + ix (4 : Int32) ≤ ln h5 (gR h5 a1 2) ∧ ix (v1 + 4) + ix (4 : Int32) ≤ ln h5 (gR h5 a0 0)) (lt_ (rI h5 (gR h5 a0 0) (va_cpy (gI h5 (gR h5 a1 2)) (gI h5 (gR h5 a0 0)) (ix (0 : Int32)) (ix (v1 + 4)) (ix (4 : Int32)))) fun h6 => ck (kd h6 a1 = 10) (ck (kd h6 a0 = 7) (ck (kd h6 (gR h6 a1 4) = 20 ∧ kd h6 (gR h6 a0 0) = 20 ∧ ¬ (0 : Int32) < 0 ∧ ¬ ((v1 + 4) + 4) < 0 ∧ ¬ (9 : Int32) < 0 ∧ ix (0 : Int32) + ix (9 : Int32) ≤ ln h6 (gR h6 a1 4) ∧ ix ((v1 + 4) + 4) + ix (9 : Int32) ≤ ln h6 (gR h6 a0 0)) (lt_ (rI h6 (gR h6 a0 0) (va_cpy (gI h6 (gR h6 a1 4)) (gI h6 (gR h6 a0 0)) (ix (0 : Int32)) (ix ((v1 + 4) + 4)) (ix (9 : Int32)))) fun h7 => ck (kd h7 a1 = 10) (ck (kd h7 a0 = 7) (ck (kd h7 (gR h7 a1 7) = 20 ∧ kd h7 (gR h7 a0 0) = 20 ∧ ¬ (0 : Int32) < 0 ∧ ¬ (((v1 + 4) + 4) + 9) < 0 ∧ ¬ (30 : Int32) < 0 ∧ ix (0 : Int32) + ix (30 : Int32) ≤ ln h7 (gR h7 a1 7) ∧ ix (((v1 + 4) + 4) + 9) + ix (30 : Int32) ≤ ln h7 (gR h7 a0 0)) (lt_ (rI h7 (gR h7 a0 0) (va_cpy (gI h7 (gR h7 a1 7)) (gI h7 (gR h7 a0 0)) (ix (0 : Int32)) (ix (((v1 + 4) + 4) + 9)) (ix (30 : Int32)))) fun h8 => some (.int 0, h8)))))))))))))))))))))))) := by
  refine mE_eq (q := (yX6_mark, cX6_mark, 3, none, KX6_mark)) (C := KX6_mark) (ls := [some (.ref a0), some (.ref a1), none]) rfl rfl rfl rfl ?_
  refine mX_to 1 (k' := 1) (ls' := [some (.ref a0), some (.ref a1), none]) (st' := [.ref a0]) (h' := h) rfl ?_
  refine mX_ck (k' := 2) (ls' := [some (.ref a0), some (.ref a1), none]) (st' := [.int (gI h a0 1)]) (h' := h) rfl ?_
  refine mX_to 1 (k' := 3) (ls' := [some (.ref a0), some (.ref a1), none]) (st' := [.ref a0, .int (gI h a0 1)]) (h' := h) rfl ?_
  refine mX_ck (k' := 4) (ls' := [some (.ref a0), some (.ref a1), none]) (st' := [.int (gI h a0 2), .int (gI h a0 1)]) (h' := h) rfl ?_
  refine mX_to 2 (k' := 6) (ls' := [some (.ref a0), some (.ref a1), none]) (st' := [.int 31, .int ((gI h a0 1) + (gI h a0 2))]) (h' := h) rfl ?_
  refine mX_ckt (c := ¬ (31 : Int32) = 0) (k' := 7) (ls' := [some (.ref a0), some (.ref a1), none]) (st' := [.int (((gI h a0 1) + (gI h a0 2)) - ((gI h a0 1) + (gI h a0 2)) / 31 * 31)]) (h' := h) (by decide) rfl ?_
  refine mX_to 2 (k' := 9) (ls' := [some (.ref a0), some (.ref a1), none]) (st' := [.int ((((gI h a0 1) + (gI h a0 2)) - ((gI h a0 1) + (gI h a0 2)) / 31 * 31) * 47)]) (h' := h) rfl ?_
  refine lt_gen (X := fun v1 : Int32 => mX (mE mtab d) KX6_mark 9 [some (.ref a0), some (.ref a1), none] [.int v1] h) fun v1 => ?_
  refine mX_to 2 (k' := 11) (ls' := [some (.ref a0), some (.ref a1), some (.int v1)]) (st' := [.ref a0]) (h' := h) rfl ?_
  refine mX_ck (k' := 12) (ls' := [some (.ref a0), some (.ref a1), some (.int v1)]) (st' := [.ref (gR h a0 0)]) (h' := h) rfl ?_
  refine mX_to 2 (k' := 14) (ls' := [some (.ref a0), some (.ref a1), some (.int v1)]) (st' := [.ref a1, .int v1, .ref (gR h a0 0)]) (h' := h) rfl ?_
  refine mX_ck (k' := 15) (ls' := [some (.ref a0), some (.ref a1), some (.int v1)]) (st' := [.int (gI h a1 0), .int v1, .ref (gR h a0 0)]) (h' := h) rfl ?_
  refine mX_ck (k' := 16) (ls' := [some (.ref a0), some (.ref a1), some (.int v1)]) (st' := []) (h' := (sI h (gR h a0 0) (ix v1) (gI h a1 0))) rfl ?_
  refine lt_gen (X := fun h2 : MH => mX (mE mtab d) KX6_mark 16 [some (.ref a0), some (.ref a1), some (.int v1)] [] h2) fun h2 => ?_
  refine mX_to 1 (k' := 17) (ls' := [some (.ref a0), some (.ref a1), some (.int v1)]) (st' := [.ref a0]) (h' := h2) rfl ?_
  refine mX_ck (k' := 18) (ls' := [some (.ref a0), some (.ref a1), some (.int v1)]) (st' := [.ref (gR h2 a0 0)]) (h' := h2) rfl ?_
  refine mX_to 4 (k' := 22) (ls' := [some (.ref a0), some (.ref a1), some (.int v1)]) (st' := [.ref a1, .int (v1 + 1), .ref (gR h2 a0 0)]) (h' := h2) rfl ?_
  refine mX_ck (k' := 23) (ls' := [some (.ref a0), some (.ref a1), some (.int v1)]) (st' := [.int (gI h2 a1 5), .int (v1 + 1), .ref (gR h2 a0 0)]) (h' := h2) rfl ?_
  refine mX_ck (k' := 24) (ls' := [some (.ref a0), some (.ref a1), some (.int v1)]) (st' := []) (h' := (sI h2 (gR h2 a0 0) (ix (v1 + 1)) (gI h2 a1 5))) rfl ?_
  refine lt_gen (X := fun h3 : MH => mX (mE mtab d) KX6_mark 24 [some (.ref a0), some (.ref a1), some (.int v1)] [] h3) fun h3 => ?_
  refine mX_to 1 (k' := 25) (ls' := [some (.ref a0), some (.ref a1), some (.int v1)]) (st' := [.ref a0]) (h' := h3) rfl ?_
  refine mX_ck (k' := 26) (ls' := [some (.ref a0), some (.ref a1), some (.int v1)]) (st' := [.ref (gR h3 a0 0)]) (h' := h3) rfl ?_
  refine mX_to 4 (k' := 30) (ls' := [some (.ref a0), some (.ref a1), some (.int v1)]) (st' := [.ref a1, .int (v1 + 2), .ref (gR h3 a0 0)]) (h' := h3) rfl ?_
  refine mX_ck (k' := 31) (ls' := [some (.ref a0), some (.ref a1), some (.int v1)]) (st' := [.int (gI h3 a1 6), .int (v1 + 2), .ref (gR h3 a0 0)]) (h' := h3) rfl ?_
  refine mX_ck (k' := 32) (ls' := [some (.ref a0), some (.ref a1), some (.int v1)]) (st' := []) (h' := (sI h3 (gR h3 a0 0) (ix (v1 + 2)) (gI h3 a1 6))) rfl ?_
  refine lt_gen (X := fun h4 : MH => mX (mE mtab d) KX6_mark 32 [some (.ref a0), some (.ref a1), some (.int v1)] [] h4) fun h4 => ?_
  refine mX_to 1 (k' := 33) (ls' := [some (.ref a0), some (.ref a1), some (.int v1)]) (st' := [.ref a0]) (h' := h4) rfl ?_
  refine mX_ck (k' := 34) (ls' := [some (.ref a0), some (.ref a1), some (.int v1)]) (st' := [.ref (gR h4 a0 0)]) (h' := h4) rfl ?_
  refine mX_to 4 (k' := 38) (ls' := [some (.ref a0), some (.ref a1), some (.int v1)]) (st' := [.ref a1, .int (v1 + 3), .ref (gR h4 a0 0)]) (h' := h4) rfl ?_
  refine mX_ck (k' := 39) (ls' := [some (.ref a0), some (.ref a1), some (.int v1)]) (st' := [.int (gI h4 a1 8), .int (v1 + 3), .ref (gR h4 a0 0)]) (h' := h4) rfl ?_
  refine mX_ck (k' := 40) (ls' := [some (.ref a0), some (.ref a1), some (.int v1)]) (st' := []) (h' := (sI h4 (gR h4 a0 0) (ix (v1 + 3)) (gI h4 a1 8))) rfl ?_
  refine lt_gen (X := fun h5 : MH => mX (mE mtab d) KX6_mark 40 [some (.ref a0), some (.ref a1), some (.int v1)] [] h5) fun h5 => ?_
  refine mX_to 1 (k' := 41) (ls' := [some (.ref a0), some (.ref a1), some (.int v1)]) (st' := [.ref a1]) (h' := h5) rfl ?_
  refine mX_ck (k' := 42) (ls' := [some (.ref a0), some (.ref a1), some (.int v1)]) (st' := [.ref (gR h5 a1 2)]) (h' := h5) rfl ?_
  refine mX_to 2 (k' := 44) (ls' := [some (.ref a0), some (.ref a1), some (.int v1)]) (st' := [.ref a0, .int 0, .ref (gR h5 a1 2)]) (h' := h5) rfl ?_
  refine mX_ck (k' := 45) (ls' := [some (.ref a0), some (.ref a1), some (.int v1)]) (st' := [.ref (gR h5 a0 0), .int 0, .ref (gR h5 a1 2)]) (h' := h5) rfl ?_
  refine mX_to 4 (k' := 49) (ls' := [some (.ref a0), some (.ref a1), some (.int v1)]) (st' := [.int 4, .int (v1 + 4), .ref (gR h5 a0 0), .int 0, .ref (gR h5 a1 2)]) (h' := h5) rfl ?_
  refine mX_ck (k' := 50) (ls' := [some (.ref a0), some (.ref a1), some (.int v1)]) (st' := []) (h' := (rI h5 (gR h5 a0 0) (va_cpy (gI h5 (gR h5 a1 2)) (gI h5 (gR h5 a0 0)) (ix (0 : Int32)) (ix (v1 + 4)) (ix (4 : Int32))))) rfl ?_
  refine lt_gen (X := fun h6 : MH => mX (mE mtab d) KX6_mark 50 [some (.ref a0), some (.ref a1), some (.int v1)] [] h6) fun h6 => ?_
  refine mX_to 1 (k' := 51) (ls' := [some (.ref a0), some (.ref a1), some (.int v1)]) (st' := [.ref a1]) (h' := h6) rfl ?_
  refine mX_ck (k' := 52) (ls' := [some (.ref a0), some (.ref a1), some (.int v1)]) (st' := [.ref (gR h6 a1 4)]) (h' := h6) rfl ?_
  refine mX_to 2 (k' := 54) (ls' := [some (.ref a0), some (.ref a1), some (.int v1)]) (st' := [.ref a0, .int 0, .ref (gR h6 a1 4)]) (h' := h6) rfl ?_
  refine mX_ck (k' := 55) (ls' := [some (.ref a0), some (.ref a1), some (.int v1)]) (st' := [.ref (gR h6 a0 0), .int 0, .ref (gR h6 a1 4)]) (h' := h6) rfl ?_
  refine mX_to 6 (k' := 61) (ls' := [some (.ref a0), some (.ref a1), some (.int v1)]) (st' := [.int 9, .int ((v1 + 4) + 4), .ref (gR h6 a0 0), .int 0, .ref (gR h6 a1 4)]) (h' := h6) rfl ?_
  refine mX_ck (k' := 62) (ls' := [some (.ref a0), some (.ref a1), some (.int v1)]) (st' := []) (h' := (rI h6 (gR h6 a0 0) (va_cpy (gI h6 (gR h6 a1 4)) (gI h6 (gR h6 a0 0)) (ix (0 : Int32)) (ix ((v1 + 4) + 4)) (ix (9 : Int32))))) rfl ?_
  refine lt_gen (X := fun h7 : MH => mX (mE mtab d) KX6_mark 62 [some (.ref a0), some (.ref a1), some (.int v1)] [] h7) fun h7 => ?_
  refine mX_to 1 (k' := 63) (ls' := [some (.ref a0), some (.ref a1), some (.int v1)]) (st' := [.ref a1]) (h' := h7) rfl ?_
  refine mX_ck (k' := 64) (ls' := [some (.ref a0), some (.ref a1), some (.int v1)]) (st' := [.ref (gR h7 a1 7)]) (h' := h7) rfl ?_
  refine mX_to 2 (k' := 66) (ls' := [some (.ref a0), some (.ref a1), some (.int v1)]) (st' := [.ref a0, .int 0, .ref (gR h7 a1 7)]) (h' := h7) rfl ?_
  refine mX_ck (k' := 67) (ls' := [some (.ref a0), some (.ref a1), some (.int v1)]) (st' := [.ref (gR h7 a0 0), .int 0, .ref (gR h7 a1 7)]) (h' := h7) rfl ?_
  refine mX_to 8 (k' := 75) (ls' := [some (.ref a0), some (.ref a1), some (.int v1)]) (st' := [.int 30, .int (((v1 + 4) + 4) + 9), .ref (gR h7 a0 0), .int 0, .ref (gR h7 a1 7)]) (h' := h7) rfl ?_
  refine mX_ck (k' := 76) (ls' := [some (.ref a0), some (.ref a1), some (.int v1)]) (st' := []) (h' := (rI h7 (gR h7 a0 0) (va_cpy (gI h7 (gR h7 a1 7)) (gI h7 (gR h7 a0 0)) (ix (0 : Int32)) (ix (((v1 + 4) + 4) + 9)) (ix (30 : Int32))))) rfl ?_
  refine lt_gen (X := fun h8 : MH => mX (mE mtab d) KX6_mark 76 [some (.ref a0), some (.ref a1), some (.int v1)] [] h8) fun h8 => ?_
  exact mX_ret rfl
theorem D_X9_shift_15 (d : Nat) (h : MH) (l0 : Nat) (l1 : Int32) (l2 : Int32) (s0 : Int32) (s1 : Int32) : mX (mE mtab d) KX9_shift 15 [some (.ref l0), some (.int l1), some (.int l2), none] [.int s0, .int s1] h = lt_ (s1 + s0) fun v3 => cI (mE mtab d 11 [.int v3, .int 0, .int 8] h) (fun x5 h4 => (if x5 = 0 then some (.int 0, h4) else ck (kd h4 l0 = 10) (ck (kd h4 (gR h4 l0 2) = 20 ∧ ib l1 (ln h4 (gR h4 l0 2))) (lt_ (sI h4 (gR h4 l0 2) (ix l1) v3) fun h6 => some (.int 1, h6))))) := by
  refine mX_to 1 (k' := 16) (ls' := [some (.ref l0), some (.int l1), some (.int l2), none]) (st' := [.int (s1 + s0)]) (h' := h) rfl ?_
  refine lt_gen (X := fun v3 : Int32 => mX (mE mtab d) KX9_shift 16 [some (.ref l0), some (.int l1), some (.int l2), none] [.int v3] h) fun v3 => ?_
  refine mX_to 4 (k' := 20) (ls' := [some (.ref l0), some (.int l1), some (.int l2), some (.int v3)]) (st' := [.int 8, .int 0, .int v3]) (h' := h) rfl ?_
  refine mX_cI (o := mE mtab d 11 [.int v3, .int 0, .int 8] h) (k' := 21) (ls' := [some (.ref l0), some (.int l1), some (.int l2), some (.int v3)]) (st' := []) rfl ?_
  intro x5 h4
  refine mX_br (t := 22) (f := 24) (ls' := [some (.ref l0), some (.int l1), some (.int l2), some (.int v3)]) (st' := []) (h' := h4) rfl ?_ ?_
  · refine mX_to 1 (k' := 23) (ls' := [some (.ref l0), some (.int l1), some (.int l2), some (.int v3)]) (st' := [.int 0]) (h' := h4) rfl ?_
    exact mX_retb (by decide) rfl
  · refine mX_to 1 (k' := 25) (ls' := [some (.ref l0), some (.int l1), some (.int l2), some (.int v3)]) (st' := [.ref l0]) (h' := h4) rfl ?_
    refine mX_ck (k' := 26) (ls' := [some (.ref l0), some (.int l1), some (.int l2), some (.int v3)]) (st' := [.ref (gR h4 l0 2)]) (h' := h4) rfl ?_
    refine mX_to 2 (k' := 28) (ls' := [some (.ref l0), some (.int l1), some (.int l2), some (.int v3)]) (st' := [.int v3, .int l1, .ref (gR h4 l0 2)]) (h' := h4) rfl ?_
    refine mX_ck (k' := 29) (ls' := [some (.ref l0), some (.int l1), some (.int l2), some (.int v3)]) (st' := []) (h' := (sI h4 (gR h4 l0 2) (ix l1) v3)) rfl ?_
    refine lt_gen (X := fun h6 : MH => mX (mE mtab d) KX9_shift 29 [some (.ref l0), some (.int l1), some (.int l2), some (.int v3)] [] h6) fun h6 => ?_
    refine mX_to 1 (k' := 30) (ls' := [some (.ref l0), some (.int l1), some (.int l2), some (.int v3)]) (st' := [.int 1]) (h' := h6) rfl ?_
    exact mX_retb (by decide) rfl
theorem D_X9_shift (d : Nat) (h : MH) (a0 : Nat) (a1 : Int32) (a2 : Int32) : mE mtab (d + 1) 138 [.ref a0, .int a1, .int a2] h = ck (kd h a0 = 10) (cI (mE mtab d 17 [.ref a0, .int a1] h) (fun x2 h1 => (if x2 = 0 then some (.int 0, h1) else ck (kd h1 a0 = 10) (ck ((kd h1 (gR h1 a0 2) = 20 ∨ kd h1 (gR h1 a0 2) = 24) ∧ ib a1 (ln h1 (gR h1 a0 2))) ((if a2 = 0 then mX (mE mtab d) KX9_shift 15 [some (.ref a0), some (.int a1), some (.int a2), none] [.int (-1), .int (gI h1 (gR h1 a0 2) (ix a1))] h1 else mX (mE mtab d) KX9_shift 15 [some (.ref a0), some (.int a1), some (.int a2), none] [.int 1, .int (gI h1 (gR h1 a0 2) (ix a1))] h1)))))) := by
  refine mE_eq (q := (yX9_shift, cX9_shift, 4, (some .boolean), KX9_shift)) (C := KX9_shift) (ls := [some (.ref a0), some (.int a1), some (.int a2), none]) rfl rfl rfl rfl ?_
  refine mX_to 2 (k' := 2) (ls' := [some (.ref a0), some (.int a1), some (.int a2), none]) (st' := [.int a1, .ref a0]) (h' := h) rfl ?_
  refine mX_ckc (m := mcl (mE mtab d 17 [.ref a0, .int a1] h) 1 3 [some (.ref a0), some (.int a1), some (.int a2), none] []) rfl ?_
  refine mk_cI ?_
  intro x2 h1
  refine mX_br (t := 4) (f := 6) (ls' := [some (.ref a0), some (.int a1), some (.int a2), none]) (st' := []) (h' := h1) rfl ?_ ?_
  · refine mX_to 1 (k' := 5) (ls' := [some (.ref a0), some (.int a1), some (.int a2), none]) (st' := [.int 0]) (h' := h1) rfl ?_
    exact mX_retb (by decide) rfl
  · refine mX_to 1 (k' := 7) (ls' := [some (.ref a0), some (.int a1), some (.int a2), none]) (st' := [.ref a0]) (h' := h1) rfl ?_
    refine mX_ck (k' := 8) (ls' := [some (.ref a0), some (.int a1), some (.int a2), none]) (st' := [.ref (gR h1 a0 2)]) (h' := h1) rfl ?_
    refine mX_to 1 (k' := 9) (ls' := [some (.ref a0), some (.int a1), some (.int a2), none]) (st' := [.int a1, .ref (gR h1 a0 2)]) (h' := h1) rfl ?_
    refine mX_ck (k' := 10) (ls' := [some (.ref a0), some (.int a1), some (.int a2), none]) (st' := [.int (gI h1 (gR h1 a0 2) (ix a1))]) (h' := h1) rfl ?_
    refine mX_to 1 (k' := 11) (ls' := [some (.ref a0), some (.int a1), some (.int a2), none]) (st' := [.int a2, .int (gI h1 (gR h1 a0 2) (ix a1))]) (h' := h1) rfl ?_
    refine mX_br (t := 14) (f := 12) (ls' := [some (.ref a0), some (.int a1), some (.int a2), none]) (st' := [.int (gI h1 (gR h1 a0 2) (ix a1))]) (h' := h1) rfl ?_ ?_
    · refine mX_to 1 (k' := 15) (ls' := [some (.ref a0), some (.int a1), some (.int a2), none]) (st' := [.int (-1), .int (gI h1 (gR h1 a0 2) (ix a1))]) (h' := h1) rfl ?_
      rfl
    · refine mX_to 2 (k' := 15) (ls' := [some (.ref a0), some (.int a1), some (.int a2), none]) (st' := [.int 1, .int (gI h1 (gR h1 a0 2) (ix a1))]) (h' := h1) rfl ?_
      rfl
theorem D_X9_tipNow_4 (d : Nat) (h : MH) (l0 : Nat) (l1 : Int32) (l2 : Int32) : mX (mE mtab d) KX9_tipNow 4 [some (.ref l0), some (.int l1), some (.int l2)] [] h = ck (kd h l0 = 10) ((if l2 < (gI h l0 0) then ck (kd h l0 = 10) (ck ((kd h (gR h l0 1) = 20 ∨ kd h (gR h l0 1) = 24) ∧ ib l2 (ln h (gR h l0 1))) (ck (kd h l0 = 10) (ck ((kd h (gR h l0 2) = 20 ∨ kd h (gR h l0 2) = 24) ∧ ib l2 (ln h (gR h l0 2))) (lt_ (l1 + ((gI h (gR h l0 1) (ix l2)) * ((gI h (gR h l0 2) (ix l2)) - 4))) fun v1 => mX (mE mtab d) KX9_tipNow 4 [some (.ref l0), some (.int v1), some (.int (l2 + 1))] [] h)))) else mX (mE mtab d) KX9_tipNow 26 [some (.ref l0), some (.int l1), some (.int 0)] [] h)) := by
  refine mX_to 2 (k' := 6) (ls' := [some (.ref l0), some (.int l1), some (.int l2)]) (st' := [.ref l0, .int l2]) (h' := h) rfl ?_
  refine mX_ck (k' := 7) (ls' := [some (.ref l0), some (.int l1), some (.int l2)]) (st' := [.int (gI h l0 0), .int l2]) (h' := h) rfl ?_
  refine mX_br (t := 8) (f := 24) (ls' := [some (.ref l0), some (.int l1), some (.int l2)]) (st' := []) (h' := h) rfl ?_ ?_
  · refine mX_to 2 (k' := 10) (ls' := [some (.ref l0), some (.int l1), some (.int l2)]) (st' := [.ref l0, .int l1]) (h' := h) rfl ?_
    refine mX_ck (k' := 11) (ls' := [some (.ref l0), some (.int l1), some (.int l2)]) (st' := [.ref (gR h l0 1), .int l1]) (h' := h) rfl ?_
    refine mX_to 1 (k' := 12) (ls' := [some (.ref l0), some (.int l1), some (.int l2)]) (st' := [.int l2, .ref (gR h l0 1), .int l1]) (h' := h) rfl ?_
    refine mX_ck (k' := 13) (ls' := [some (.ref l0), some (.int l1), some (.int l2)]) (st' := [.int (gI h (gR h l0 1) (ix l2)), .int l1]) (h' := h) rfl ?_
    refine mX_to 1 (k' := 14) (ls' := [some (.ref l0), some (.int l1), some (.int l2)]) (st' := [.ref l0, .int (gI h (gR h l0 1) (ix l2)), .int l1]) (h' := h) rfl ?_
    refine mX_ck (k' := 15) (ls' := [some (.ref l0), some (.int l1), some (.int l2)]) (st' := [.ref (gR h l0 2), .int (gI h (gR h l0 1) (ix l2)), .int l1]) (h' := h) rfl ?_
    refine mX_to 1 (k' := 16) (ls' := [some (.ref l0), some (.int l1), some (.int l2)]) (st' := [.int l2, .ref (gR h l0 2), .int (gI h (gR h l0 1) (ix l2)), .int l1]) (h' := h) rfl ?_
    refine mX_ck (k' := 17) (ls' := [some (.ref l0), some (.int l1), some (.int l2)]) (st' := [.int (gI h (gR h l0 2) (ix l2)), .int (gI h (gR h l0 1) (ix l2)), .int l1]) (h' := h) rfl ?_
    refine mX_to 4 (k' := 21) (ls' := [some (.ref l0), some (.int l1), some (.int l2)]) (st' := [.int (l1 + ((gI h (gR h l0 1) (ix l2)) * ((gI h (gR h l0 2) (ix l2)) - 4)))]) (h' := h) rfl ?_
    refine lt_gen (X := fun v1 : Int32 => mX (mE mtab d) KX9_tipNow 21 [some (.ref l0), some (.int l1), some (.int l2)] [.int v1] h) fun v1 => ?_
    refine mX_to 3 (k' := 4) (ls' := [some (.ref l0), some (.int v1), some (.int (l2 + 1))]) (st' := []) (h' := h) rfl ?_
    rfl
  · refine mX_to 2 (k' := 26) (ls' := [some (.ref l0), some (.int l1), some (.int 0)]) (st' := []) (h' := h) rfl ?_
    rfl
theorem D_X9_tipNow_26 (d : Nat) (h : MH) (l0 : Nat) (l1 : Int32) (l2 : Int32) : mX (mE mtab d) KX9_tipNow 26 [some (.ref l0), some (.int l1), some (.int l2)] [] h = (if l2 < 9 then ck (kd h l0 = 10) (ck ((kd h (gR h l0 4) = 20 ∨ kd h (gR h l0 4) = 24) ∧ ib l2 (ln h (gR h l0 4))) (lt_ (l1 + ((gI h (gR h l0 4) (ix l2)) * (l2 - 4))) fun v3 => mX (mE mtab d) KX9_tipNow 26 [some (.ref l0), some (.int v3), some (.int (l2 + 1))] [] h)) else some (.int l1, h)) := by
  refine mX_to 2 (k' := 28) (ls' := [some (.ref l0), some (.int l1), some (.int l2)]) (st' := [.int 9, .int l2]) (h' := h) rfl ?_
  refine mX_br (t := 29) (f := 42) (ls' := [some (.ref l0), some (.int l1), some (.int l2)]) (st' := []) (h' := h) rfl ?_ ?_
  · refine mX_to 2 (k' := 31) (ls' := [some (.ref l0), some (.int l1), some (.int l2)]) (st' := [.ref l0, .int l1]) (h' := h) rfl ?_
    refine mX_ck (k' := 32) (ls' := [some (.ref l0), some (.int l1), some (.int l2)]) (st' := [.ref (gR h l0 4), .int l1]) (h' := h) rfl ?_
    refine mX_to 1 (k' := 33) (ls' := [some (.ref l0), some (.int l1), some (.int l2)]) (st' := [.int l2, .ref (gR h l0 4), .int l1]) (h' := h) rfl ?_
    refine mX_ck (k' := 34) (ls' := [some (.ref l0), some (.int l1), some (.int l2)]) (st' := [.int (gI h (gR h l0 4) (ix l2)), .int l1]) (h' := h) rfl ?_
    refine mX_to 5 (k' := 39) (ls' := [some (.ref l0), some (.int l1), some (.int l2)]) (st' := [.int (l1 + ((gI h (gR h l0 4) (ix l2)) * (l2 - 4)))]) (h' := h) rfl ?_
    refine lt_gen (X := fun v3 : Int32 => mX (mE mtab d) KX9_tipNow 39 [some (.ref l0), some (.int l1), some (.int l2)] [.int v3] h) fun v3 => ?_
    refine mX_to 3 (k' := 26) (ls' := [some (.ref l0), some (.int v3), some (.int (l2 + 1))]) (st' := []) (h' := h) rfl ?_
    rfl
  · refine mX_to 1 (k' := 43) (ls' := [some (.ref l0), some (.int l1), some (.int l2)]) (st' := [.int l1]) (h' := h) rfl ?_
    exact mX_reti rfl
theorem D_X9_tipNow (d : Nat) (h : MH) (a0 : Nat) : mE mtab (d + 1) 139 [.ref a0] h = mX (mE mtab d) KX9_tipNow 4 [some (.ref a0), some (.int 0), some (.int 0)] [] h := by
  refine mE_eq (q := (yX9_tipNow, cX9_tipNow, 3, (some .int), KX9_tipNow)) (C := KX9_tipNow) (ls := [some (.ref a0), none, none]) rfl rfl rfl rfl ?_
  refine mX_to 4 (k' := 4) (ls' := [some (.ref a0), some (.int 0), some (.int 0)]) (st' := []) (h' := h) rfl ?_
  rfl
theorem D_X9_tellNames_6 (d : Nat) (h : MH) (l0 : Nat) (l1 : Int32) (l2 : Int32) (l3 : Int32) (l4 : Int32) : mX (mE mtab d) KX9_tellNames 6 [some (.ref l0), some (.int l1), some (.int l2), some (.int l3), some (.int l4), none] [] h = ck (kd h l0 = 10) ((if l4 < (gI h l0 0) then ck (kd h l0 = 10) (ck ((kd h (gR h l0 1) = 20 ∨ kd h (gR h l0 1) = 24) ∧ ib l4 (ln h (gR h l0 1))) (ck (kd h l0 = 10) (ck ((kd h (gR h l0 2) = 20 ∨ kd h (gR h l0 2) = 24) ∧ ib l4 (ln h (gR h l0 2))) (lt_ (l2 + ((gI h (gR h l0 1) (ix l4)) * ((gI h (gR h l0 2) (ix l4)) - 4))) fun v1 => ck (kd h l0 = 10) (ck ((kd h (gR h l0 1) = 20 ∨ kd h (gR h l0 1) = 24) ∧ ib l4 (ln h (gR h l0 1))) (lt_ (l3 + (gI h (gR h l0 1) (ix l4))) fun v2 => mX (mE mtab d) KX9_tellNames 6 [some (.ref l0), some (.int l1), some (.int v1), some (.int v2), some (.int (l4 + 1)), none] [] h)))))) else mX (mE mtab d) KX9_tellNames 37 [some (.ref l0), some (.int l1), some (.int l2), some (.int l3), some (.int 0), some (.int 0)] [] h)) := by
  refine mX_to 2 (k' := 8) (ls' := [some (.ref l0), some (.int l1), some (.int l2), some (.int l3), some (.int l4), none]) (st' := [.ref l0, .int l4]) (h' := h) rfl ?_
  refine mX_ck (k' := 9) (ls' := [some (.ref l0), some (.int l1), some (.int l2), some (.int l3), some (.int l4), none]) (st' := [.int (gI h l0 0), .int l4]) (h' := h) rfl ?_
  refine mX_br (t := 10) (f := 33) (ls' := [some (.ref l0), some (.int l1), some (.int l2), some (.int l3), some (.int l4), none]) (st' := []) (h' := h) rfl ?_ ?_
  · refine mX_to 2 (k' := 12) (ls' := [some (.ref l0), some (.int l1), some (.int l2), some (.int l3), some (.int l4), none]) (st' := [.ref l0, .int l2]) (h' := h) rfl ?_
    refine mX_ck (k' := 13) (ls' := [some (.ref l0), some (.int l1), some (.int l2), some (.int l3), some (.int l4), none]) (st' := [.ref (gR h l0 1), .int l2]) (h' := h) rfl ?_
    refine mX_to 1 (k' := 14) (ls' := [some (.ref l0), some (.int l1), some (.int l2), some (.int l3), some (.int l4), none]) (st' := [.int l4, .ref (gR h l0 1), .int l2]) (h' := h) rfl ?_
    refine mX_ck (k' := 15) (ls' := [some (.ref l0), some (.int l1), some (.int l2), some (.int l3), some (.int l4), none]) (st' := [.int (gI h (gR h l0 1) (ix l4)), .int l2]) (h' := h) rfl ?_
    refine mX_to 1 (k' := 16) (ls' := [some (.ref l0), some (.int l1), some (.int l2), some (.int l3), some (.int l4), none]) (st' := [.ref l0, .int (gI h (gR h l0 1) (ix l4)), .int l2]) (h' := h) rfl ?_
    refine mX_ck (k' := 17) (ls' := [some (.ref l0), some (.int l1), some (.int l2), some (.int l3), some (.int l4), none]) (st' := [.ref (gR h l0 2), .int (gI h (gR h l0 1) (ix l4)), .int l2]) (h' := h) rfl ?_
    refine mX_to 1 (k' := 18) (ls' := [some (.ref l0), some (.int l1), some (.int l2), some (.int l3), some (.int l4), none]) (st' := [.int l4, .ref (gR h l0 2), .int (gI h (gR h l0 1) (ix l4)), .int l2]) (h' := h) rfl ?_
    refine mX_ck (k' := 19) (ls' := [some (.ref l0), some (.int l1), some (.int l2), some (.int l3), some (.int l4), none]) (st' := [.int (gI h (gR h l0 2) (ix l4)), .int (gI h (gR h l0 1) (ix l4)), .int l2]) (h' := h) rfl ?_
    refine mX_to 4 (k' := 23) (ls' := [some (.ref l0), some (.int l1), some (.int l2), some (.int l3), some (.int l4), none]) (st' := [.int (l2 + ((gI h (gR h l0 1) (ix l4)) * ((gI h (gR h l0 2) (ix l4)) - 4)))]) (h' := h) rfl ?_
    refine lt_gen (X := fun v1 : Int32 => mX (mE mtab d) KX9_tellNames 23 [some (.ref l0), some (.int l1), some (.int l2), some (.int l3), some (.int l4), none] [.int v1] h) fun v1 => ?_
    refine mX_to 3 (k' := 26) (ls' := [some (.ref l0), some (.int l1), some (.int v1), some (.int l3), some (.int l4), none]) (st' := [.ref l0, .int l3]) (h' := h) rfl ?_
    refine mX_ck (k' := 27) (ls' := [some (.ref l0), some (.int l1), some (.int v1), some (.int l3), some (.int l4), none]) (st' := [.ref (gR h l0 1), .int l3]) (h' := h) rfl ?_
    refine mX_to 1 (k' := 28) (ls' := [some (.ref l0), some (.int l1), some (.int v1), some (.int l3), some (.int l4), none]) (st' := [.int l4, .ref (gR h l0 1), .int l3]) (h' := h) rfl ?_
    refine mX_ck (k' := 29) (ls' := [some (.ref l0), some (.int l1), some (.int v1), some (.int l3), some (.int l4), none]) (st' := [.int (gI h (gR h l0 1) (ix l4)), .int l3]) (h' := h) rfl ?_
    refine mX_to 1 (k' := 30) (ls' := [some (.ref l0), some (.int l1), some (.int v1), some (.int l3), some (.int l4), none]) (st' := [.int (l3 + (gI h (gR h l0 1) (ix l4)))]) (h' := h) rfl ?_
    refine lt_gen (X := fun v2 : Int32 => mX (mE mtab d) KX9_tellNames 30 [some (.ref l0), some (.int l1), some (.int v1), some (.int l3), some (.int l4), none] [.int v2] h) fun v2 => ?_
    refine mX_to 3 (k' := 6) (ls' := [some (.ref l0), some (.int l1), some (.int v1), some (.int v2), some (.int (l4 + 1)), none]) (st' := []) (h' := h) rfl ?_
    rfl
  · refine mX_to 4 (k' := 37) (ls' := [some (.ref l0), some (.int l1), some (.int l2), some (.int l3), some (.int 0), some (.int 0)]) (st' := []) (h' := h) rfl ?_
    rfl
theorem D_X9_tellNames_37 (d : Nat) (h : MH) (l0 : Nat) (l1 : Int32) (l2 : Int32) (l3 : Int32) (l4 : Int32) (l5 : Int32) : mX (mE mtab d) KX9_tellNames 37 [some (.ref l0), some (.int l1), some (.int l2), some (.int l3), some (.int l4), some (.int l5)] [] h = (if l5 < 9 then ck (kd h l0 = 10) (ck ((kd h (gR h l0 4) = 20 ∨ kd h (gR h l0 4) = 24) ∧ ib l5 (ln h (gR h l0 4))) (lt_ (l2 + ((gI h (gR h l0 4) (ix l5)) * (l5 - 4))) fun v4 => ck (kd h l0 = 10) (ck ((kd h (gR h l0 4) = 20 ∨ kd h (gR h l0 4) = 24) ∧ ib l5 (ln h (gR h l0 4))) (lt_ (l4 + (gI h (gR h l0 4) (ix l5))) fun v5 => mX (mE mtab d) KX9_tellNames 37 [some (.ref l0), some (.int l1), some (.int v4), some (.int l3), some (.int v5), some (.int (l5 + 1))] [] h)))) else ck (kd h l0 = 10) (ck (kd h l0 = 10) (ck (kd h (gR h l0 10) = 20 ∧ ib (0 : Int32) (ln h (gR h l0 10))) (lt_ (sI h (gR h l0 10) (ix (0 : Int32)) (gI h l0 5)) fun h7 => ck (kd h7 l0 = 10) (ck (kd h7 (gR h7 l0 10) = 20 ∧ ib (1 : Int32) (ln h7 (gR h7 l0 10))) (lt_ (sI h7 (gR h7 l0 10) (ix (1 : Int32)) l2) fun h8 => ck (kd h8 l0 = 10) (ck (kd h8 (gR h8 l0 10) = 20 ∧ ib (2 : Int32) (ln h8 (gR h8 l0 10))) (lt_ (sI h8 (gR h8 l0 10) (ix (2 : Int32)) (l3 + l4)) fun h9 => ck (kd h9 l0 = 10) (ck (kd h9 (gR h9 l0 10) = 20 ∧ ib (3 : Int32) (ln h9 (gR h9 l0 10))) (lt_ (sI h9 (gR h9 l0 10) (ix (3 : Int32)) l4) fun h10 => (if l1 < 0 then mX (mE mtab d) KX9_tellNames 91 [some (.ref l0), some (.int l1), some (.int l2), some (.int l3), some (.int l4), some (.int l5)] [] h10 else ck (kd h10 l0 = 10) ((if l1 < (gI h10 l0 0) then mX (mE mtab d) KX9_tellNames 92 [some (.ref l0), some (.int l1), some (.int l2), some (.int l3), some (.int l4), some (.int l5)] [.int 1] h10 else mX (mE mtab d) KX9_tellNames 91 [some (.ref l0), some (.int l1), some (.int l2), some (.int l3), some (.int l4), some (.int l5)] [] h10))))))))))))) := by
  refine mX_to 2 (k' := 39) (ls' := [some (.ref l0), some (.int l1), some (.int l2), some (.int l3), some (.int l4), some (.int l5)]) (st' := [.int 9, .int l5]) (h' := h) rfl ?_
  refine mX_br (t := 40) (f := 60) (ls' := [some (.ref l0), some (.int l1), some (.int l2), some (.int l3), some (.int l4), some (.int l5)]) (st' := []) (h' := h) rfl ?_ ?_
  · refine mX_to 2 (k' := 42) (ls' := [some (.ref l0), some (.int l1), some (.int l2), some (.int l3), some (.int l4), some (.int l5)]) (st' := [.ref l0, .int l2]) (h' := h) rfl ?_
    refine mX_ck (k' := 43) (ls' := [some (.ref l0), some (.int l1), some (.int l2), some (.int l3), some (.int l4), some (.int l5)]) (st' := [.ref (gR h l0 4), .int l2]) (h' := h) rfl ?_
    refine mX_to 1 (k' := 44) (ls' := [some (.ref l0), some (.int l1), some (.int l2), some (.int l3), some (.int l4), some (.int l5)]) (st' := [.int l5, .ref (gR h l0 4), .int l2]) (h' := h) rfl ?_
    refine mX_ck (k' := 45) (ls' := [some (.ref l0), some (.int l1), some (.int l2), some (.int l3), some (.int l4), some (.int l5)]) (st' := [.int (gI h (gR h l0 4) (ix l5)), .int l2]) (h' := h) rfl ?_
    refine mX_to 5 (k' := 50) (ls' := [some (.ref l0), some (.int l1), some (.int l2), some (.int l3), some (.int l4), some (.int l5)]) (st' := [.int (l2 + ((gI h (gR h l0 4) (ix l5)) * (l5 - 4)))]) (h' := h) rfl ?_
    refine lt_gen (X := fun v4 : Int32 => mX (mE mtab d) KX9_tellNames 50 [some (.ref l0), some (.int l1), some (.int l2), some (.int l3), some (.int l4), some (.int l5)] [.int v4] h) fun v4 => ?_
    refine mX_to 3 (k' := 53) (ls' := [some (.ref l0), some (.int l1), some (.int v4), some (.int l3), some (.int l4), some (.int l5)]) (st' := [.ref l0, .int l4]) (h' := h) rfl ?_
    refine mX_ck (k' := 54) (ls' := [some (.ref l0), some (.int l1), some (.int v4), some (.int l3), some (.int l4), some (.int l5)]) (st' := [.ref (gR h l0 4), .int l4]) (h' := h) rfl ?_
    refine mX_to 1 (k' := 55) (ls' := [some (.ref l0), some (.int l1), some (.int v4), some (.int l3), some (.int l4), some (.int l5)]) (st' := [.int l5, .ref (gR h l0 4), .int l4]) (h' := h) rfl ?_
    refine mX_ck (k' := 56) (ls' := [some (.ref l0), some (.int l1), some (.int v4), some (.int l3), some (.int l4), some (.int l5)]) (st' := [.int (gI h (gR h l0 4) (ix l5)), .int l4]) (h' := h) rfl ?_
    refine mX_to 1 (k' := 57) (ls' := [some (.ref l0), some (.int l1), some (.int v4), some (.int l3), some (.int l4), some (.int l5)]) (st' := [.int (l4 + (gI h (gR h l0 4) (ix l5)))]) (h' := h) rfl ?_
    refine lt_gen (X := fun v5 : Int32 => mX (mE mtab d) KX9_tellNames 57 [some (.ref l0), some (.int l1), some (.int v4), some (.int l3), some (.int l4), some (.int l5)] [.int v5] h) fun v5 => ?_
    refine mX_to 3 (k' := 37) (ls' := [some (.ref l0), some (.int l1), some (.int v4), some (.int l3), some (.int v5), some (.int (l5 + 1))]) (st' := []) (h' := h) rfl ?_
    rfl
  · refine mX_to 1 (k' := 61) (ls' := [some (.ref l0), some (.int l1), some (.int l2), some (.int l3), some (.int l4), some (.int l5)]) (st' := [.ref l0]) (h' := h) rfl ?_
    refine mX_ck (k' := 62) (ls' := [some (.ref l0), some (.int l1), some (.int l2), some (.int l3), some (.int l4), some (.int l5)]) (st' := [.ref (gR h l0 10)]) (h' := h) rfl ?_
    refine mX_to 2 (k' := 64) (ls' := [some (.ref l0), some (.int l1), some (.int l2), some (.int l3), some (.int l4), some (.int l5)]) (st' := [.ref l0, .int 0, .ref (gR h l0 10)]) (h' := h) rfl ?_
    refine mX_ck (k' := 65) (ls' := [some (.ref l0), some (.int l1), some (.int l2), some (.int l3), some (.int l4), some (.int l5)]) (st' := [.int (gI h l0 5), .int 0, .ref (gR h l0 10)]) (h' := h) rfl ?_
    refine mX_ck (k' := 66) (ls' := [some (.ref l0), some (.int l1), some (.int l2), some (.int l3), some (.int l4), some (.int l5)]) (st' := []) (h' := (sI h (gR h l0 10) (ix (0 : Int32)) (gI h l0 5))) rfl ?_
    refine lt_gen (X := fun h7 : MH => mX (mE mtab d) KX9_tellNames 66 [some (.ref l0), some (.int l1), some (.int l2), some (.int l3), some (.int l4), some (.int l5)] [] h7) fun h7 => ?_
    refine mX_to 1 (k' := 67) (ls' := [some (.ref l0), some (.int l1), some (.int l2), some (.int l3), some (.int l4), some (.int l5)]) (st' := [.ref l0]) (h' := h7) rfl ?_
    refine mX_ck (k' := 68) (ls' := [some (.ref l0), some (.int l1), some (.int l2), some (.int l3), some (.int l4), some (.int l5)]) (st' := [.ref (gR h7 l0 10)]) (h' := h7) rfl ?_
    refine mX_to 2 (k' := 70) (ls' := [some (.ref l0), some (.int l1), some (.int l2), some (.int l3), some (.int l4), some (.int l5)]) (st' := [.int l2, .int 1, .ref (gR h7 l0 10)]) (h' := h7) rfl ?_
    refine mX_ck (k' := 71) (ls' := [some (.ref l0), some (.int l1), some (.int l2), some (.int l3), some (.int l4), some (.int l5)]) (st' := []) (h' := (sI h7 (gR h7 l0 10) (ix (1 : Int32)) l2)) rfl ?_
    refine lt_gen (X := fun h8 : MH => mX (mE mtab d) KX9_tellNames 71 [some (.ref l0), some (.int l1), some (.int l2), some (.int l3), some (.int l4), some (.int l5)] [] h8) fun h8 => ?_
    refine mX_to 1 (k' := 72) (ls' := [some (.ref l0), some (.int l1), some (.int l2), some (.int l3), some (.int l4), some (.int l5)]) (st' := [.ref l0]) (h' := h8) rfl ?_
    refine mX_ck (k' := 73) (ls' := [some (.ref l0), some (.int l1), some (.int l2), some (.int l3), some (.int l4), some (.int l5)]) (st' := [.ref (gR h8 l0 10)]) (h' := h8) rfl ?_
    refine mX_to 4 (k' := 77) (ls' := [some (.ref l0), some (.int l1), some (.int l2), some (.int l3), some (.int l4), some (.int l5)]) (st' := [.int (l3 + l4), .int 2, .ref (gR h8 l0 10)]) (h' := h8) rfl ?_
    refine mX_ck (k' := 78) (ls' := [some (.ref l0), some (.int l1), some (.int l2), some (.int l3), some (.int l4), some (.int l5)]) (st' := []) (h' := (sI h8 (gR h8 l0 10) (ix (2 : Int32)) (l3 + l4))) rfl ?_
    refine lt_gen (X := fun h9 : MH => mX (mE mtab d) KX9_tellNames 78 [some (.ref l0), some (.int l1), some (.int l2), some (.int l3), some (.int l4), some (.int l5)] [] h9) fun h9 => ?_
    refine mX_to 1 (k' := 79) (ls' := [some (.ref l0), some (.int l1), some (.int l2), some (.int l3), some (.int l4), some (.int l5)]) (st' := [.ref l0]) (h' := h9) rfl ?_
    refine mX_ck (k' := 80) (ls' := [some (.ref l0), some (.int l1), some (.int l2), some (.int l3), some (.int l4), some (.int l5)]) (st' := [.ref (gR h9 l0 10)]) (h' := h9) rfl ?_
    refine mX_to 2 (k' := 82) (ls' := [some (.ref l0), some (.int l1), some (.int l2), some (.int l3), some (.int l4), some (.int l5)]) (st' := [.int l4, .int 3, .ref (gR h9 l0 10)]) (h' := h9) rfl ?_
    refine mX_ck (k' := 83) (ls' := [some (.ref l0), some (.int l1), some (.int l2), some (.int l3), some (.int l4), some (.int l5)]) (st' := []) (h' := (sI h9 (gR h9 l0 10) (ix (3 : Int32)) l4)) rfl ?_
    refine lt_gen (X := fun h10 : MH => mX (mE mtab d) KX9_tellNames 83 [some (.ref l0), some (.int l1), some (.int l2), some (.int l3), some (.int l4), some (.int l5)] [] h10) fun h10 => ?_
    refine mX_to 1 (k' := 84) (ls' := [some (.ref l0), some (.int l1), some (.int l2), some (.int l3), some (.int l4), some (.int l5)]) (st' := [.int l1]) (h' := h10) rfl ?_
    refine mX_br (t := 91) (f := 85) (ls' := [some (.ref l0), some (.int l1), some (.int l2), some (.int l3), some (.int l4), some (.int l5)]) (st' := []) (h' := h10) rfl ?_ ?_
    · rfl
    · refine mX_to 2 (k' := 87) (ls' := [some (.ref l0), some (.int l1), some (.int l2), some (.int l3), some (.int l4), some (.int l5)]) (st' := [.ref l0, .int l1]) (h' := h10) rfl ?_
      refine mX_ck (k' := 88) (ls' := [some (.ref l0), some (.int l1), some (.int l2), some (.int l3), some (.int l4), some (.int l5)]) (st' := [.int (gI h10 l0 0), .int l1]) (h' := h10) rfl ?_
      refine mX_br (t := 89) (f := 91) (ls' := [some (.ref l0), some (.int l1), some (.int l2), some (.int l3), some (.int l4), some (.int l5)]) (st' := []) (h' := h10) rfl ?_ ?_
      · refine mX_to 2 (k' := 92) (ls' := [some (.ref l0), some (.int l1), some (.int l2), some (.int l3), some (.int l4), some (.int l5)]) (st' := [.int 1]) (h' := h10) rfl ?_
        rfl
      · rfl
theorem D_X9_tellNames_91 (d : Nat) (h : MH) (l0 : Nat) (l1 : Int32) (l2 : Int32) (l3 : Int32) (l4 : Int32) (l5 : Int32) : mX (mE mtab d) KX9_tellNames 91 [some (.ref l0), some (.int l1), some (.int l2), some (.int l3), some (.int l4), some (.int l5)] [] h = mX (mE mtab d) KX9_tellNames 92 [some (.ref l0), some (.int l1), some (.int l2), some (.int l3), some (.int l4), some (.int l5)] [.int 0] h := by
  refine mX_to 1 (k' := 92) (ls' := [some (.ref l0), some (.int l1), some (.int l2), some (.int l3), some (.int l4), some (.int l5)]) (st' := [.int 0]) (h' := h) rfl ?_
  rfl
theorem D_X9_tellNames_92 (d : Nat) (h : MH) (l0 : Nat) (l1 : Int32) (l2 : Int32) (l3 : Int32) (l4 : Int32) (l5 : Int32) (s0 : Int32) : mX (mE mtab d) KX9_tellNames 92 [some (.ref l0), some (.int l1), some (.int l2), some (.int l3), some (.int l4), some (.int l5)] [.int s0] h = ck (kd h l0 = 10) ((if s0 = 0 then mX (mE mtab d) KX9_tellNames 101 [some (.ref l0), some (.int l1), some (.int l2), some (.int l3), some (.int l4), some (.int s0)] [.int 0, .int 4, .ref (gR h l0 10)] h else mX (mE mtab d) KX9_tellNames 101 [some (.ref l0), some (.int l1), some (.int l2), some (.int l3), some (.int l4), some (.int s0)] [.int l1, .int 4, .ref (gR h l0 10)] h)) := by
  refine mX_to 2 (k' := 94) (ls' := [some (.ref l0), some (.int l1), some (.int l2), some (.int l3), some (.int l4), some (.int s0)]) (st' := [.ref l0]) (h' := h) rfl ?_
  refine mX_ck (k' := 95) (ls' := [some (.ref l0), some (.int l1), some (.int l2), some (.int l3), some (.int l4), some (.int s0)]) (st' := [.ref (gR h l0 10)]) (h' := h) rfl ?_
  refine mX_to 2 (k' := 97) (ls' := [some (.ref l0), some (.int l1), some (.int l2), some (.int l3), some (.int l4), some (.int s0)]) (st' := [.int s0, .int 4, .ref (gR h l0 10)]) (h' := h) rfl ?_
  refine mX_br (t := 100) (f := 98) (ls' := [some (.ref l0), some (.int l1), some (.int l2), some (.int l3), some (.int l4), some (.int s0)]) (st' := [.int 4, .ref (gR h l0 10)]) (h' := h) rfl ?_ ?_
  · refine mX_to 1 (k' := 101) (ls' := [some (.ref l0), some (.int l1), some (.int l2), some (.int l3), some (.int l4), some (.int s0)]) (st' := [.int 0, .int 4, .ref (gR h l0 10)]) (h' := h) rfl ?_
    rfl
  · refine mX_to 2 (k' := 101) (ls' := [some (.ref l0), some (.int l1), some (.int l2), some (.int l3), some (.int l4), some (.int s0)]) (st' := [.int l1, .int 4, .ref (gR h l0 10)]) (h' := h) rfl ?_
    rfl
theorem D_X9_tellNames_101 (d : Nat) (h : MH) (l0 : Nat) (l1 : Int32) (l2 : Int32) (l3 : Int32) (l4 : Int32) (l5 : Int32) (s0 : Int32) (s1 : Int32) (s2 : Nat) : mX (mE mtab d) KX9_tellNames 101 [some (.ref l0), some (.int l1), some (.int l2), some (.int l3), some (.int l4), some (.int l5)] [.int s0, .int s1, .ref s2] h = ck (kd h s2 = 20 ∧ ib s1 (ln h s2)) (lt_ (sI h s2 (ix s1) s0) fun h11 => ck (kd h11 l0 = 10) ((if l5 = 0 then mX (mE mtab d) KX9_tellNames 113 [some (.ref l0), some (.int l1), some (.int l2), some (.int l3), some (.int l4), some (.int l5)] [.int 0, .int 5, .ref (gR h11 l0 10)] h11 else ck (kd h11 l0 = 10) (ck ((kd h11 (gR h11 l0 1) = 20 ∨ kd h11 (gR h11 l0 1) = 24) ∧ ib l1 (ln h11 (gR h11 l0 1))) (mX (mE mtab d) KX9_tellNames 113 [some (.ref l0), some (.int l1), some (.int l2), some (.int l3), some (.int l4), some (.int l5)] [.int (gI h11 (gR h11 l0 1) (ix l1)), .int 5, .ref (gR h11 l0 10)] h11))))) := by
  refine mX_ck (k' := 102) (ls' := [some (.ref l0), some (.int l1), some (.int l2), some (.int l3), some (.int l4), some (.int l5)]) (st' := []) (h' := (sI h s2 (ix s1) s0)) rfl ?_
  refine lt_gen (X := fun h11 : MH => mX (mE mtab d) KX9_tellNames 102 [some (.ref l0), some (.int l1), some (.int l2), some (.int l3), some (.int l4), some (.int l5)] [] h11) fun h11 => ?_
  refine mX_to 1 (k' := 103) (ls' := [some (.ref l0), some (.int l1), some (.int l2), some (.int l3), some (.int l4), some (.int l5)]) (st' := [.ref l0]) (h' := h11) rfl ?_
  refine mX_ck (k' := 104) (ls' := [some (.ref l0), some (.int l1), some (.int l2), some (.int l3), some (.int l4), some (.int l5)]) (st' := [.ref (gR h11 l0 10)]) (h' := h11) rfl ?_
  refine mX_to 2 (k' := 106) (ls' := [some (.ref l0), some (.int l1), some (.int l2), some (.int l3), some (.int l4), some (.int l5)]) (st' := [.int l5, .int 5, .ref (gR h11 l0 10)]) (h' := h11) rfl ?_
  refine mX_br (t := 112) (f := 107) (ls' := [some (.ref l0), some (.int l1), some (.int l2), some (.int l3), some (.int l4), some (.int l5)]) (st' := [.int 5, .ref (gR h11 l0 10)]) (h' := h11) rfl ?_ ?_
  · refine mX_to 1 (k' := 113) (ls' := [some (.ref l0), some (.int l1), some (.int l2), some (.int l3), some (.int l4), some (.int l5)]) (st' := [.int 0, .int 5, .ref (gR h11 l0 10)]) (h' := h11) rfl ?_
    rfl
  · refine mX_to 1 (k' := 108) (ls' := [some (.ref l0), some (.int l1), some (.int l2), some (.int l3), some (.int l4), some (.int l5)]) (st' := [.ref l0, .int 5, .ref (gR h11 l0 10)]) (h' := h11) rfl ?_
    refine mX_ck (k' := 109) (ls' := [some (.ref l0), some (.int l1), some (.int l2), some (.int l3), some (.int l4), some (.int l5)]) (st' := [.ref (gR h11 l0 1), .int 5, .ref (gR h11 l0 10)]) (h' := h11) rfl ?_
    refine mX_to 1 (k' := 110) (ls' := [some (.ref l0), some (.int l1), some (.int l2), some (.int l3), some (.int l4), some (.int l5)]) (st' := [.int l1, .ref (gR h11 l0 1), .int 5, .ref (gR h11 l0 10)]) (h' := h11) rfl ?_
    refine mX_ck (k' := 111) (ls' := [some (.ref l0), some (.int l1), some (.int l2), some (.int l3), some (.int l4), some (.int l5)]) (st' := [.int (gI h11 (gR h11 l0 1) (ix l1)), .int 5, .ref (gR h11 l0 10)]) (h' := h11) rfl ?_
    refine mX_to 1 (k' := 113) (ls' := [some (.ref l0), some (.int l1), some (.int l2), some (.int l3), some (.int l4), some (.int l5)]) (st' := [.int (gI h11 (gR h11 l0 1) (ix l1)), .int 5, .ref (gR h11 l0 10)]) (h' := h11) rfl ?_
    rfl
theorem D_X9_tellNames_113 (d : Nat) (h : MH) (l0 : Nat) (l1 : Int32) (l2 : Int32) (l3 : Int32) (l4 : Int32) (l5 : Int32) (s0 : Int32) (s1 : Int32) (s2 : Nat) : mX (mE mtab d) KX9_tellNames 113 [some (.ref l0), some (.int l1), some (.int l2), some (.int l3), some (.int l4), some (.int l5)] [.int s0, .int s1, .ref s2] h = ck (kd h s2 = 20 ∧ ib s1 (ln h s2)) (lt_ (sI h s2 (ix s1) s0) fun h12 => ck (kd h12 l0 = 10) ((if l5 = 0 then mX (mE mtab d) KX9_tellNames 125 [some (.ref l0), some (.int l1), some (.int l2), some (.int l3), some (.int l4), some (.int l5)] [.int 0, .int 6, .ref (gR h12 l0 10)] h12 else ck (kd h12 l0 = 10) (ck ((kd h12 (gR h12 l0 2) = 20 ∨ kd h12 (gR h12 l0 2) = 24) ∧ ib l1 (ln h12 (gR h12 l0 2))) (mX (mE mtab d) KX9_tellNames 125 [some (.ref l0), some (.int l1), some (.int l2), some (.int l3), some (.int l4), some (.int l5)] [.int (gI h12 (gR h12 l0 2) (ix l1)), .int 6, .ref (gR h12 l0 10)] h12))))) := by
  refine mX_ck (k' := 114) (ls' := [some (.ref l0), some (.int l1), some (.int l2), some (.int l3), some (.int l4), some (.int l5)]) (st' := []) (h' := (sI h s2 (ix s1) s0)) rfl ?_
  refine lt_gen (X := fun h12 : MH => mX (mE mtab d) KX9_tellNames 114 [some (.ref l0), some (.int l1), some (.int l2), some (.int l3), some (.int l4), some (.int l5)] [] h12) fun h12 => ?_
  refine mX_to 1 (k' := 115) (ls' := [some (.ref l0), some (.int l1), some (.int l2), some (.int l3), some (.int l4), some (.int l5)]) (st' := [.ref l0]) (h' := h12) rfl ?_
  refine mX_ck (k' := 116) (ls' := [some (.ref l0), some (.int l1), some (.int l2), some (.int l3), some (.int l4), some (.int l5)]) (st' := [.ref (gR h12 l0 10)]) (h' := h12) rfl ?_
  refine mX_to 2 (k' := 118) (ls' := [some (.ref l0), some (.int l1), some (.int l2), some (.int l3), some (.int l4), some (.int l5)]) (st' := [.int l5, .int 6, .ref (gR h12 l0 10)]) (h' := h12) rfl ?_
  refine mX_br (t := 124) (f := 119) (ls' := [some (.ref l0), some (.int l1), some (.int l2), some (.int l3), some (.int l4), some (.int l5)]) (st' := [.int 6, .ref (gR h12 l0 10)]) (h' := h12) rfl ?_ ?_
  · refine mX_to 1 (k' := 125) (ls' := [some (.ref l0), some (.int l1), some (.int l2), some (.int l3), some (.int l4), some (.int l5)]) (st' := [.int 0, .int 6, .ref (gR h12 l0 10)]) (h' := h12) rfl ?_
    rfl
  · refine mX_to 1 (k' := 120) (ls' := [some (.ref l0), some (.int l1), some (.int l2), some (.int l3), some (.int l4), some (.int l5)]) (st' := [.ref l0, .int 6, .ref (gR h12 l0 10)]) (h' := h12) rfl ?_
    refine mX_ck (k' := 121) (ls' := [some (.ref l0), some (.int l1), some (.int l2), some (.int l3), some (.int l4), some (.int l5)]) (st' := [.ref (gR h12 l0 2), .int 6, .ref (gR h12 l0 10)]) (h' := h12) rfl ?_
    refine mX_to 1 (k' := 122) (ls' := [some (.ref l0), some (.int l1), some (.int l2), some (.int l3), some (.int l4), some (.int l5)]) (st' := [.int l1, .ref (gR h12 l0 2), .int 6, .ref (gR h12 l0 10)]) (h' := h12) rfl ?_
    refine mX_ck (k' := 123) (ls' := [some (.ref l0), some (.int l1), some (.int l2), some (.int l3), some (.int l4), some (.int l5)]) (st' := [.int (gI h12 (gR h12 l0 2) (ix l1)), .int 6, .ref (gR h12 l0 10)]) (h' := h12) rfl ?_
    refine mX_to 1 (k' := 125) (ls' := [some (.ref l0), some (.int l1), some (.int l2), some (.int l3), some (.int l4), some (.int l5)]) (st' := [.int (gI h12 (gR h12 l0 2) (ix l1)), .int 6, .ref (gR h12 l0 10)]) (h' := h12) rfl ?_
    rfl
theorem D_X9_tellNames_125 (d : Nat) (h : MH) (l0 : Nat) (l1 : Int32) (l2 : Int32) (l3 : Int32) (l4 : Int32) (l5 : Int32) (s0 : Int32) (s1 : Int32) (s2 : Nat) : mX (mE mtab d) KX9_tellNames 125 [some (.ref l0), some (.int l1), some (.int l2), some (.int l3), some (.int l4), some (.int l5)] [.int s0, .int s1, .ref s2] h = ck (kd h s2 = 20 ∧ ib s1 (ln h s2)) (lt_ (sI h s2 (ix s1) s0) fun h13 => some (.int 0, h13)) := by
  refine mX_ck (k' := 126) (ls' := [some (.ref l0), some (.int l1), some (.int l2), some (.int l3), some (.int l4), some (.int l5)]) (st' := []) (h' := (sI h s2 (ix s1) s0)) rfl ?_
  refine lt_gen (X := fun h13 : MH => mX (mE mtab d) KX9_tellNames 126 [some (.ref l0), some (.int l1), some (.int l2), some (.int l3), some (.int l4), some (.int l5)] [] h13) fun h13 => ?_
  exact mX_ret rfl
theorem D_X9_tellNames (d : Nat) (h : MH) (a0 : Nat) (a1 : Int32) : mE mtab (d + 1) 140 [.ref a0, .int a1] h = mX (mE mtab d) KX9_tellNames 6 [some (.ref a0), some (.int a1), some (.int 0), some (.int 0), some (.int 0), none] [] h := by
  refine mE_eq (q := (yX9_tellNames, cX9_tellNames, 6, none, KX9_tellNames)) (C := KX9_tellNames) (ls := [some (.ref a0), some (.int a1), none, none, none, none]) rfl rfl rfl rfl ?_
  refine mX_to 6 (k' := 6) (ls' := [some (.ref a0), some (.int a1), some (.int 0), some (.int 0), some (.int 0), none]) (st' := []) (h' := h) rfl ?_
  rfl
theorem D_X9_weightAt_14 (d : Nat) (h : MH) (l0 : Nat) (l1 : Int32) (l2 : Int32) (l3 : Int32) : mX (mE mtab d) KX9_weightAt 14 [some (.ref l0), some (.int l1), some (.int l2), some (.int l3)] [] h = ck (kd h l0 = 10) ((if l3 < (gI h l0 0) then ck (kd h l0 = 10) (ck ((kd h (gR h l0 2) = 20 ∨ kd h (gR h l0 2) = 24) ∧ ib l3 (ln h (gR h l0 2))) ((if (gI h (gR h l0 2) (ix l3)) = l1 then ck (kd h l0 = 10) (ck ((kd h (gR h l0 1) = 20 ∨ kd h (gR h l0 1) = 24) ∧ ib l3 (ln h (gR h l0 1))) (mX (mE mtab d) KX9_weightAt 31 [some (.ref l0), some (.int l1), some (.int l2), some (.int l3)] [.int (gI h (gR h l0 1) (ix l3)), .int l2] h)) else mX (mE mtab d) KX9_weightAt 31 [some (.ref l0), some (.int l1), some (.int l2), some (.int l3)] [.int 0, .int l2] h))) else some (.int l2, h))) := by
  refine mX_to 2 (k' := 16) (ls' := [some (.ref l0), some (.int l1), some (.int l2), some (.int l3)]) (st' := [.ref l0, .int l3]) (h' := h) rfl ?_
  refine mX_ck (k' := 17) (ls' := [some (.ref l0), some (.int l1), some (.int l2), some (.int l3)]) (st' := [.int (gI h l0 0), .int l3]) (h' := h) rfl ?_
  refine mX_br (t := 18) (f := 35) (ls' := [some (.ref l0), some (.int l1), some (.int l2), some (.int l3)]) (st' := []) (h' := h) rfl ?_ ?_
  · refine mX_to 2 (k' := 20) (ls' := [some (.ref l0), some (.int l1), some (.int l2), some (.int l3)]) (st' := [.ref l0, .int l2]) (h' := h) rfl ?_
    refine mX_ck (k' := 21) (ls' := [some (.ref l0), some (.int l1), some (.int l2), some (.int l3)]) (st' := [.ref (gR h l0 2), .int l2]) (h' := h) rfl ?_
    refine mX_to 1 (k' := 22) (ls' := [some (.ref l0), some (.int l1), some (.int l2), some (.int l3)]) (st' := [.int l3, .ref (gR h l0 2), .int l2]) (h' := h) rfl ?_
    refine mX_ck (k' := 23) (ls' := [some (.ref l0), some (.int l1), some (.int l2), some (.int l3)]) (st' := [.int (gI h (gR h l0 2) (ix l3)), .int l2]) (h' := h) rfl ?_
    refine mX_to 1 (k' := 24) (ls' := [some (.ref l0), some (.int l1), some (.int l2), some (.int l3)]) (st' := [.int l1, .int (gI h (gR h l0 2) (ix l3)), .int l2]) (h' := h) rfl ?_
    refine mX_br (t := 25) (f := 30) (ls' := [some (.ref l0), some (.int l1), some (.int l2), some (.int l3)]) (st' := [.int l2]) (h' := h) rfl ?_ ?_
    · refine mX_to 1 (k' := 26) (ls' := [some (.ref l0), some (.int l1), some (.int l2), some (.int l3)]) (st' := [.ref l0, .int l2]) (h' := h) rfl ?_
      refine mX_ck (k' := 27) (ls' := [some (.ref l0), some (.int l1), some (.int l2), some (.int l3)]) (st' := [.ref (gR h l0 1), .int l2]) (h' := h) rfl ?_
      refine mX_to 1 (k' := 28) (ls' := [some (.ref l0), some (.int l1), some (.int l2), some (.int l3)]) (st' := [.int l3, .ref (gR h l0 1), .int l2]) (h' := h) rfl ?_
      refine mX_ck (k' := 29) (ls' := [some (.ref l0), some (.int l1), some (.int l2), some (.int l3)]) (st' := [.int (gI h (gR h l0 1) (ix l3)), .int l2]) (h' := h) rfl ?_
      refine mX_to 1 (k' := 31) (ls' := [some (.ref l0), some (.int l1), some (.int l2), some (.int l3)]) (st' := [.int (gI h (gR h l0 1) (ix l3)), .int l2]) (h' := h) rfl ?_
      rfl
    · refine mX_to 1 (k' := 31) (ls' := [some (.ref l0), some (.int l1), some (.int l2), some (.int l3)]) (st' := [.int 0, .int l2]) (h' := h) rfl ?_
      rfl
  · refine mX_to 1 (k' := 36) (ls' := [some (.ref l0), some (.int l1), some (.int l2), some (.int l3)]) (st' := [.int l2]) (h' := h) rfl ?_
    exact mX_reti rfl
theorem D_X9_weightAt_31 (d : Nat) (h : MH) (l0 : Nat) (l1 : Int32) (l2 : Int32) (l3 : Int32) (s0 : Int32) (s1 : Int32) : mX (mE mtab d) KX9_weightAt 31 [some (.ref l0), some (.int l1), some (.int l2), some (.int l3)] [.int s0, .int s1] h = lt_ (s1 + s0) fun v2 => mX (mE mtab d) KX9_weightAt 14 [some (.ref l0), some (.int l1), some (.int v2), some (.int (l3 + 1))] [] h := by
  refine mX_to 1 (k' := 32) (ls' := [some (.ref l0), some (.int l1), some (.int l2), some (.int l3)]) (st' := [.int (s1 + s0)]) (h' := h) rfl ?_
  refine lt_gen (X := fun v2 : Int32 => mX (mE mtab d) KX9_weightAt 32 [some (.ref l0), some (.int l1), some (.int l2), some (.int l3)] [.int v2] h) fun v2 => ?_
  refine mX_to 3 (k' := 14) (ls' := [some (.ref l0), some (.int l1), some (.int v2), some (.int (l3 + 1))]) (st' := []) (h' := h) rfl ?_
  rfl
theorem D_X9_weightAt (d : Nat) (h : MH) (a0 : Nat) (a1 : Int32) : mE mtab (d + 1) 141 [.ref a0, .int a1] h = (if a1 < 0 then some (.int 0, h) else (if a1 < 9 then ck (kd h a0 = 10) (ck ((kd h (gR h a0 4) = 20 ∨ kd h (gR h a0 4) = 24) ∧ ib a1 (ln h (gR h a0 4))) (lt_ (gI h (gR h a0 4) (ix a1)) fun v1 => mX (mE mtab d) KX9_weightAt 14 [some (.ref a0), some (.int a1), some (.int v1), some (.int 0)] [] h)) else some (.int 0, h))) := by
  refine mE_eq (q := (yX9_weightAt, cX9_weightAt, 4, (some .int), KX9_weightAt)) (C := KX9_weightAt) (ls := [some (.ref a0), some (.int a1), none, none]) rfl rfl rfl rfl ?_
  refine mX_to 1 (k' := 1) (ls' := [some (.ref a0), some (.int a1), none, none]) (st' := [.int a1]) (h' := h) rfl ?_
  refine mX_br (t := 5) (f := 2) (ls' := [some (.ref a0), some (.int a1), none, none]) (st' := []) (h' := h) rfl ?_ ?_
  · refine mX_to 1 (k' := 6) (ls' := [some (.ref a0), some (.int a1), none, none]) (st' := [.int 0]) (h' := h) rfl ?_
    exact mX_reti rfl
  · refine mX_to 2 (k' := 4) (ls' := [some (.ref a0), some (.int a1), none, none]) (st' := [.int 9, .int a1]) (h' := h) rfl ?_
    refine mX_br (t := 7) (f := 5) (ls' := [some (.ref a0), some (.int a1), none, none]) (st' := []) (h' := h) rfl ?_ ?_
    · refine mX_to 1 (k' := 8) (ls' := [some (.ref a0), some (.int a1), none, none]) (st' := [.ref a0]) (h' := h) rfl ?_
      refine mX_ck (k' := 9) (ls' := [some (.ref a0), some (.int a1), none, none]) (st' := [.ref (gR h a0 4)]) (h' := h) rfl ?_
      refine mX_to 1 (k' := 10) (ls' := [some (.ref a0), some (.int a1), none, none]) (st' := [.int a1, .ref (gR h a0 4)]) (h' := h) rfl ?_
      refine mX_ck (k' := 11) (ls' := [some (.ref a0), some (.int a1), none, none]) (st' := [.int (gI h (gR h a0 4) (ix a1))]) (h' := h) rfl ?_
      refine lt_gen (X := fun v1 : Int32 => mX (mE mtab d) KX9_weightAt 11 [some (.ref a0), some (.int a1), none, none] [.int v1] h) fun v1 => ?_
      refine mX_to 3 (k' := 14) (ls' := [some (.ref a0), some (.int a1), some (.int v1), some (.int 0)]) (st' := []) (h' := h) rfl ?_
      rfl
    · refine mX_to 1 (k' := 6) (ls' := [some (.ref a0), some (.int a1), none, none]) (st' := [.int 0]) (h' := h) rfl ?_
      exact mX_reti rfl
theorem D_X3_ofOne (d : Nat) (h : MH) (a0 : Int32) (a1 : Int32) : mE mtab (d + 1) 142 [.int a0, .int a1] h = (if a0 = 4 then some (.int (-a1), h) else (if a0 = 5 then (if a1 ≤ 0 then (if a1 < 0 then some (.int (-1), h) else some (.int 0, h)) else some (.int 1, h)) else (if a1 = 0 then some (.int 1, h) else some (.int 0, h)))) := by
  refine mE_eq (q := (yX3_ofOne, cX3_ofOne, 2, (some .int), KX3_ofOne)) (C := KX3_ofOne) (ls := [some (.int a0), some (.int a1)]) rfl rfl rfl rfl ?_
  refine mX_to 1 (k' := 1) (ls' := [some (.int a0), some (.int a1)]) (st' := [.int a0]) (h' := h) rfl ?_
  refine mX_sw (x := a0) (t := 15) (sw := [(4, 2), (5, 5)]) (ls' := [some (.int a0), some (.int a1)]) (st' := []) (h' := h) rfl ?_
  refine msw_cons ?_ ?_
  · refine mX_to 2 (k' := 4) (ls' := [some (.int a0), some (.int a1)]) (st' := [.int (-a1)]) (h' := h) rfl ?_
    exact mX_reti rfl
  refine msw_cons ?_ ?_
  · refine mX_to 1 (k' := 6) (ls' := [some (.int a0), some (.int a1)]) (st' := [.int a1]) (h' := h) rfl ?_
    refine mX_br (t := 9) (f := 7) (ls' := [some (.int a0), some (.int a1)]) (st' := []) (h' := h) rfl ?_ ?_
    · refine mX_to 1 (k' := 10) (ls' := [some (.int a0), some (.int a1)]) (st' := [.int a1]) (h' := h) rfl ?_
      refine mX_br (t := 11) (f := 13) (ls' := [some (.int a0), some (.int a1)]) (st' := []) (h' := h) rfl ?_ ?_
      · refine mX_to 2 (k' := 14) (ls' := [some (.int a0), some (.int a1)]) (st' := [.int (-1)]) (h' := h) rfl ?_
        exact mX_reti rfl
      · refine mX_to 1 (k' := 14) (ls' := [some (.int a0), some (.int a1)]) (st' := [.int 0]) (h' := h) rfl ?_
        exact mX_reti rfl
    · refine mX_to 2 (k' := 14) (ls' := [some (.int a0), some (.int a1)]) (st' := [.int 1]) (h' := h) rfl ?_
      exact mX_reti rfl
  refine msw_nil ?_
  refine mX_to 1 (k' := 16) (ls' := [some (.int a0), some (.int a1)]) (st' := [.int a1]) (h' := h) rfl ?_
  refine mX_br (t := 17) (f := 19) (ls' := [some (.int a0), some (.int a1)]) (st' := []) (h' := h) rfl ?_ ?_
  · refine mX_to 2 (k' := 20) (ls' := [some (.int a0), some (.int a1)]) (st' := [.int 1]) (h' := h) rfl ?_
    exact mX_reti rfl
  · refine mX_to 1 (k' := 20) (ls' := [some (.int a0), some (.int a1)]) (st' := [.int 0]) (h' := h) rfl ?_
    exact mX_reti rfl
theorem D_X3_ofTwo_84 (d : Nat) (h : MH) (l0 : Int32) (l1 : Int32) (l2 : Int32) (l3 : Int64) : mX (mE mtab d) KX3_ofTwo 84 [some (.int l0), some (.int l1), some (.int l2), some (.long l3), none] [] h = (if (lg_cmp l3 1000000) ≤ 0 then (if (lg_cmp l3 (-1000000)) < 0 then some (.int (-1000000), h) else some (.int ((l3 : Int64).toInt32), h)) else some (.int 1000000, h)) := by
  refine mX_to 3 (k' := 87) (ls' := [some (.int l0), some (.int l1), some (.int l2), some (.long l3), none]) (st' := [.int (lg_cmp l3 1000000)]) (h' := h) rfl ?_
  refine mX_br (t := 90) (f := 88) (ls' := [some (.int l0), some (.int l1), some (.int l2), some (.long l3), none]) (st' := []) (h' := h) rfl ?_ ?_
  · refine mX_to 3 (k' := 93) (ls' := [some (.int l0), some (.int l1), some (.int l2), some (.long l3), none]) (st' := [.int (lg_cmp l3 (-1000000))]) (h' := h) rfl ?_
    refine mX_br (t := 94) (f := 96) (ls' := [some (.int l0), some (.int l1), some (.int l2), some (.long l3), none]) (st' := []) (h' := h) rfl ?_ ?_
    · refine mX_to 2 (k' := 98) (ls' := [some (.int l0), some (.int l1), some (.int l2), some (.long l3), none]) (st' := [.int (-1000000)]) (h' := h) rfl ?_
      exact mX_reti rfl
    · refine mX_to 2 (k' := 98) (ls' := [some (.int l0), some (.int l1), some (.int l2), some (.long l3), none]) (st' := [.int ((l3 : Int64).toInt32)]) (h' := h) rfl ?_
      exact mX_reti rfl
  · refine mX_to 2 (k' := 98) (ls' := [some (.int l0), some (.int l1), some (.int l2), some (.long l3), none]) (st' := [.int 1000000]) (h' := h) rfl ?_
    exact mX_reti rfl
theorem D_X3_ofTwo_83 (d : Nat) (h : MH) (l0 : Int32) (l1 : Int32) (l2 : Int32) (s0 : Int64) : mX (mE mtab d) KX3_ofTwo 83 [some (.int l0), some (.int l1), some (.int l2), none, none] [.long s0] h = mX (mE mtab d) KX3_ofTwo 84 [some (.int l0), some (.int l1), some (.int l2), some (.long s0), none] [] h := by
  refine mX_to 1 (k' := 84) (ls' := [some (.int l0), some (.int l1), some (.int l2), some (.long s0), none]) (st' := []) (h' := h) rfl ?_
  rfl
theorem D_X3_ofTwo (d : Nat) (h : MH) (a0 : Int32) (a1 : Int32) (a2 : Int32) : mE mtab (d + 1) 143 [.int a0, .int a1, .int a2] h = (if a0 = 12 then (if a1 < a2 then some (.int 1, h) else some (.int 0, h)) else (if a0 = 13 then (if a1 ≤ a2 then some (.int 1, h) else some (.int 0, h)) else (if a0 = 14 then (if a1 ≤ a2 then some (.int 0, h) else some (.int 1, h)) else (if a0 = 15 then (if a1 < a2 then some (.int 0, h) else some (.int 1, h)) else (if a0 = 16 then (if a1 = a2 then some (.int 1, h) else some (.int 0, h)) else (if a0 = 17 then (if a1 = a2 then some (.int 0, h) else some (.int 1, h)) else (if a0 = 18 then some (.int (a1 ||| a2), h) else (if a0 = 19 then some (.int (a1 &&& a2), h) else (if a0 = 8 then lt_ (((a1 : Int32).toInt64) + ((a2 : Int32).toInt64)) fun v1 => mX (mE mtab d) KX3_ofTwo 84 [some (.int a0), some (.int a1), some (.int a2), some (.long v1), none] [] h else (if a0 = 9 then lt_ (((a1 : Int32).toInt64) - ((a2 : Int32).toInt64)) fun v2 => mX (mE mtab d) KX3_ofTwo 84 [some (.int a0), some (.int a1), some (.int a2), some (.long v2), none] [] h else (if a0 = 10 then lt_ (((a1 : Int32).toInt64) * ((a2 : Int32).toInt64)) fun v3 => mX (mE mtab d) KX3_ofTwo 84 [some (.int a0), some (.int a1), some (.int a2), some (.long v3), none] [] h else (if a2 = 0 then mX (mE mtab d) KX3_ofTwo 83 [some (.int a0), some (.int a1), some (.int a2), none, none] [.long 0] h else ck (¬ a2 = 0) (mX (mE mtab d) KX3_ofTwo 83 [some (.int a0), some (.int a1), some (.int a2), none, none] [.long (((a1 / a2) : Int32).toInt64)] h))))))))))))) := by
  refine mE_eq (q := (yX3_ofTwo, cX3_ofTwo, 5, (some .int), KX3_ofTwo)) (C := KX3_ofTwo) (ls := [some (.int a0), some (.int a1), some (.int a2), none, none]) rfl rfl rfl rfl ?_
  refine mX_to 1 (k' := 1) (ls' := [some (.int a0), some (.int a1), some (.int a2), none, none]) (st' := [.int a0]) (h' := h) rfl ?_
  refine mX_sw (x := a0) (t := 52) (sw := [(12, 2), (13, 9), (14, 16), (15, 23), (16, 30), (17, 37), (18, 44), (19, 48)]) (ls' := [some (.int a0), some (.int a1), some (.int a2), none, none]) (st' := []) (h' := h) rfl ?_
  refine msw_cons ?_ ?_
  · refine mX_to 2 (k' := 4) (ls' := [some (.int a0), some (.int a1), some (.int a2), none, none]) (st' := [.int a2, .int a1]) (h' := h) rfl ?_
    refine mX_br (t := 5) (f := 7) (ls' := [some (.int a0), some (.int a1), some (.int a2), none, none]) (st' := []) (h' := h) rfl ?_ ?_
    · refine mX_to 2 (k' := 8) (ls' := [some (.int a0), some (.int a1), some (.int a2), none, none]) (st' := [.int 1]) (h' := h) rfl ?_
      exact mX_reti rfl
    · refine mX_to 1 (k' := 8) (ls' := [some (.int a0), some (.int a1), some (.int a2), none, none]) (st' := [.int 0]) (h' := h) rfl ?_
      exact mX_reti rfl
  refine msw_cons ?_ ?_
  · refine mX_to 2 (k' := 11) (ls' := [some (.int a0), some (.int a1), some (.int a2), none, none]) (st' := [.int a2, .int a1]) (h' := h) rfl ?_
    refine mX_br (t := 12) (f := 14) (ls' := [some (.int a0), some (.int a1), some (.int a2), none, none]) (st' := []) (h' := h) rfl ?_ ?_
    · refine mX_to 2 (k' := 15) (ls' := [some (.int a0), some (.int a1), some (.int a2), none, none]) (st' := [.int 1]) (h' := h) rfl ?_
      exact mX_reti rfl
    · refine mX_to 1 (k' := 15) (ls' := [some (.int a0), some (.int a1), some (.int a2), none, none]) (st' := [.int 0]) (h' := h) rfl ?_
      exact mX_reti rfl
  refine msw_cons ?_ ?_
  · refine mX_to 2 (k' := 18) (ls' := [some (.int a0), some (.int a1), some (.int a2), none, none]) (st' := [.int a2, .int a1]) (h' := h) rfl ?_
    refine mX_br (t := 21) (f := 19) (ls' := [some (.int a0), some (.int a1), some (.int a2), none, none]) (st' := []) (h' := h) rfl ?_ ?_
    · refine mX_to 1 (k' := 22) (ls' := [some (.int a0), some (.int a1), some (.int a2), none, none]) (st' := [.int 0]) (h' := h) rfl ?_
      exact mX_reti rfl
    · refine mX_to 2 (k' := 22) (ls' := [some (.int a0), some (.int a1), some (.int a2), none, none]) (st' := [.int 1]) (h' := h) rfl ?_
      exact mX_reti rfl
  refine msw_cons ?_ ?_
  · refine mX_to 2 (k' := 25) (ls' := [some (.int a0), some (.int a1), some (.int a2), none, none]) (st' := [.int a2, .int a1]) (h' := h) rfl ?_
    refine mX_br (t := 28) (f := 26) (ls' := [some (.int a0), some (.int a1), some (.int a2), none, none]) (st' := []) (h' := h) rfl ?_ ?_
    · refine mX_to 1 (k' := 29) (ls' := [some (.int a0), some (.int a1), some (.int a2), none, none]) (st' := [.int 0]) (h' := h) rfl ?_
      exact mX_reti rfl
    · refine mX_to 2 (k' := 29) (ls' := [some (.int a0), some (.int a1), some (.int a2), none, none]) (st' := [.int 1]) (h' := h) rfl ?_
      exact mX_reti rfl
  refine msw_cons ?_ ?_
  · refine mX_to 2 (k' := 32) (ls' := [some (.int a0), some (.int a1), some (.int a2), none, none]) (st' := [.int a2, .int a1]) (h' := h) rfl ?_
    refine mX_br (t := 33) (f := 35) (ls' := [some (.int a0), some (.int a1), some (.int a2), none, none]) (st' := []) (h' := h) rfl ?_ ?_
    · refine mX_to 2 (k' := 36) (ls' := [some (.int a0), some (.int a1), some (.int a2), none, none]) (st' := [.int 1]) (h' := h) rfl ?_
      exact mX_reti rfl
    · refine mX_to 1 (k' := 36) (ls' := [some (.int a0), some (.int a1), some (.int a2), none, none]) (st' := [.int 0]) (h' := h) rfl ?_
      exact mX_reti rfl
  refine msw_cons ?_ ?_
  · refine mX_to 2 (k' := 39) (ls' := [some (.int a0), some (.int a1), some (.int a2), none, none]) (st' := [.int a2, .int a1]) (h' := h) rfl ?_
    refine mX_br (t := 42) (f := 40) (ls' := [some (.int a0), some (.int a1), some (.int a2), none, none]) (st' := []) (h' := h) rfl ?_ ?_
    · refine mX_to 1 (k' := 43) (ls' := [some (.int a0), some (.int a1), some (.int a2), none, none]) (st' := [.int 0]) (h' := h) rfl ?_
      exact mX_reti rfl
    · refine mX_to 2 (k' := 43) (ls' := [some (.int a0), some (.int a1), some (.int a2), none, none]) (st' := [.int 1]) (h' := h) rfl ?_
      exact mX_reti rfl
  refine msw_cons ?_ ?_
  · refine mX_to 3 (k' := 47) (ls' := [some (.int a0), some (.int a1), some (.int a2), none, none]) (st' := [.int (a1 ||| a2)]) (h' := h) rfl ?_
    exact mX_reti rfl
  refine msw_cons ?_ ?_
  · refine mX_to 3 (k' := 51) (ls' := [some (.int a0), some (.int a1), some (.int a2), none, none]) (st' := [.int (a1 &&& a2)]) (h' := h) rfl ?_
    exact mX_reti rfl
  refine msw_nil ?_
  refine mX_to 1 (k' := 53) (ls' := [some (.int a0), some (.int a1), some (.int a2), none, none]) (st' := [.int a0]) (h' := h) rfl ?_
  refine mX_sw (x := a0) (t := 75) (sw := [(8, 54), (9, 61), (10, 68)]) (ls' := [some (.int a0), some (.int a1), some (.int a2), none, none]) (st' := []) (h' := h) rfl ?_
  refine msw_cons ?_ ?_
  · refine mX_to 5 (k' := 59) (ls' := [some (.int a0), some (.int a1), some (.int a2), none, none]) (st' := [.long (((a1 : Int32).toInt64) + ((a2 : Int32).toInt64))]) (h' := h) rfl ?_
    refine lt_gen (X := fun v1 : Int64 => mX (mE mtab d) KX3_ofTwo 59 [some (.int a0), some (.int a1), some (.int a2), none, none] [.long v1] h) fun v1 => ?_
    refine mX_to 2 (k' := 84) (ls' := [some (.int a0), some (.int a1), some (.int a2), some (.long v1), none]) (st' := []) (h' := h) rfl ?_
    rfl
  refine msw_cons ?_ ?_
  · refine mX_to 5 (k' := 66) (ls' := [some (.int a0), some (.int a1), some (.int a2), none, none]) (st' := [.long (((a1 : Int32).toInt64) - ((a2 : Int32).toInt64))]) (h' := h) rfl ?_
    refine lt_gen (X := fun v2 : Int64 => mX (mE mtab d) KX3_ofTwo 66 [some (.int a0), some (.int a1), some (.int a2), none, none] [.long v2] h) fun v2 => ?_
    refine mX_to 2 (k' := 84) (ls' := [some (.int a0), some (.int a1), some (.int a2), some (.long v2), none]) (st' := []) (h' := h) rfl ?_
    rfl
  refine msw_cons ?_ ?_
  · refine mX_to 5 (k' := 73) (ls' := [some (.int a0), some (.int a1), some (.int a2), none, none]) (st' := [.long (((a1 : Int32).toInt64) * ((a2 : Int32).toInt64))]) (h' := h) rfl ?_
    refine lt_gen (X := fun v3 : Int64 => mX (mE mtab d) KX3_ofTwo 73 [some (.int a0), some (.int a1), some (.int a2), none, none] [.long v3] h) fun v3 => ?_
    refine mX_to 2 (k' := 84) (ls' := [some (.int a0), some (.int a1), some (.int a2), some (.long v3), none]) (st' := []) (h' := h) rfl ?_
    rfl
  refine msw_nil ?_
  refine mX_to 1 (k' := 76) (ls' := [some (.int a0), some (.int a1), some (.int a2), none, none]) (st' := [.int a2]) (h' := h) rfl ?_
  refine mX_br (t := 77) (f := 79) (ls' := [some (.int a0), some (.int a1), some (.int a2), none, none]) (st' := []) (h' := h) rfl ?_ ?_
  · refine mX_to 2 (k' := 83) (ls' := [some (.int a0), some (.int a1), some (.int a2), none, none]) (st' := [.long 0]) (h' := h) rfl ?_
    rfl
  · refine mX_to 2 (k' := 81) (ls' := [some (.int a0), some (.int a1), some (.int a2), none, none]) (st' := [.int a2, .int a1]) (h' := h) rfl ?_
    refine mX_ck (k' := 82) (ls' := [some (.int a0), some (.int a1), some (.int a2), none, none]) (st' := [.int (a1 / a2)]) (h' := h) rfl ?_
    refine mX_to 1 (k' := 83) (ls' := [some (.int a0), some (.int a1), some (.int a2), none, none]) (st' := [.long (((a1 / a2) : Int32).toInt64)]) (h' := h) rfl ?_
    rfl
