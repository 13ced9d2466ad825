/-! EQUATIONS OF THE METHODS (written by wip/gen/dgen.py) -/
theorem D_X6_takeBack (d : Nat) (h : MH) (a0 : Nat) (a1 : Nat) : mE mtab (d + 1) 210 [.ref a0, .ref a1] h = ck (kd h a0 = 7) ((if (gI h a0 2) = 0 then some (.int (-1), h) else ck (kd h a0 = 7) (ck (kd h a0 = 7) (lt_ (sI h a0 2 ((gI h a0 2) - 1)) fun h1 => ck (kd h1 a0 = 7) (ck (kd h1 a0 = 7) (lt_ ((((gI h1 a0 1) + (gI h1 a0 2)) - ((gI h1 a0 1) + (gI h1 a0 2)) / 31 * 31) * 47) fun v2 => ck (kd h1 a0 = 7) (ck ((kd h1 (gR h1 a0 0) = 20 ∨ kd h1 (gR h1 a0 0) = 24) ∧ ib (v2 + 1) (ln h1 (gR h1 a0 0))) (ck (kd h1 a1 = 10) (lt_ (sI h1 a1 5 (gI h1 (gR h1 a0 0) (ix (v2 + 1)))) fun h3 => ck (kd h3 a0 = 7) (ck ((kd h3 (gR h3 a0 0) = 20 ∨ kd h3 (gR h3 a0 0) = 24) ∧ ib (v2 + 2) (ln h3 (gR h3 a0 0))) (ck (kd h3 a1 = 10) (lt_ (sI h3 a1 6 (gI h3 (gR h3 a0 0) (ix (v2 + 2)))) fun h4 => ck (kd h4 a0 = 7) (ck ((kd h4 (gR h4 a0 0) = 20 ∨ kd h4 (gR h4 a0 0) = 24) ∧ ib (v2 + 3) (ln h4 (gR h4 a0 0))) (ck (kd h4 a1 = 10) (lt_ (sI h4 a1 8 (gI h4 (gR h4 a0 0) (ix (v2 + 3)))) fun h5 => ck (kd h5 a0 = 7) (ck (kd h5 a1 = 10) (ck (kd h5 a0 = 7) (ck ((kd h5 (gR h5 a0 0) = 20 ∨ kd h5 (gR h5 a0 0) = 24) ∧ ib v2 (ln h5 (gR h5 a0 0))) (ck (kd h5 (gR h5 a0 0) = 20 ∧ kd h5 (gR h5 a1 2) = 20 ∧ ¬ (v2 + 4) < 0 ∧ ¬ (0 : Int32) < 0 ∧ ¬ (gI h5 (gR h5 a0 0) (ix v2)) < 0 ∧ ix (v2 + 4) + ix (gI h5 (gR h5 a0 0) (ix v2)) ≤ ln h5 (gR h5 a0 0) ∧ ix (0 : Int32) + ix (gI h5 (gR h5 a0 0) (ix v2)) ≤ ln h5 (gR h5 a1 2)) (lt_ (rI h5 (gR h5 a1 2) (va_cpy (gI h5 (gR h5 a0 0)) (gI h5 (gR h5 a1 2)) (ix (v2 + 4)) (ix (0 : Int32)) (ix (gI h5 (gR h5 a0 0) (ix v2))))) fun h6 => ck (kd h6 a0 = 7) (ck (kd h6 a1 = 10) (ck (kd h6 (gR h6 a0 0) = 20 ∧ kd h6 (gR h6 a1 4) = 20 ∧ ¬ ((v2 + 4) + 4) < 0 ∧ ¬ (0 : Int32) < 0 ∧ ¬ (9 : Int32) < 0 ∧ ix ((v2 + 4) + 4) + ix (9 : Int32) ≤ ln h6 (gR h6 a0 0) ∧ ix (0 : Int32) + ix (9 : Int32) ≤ ln h6 (gR h6 a1 4)) (lt_ (rI h6 (gR h6 a1 4) (va_cpy (gI h6 (gR h6 a0 0)) (gI h6 (gR h6 a1 4)) (ix ((v2 + 4) + 4)) (ix (0 : Int32)) (ix (9 : Int32)))) fun h7 => ck (kd h7 a0 = 7) (ck (kd h7 a1 = 10) (ck (kd h7 (gR h7 a0 0) = 20 ∧ kd h7 (gR h7 a1 7) = 20 ∧ ¬ (((v2 + 4) + 4) + 9) < 0 ∧ ¬ (0 : Int32) < 0 ∧ ¬ (30 : Int32) < 0 ∧ ix (((v2 + 4) + 4) + 9) + ix (30 : Int32) ≤ ln h7 (gR h7 a0 0) ∧ ix (0 : Int32) + ix (30 : Int32) ≤ ln h7 (gR h7 a1 7)) (lt_ (rI h7 (gR h7 a1 7) (va_cpy (gI h7 (gR h7 a0 0)) (gI h7 (gR h7 a1 7)) (ix (((v2 + 4) + 4) + 9)) (ix (0 : Int32)) (ix (30 : Int32)))) fun h8 => ck (kd h8 a0 = 7) (some (.int (gI h8 a0 2), h8)))))))))))))))))))))))))))) := by
  refine mE_eq (q := (yX6_takeBack, cX6_takeBack, 3, (some .int), KX6_takeBack)) (C := KX6_takeBack) (ls := [some (.ref a0), some (.ref a1), none]) rfl rfl rfl rfl ?_
  refine mX_to 1 (k' := 1) (ls' := [some (.ref a0), some (.ref a1), none]) (st' := [.ref a0]) (h' := h) rfl ?_
  refine mX_ck (k' := 2) (ls' := [some (.ref a0), some (.ref a1), none]) (st' := [.int (gI h a0 2)]) (h' := h) rfl ?_
  refine mX_br (t := 3) (f := 5) (ls' := [some (.ref a0), some (.ref a1), none]) (st' := []) (h' := h) rfl ?_ ?_
  · refine mX_to 1 (k' := 4) (ls' := [some (.ref a0), some (.ref a1), none]) (st' := [.int (-1)]) (h' := h) rfl ?_
    exact mX_reti rfl
  · refine mX_to 2 (k' := 7) (ls' := [some (.ref a0), some (.ref a1), none]) (st' := [.ref a0, .ref a0]) (h' := h) rfl ?_
    refine mX_ck (k' := 8) (ls' := [some (.ref a0), some (.ref a1), none]) (st' := [.int (gI h a0 2), .ref a0]) (h' := h) rfl ?_
    refine mX_to 2 (k' := 10) (ls' := [some (.ref a0), some (.ref a1), none]) (st' := [.int ((gI h a0 2) - 1), .ref a0]) (h' := h) rfl ?_
    refine mX_ck (k' := 11) (ls' := [some (.ref a0), some (.ref a1), none]) (st' := []) (h' := (sI h a0 2 ((gI h a0 2) - 1))) rfl ?_
    refine lt_gen (X := fun h1 : MH => mX (mE mtab d) KX6_takeBack 11 [some (.ref a0), some (.ref a1), none] [] h1) fun h1 => ?_
    refine mX_to 1 (k' := 12) (ls' := [some (.ref a0), some (.ref a1), none]) (st' := [.ref a0]) (h' := h1) rfl ?_
    refine mX_ck (k' := 13) (ls' := [some (.ref a0), some (.ref a1), none]) (st' := [.int (gI h1 a0 1)]) (h' := h1) rfl ?_
    refine mX_to 1 (k' := 14) (ls' := [some (.ref a0), some (.ref a1), none]) (st' := [.ref a0, .int (gI h1 a0 1)]) (h' := h1) rfl ?_
    refine mX_ck (k' := 15) (ls' := [some (.ref a0), some (.ref a1), none]) (st' := [.int (gI h1 a0 2), .int (gI h1 a0 1)]) (h' := h1) rfl ?_
    refine mX_to 2 (k' := 17) (ls' := [some (.ref a0), some (.ref a1), none]) (st' := [.int 31, .int ((gI h1 a0 1) + (gI h1 a0 2))]) (h' := h1) rfl ?_
    refine mX_ckt (c := ¬ (31 : Int32) = 0) (k' := 18) (ls' := [some (.ref a0), some (.ref a1), none]) (st' := [.int (((gI h1 a0 1) + (gI h1 a0 2)) - ((gI h1 a0 1) + (gI h1 a0 2)) / 31 * 31)]) (h' := h1) (by decide) rfl ?_
    refine mX_to 2 (k' := 20) (ls' := [some (.ref a0), some (.ref a1), none]) (st' := [.int ((((gI h1 a0 1) + (gI h1 a0 2)) - ((gI h1 a0 1) + (gI h1 a0 2)) / 31 * 31) * 47)]) (h' := h1) rfl ?_
    refine lt_gen (X := fun v2 : Int32 => mX (mE mtab d) KX6_takeBack 20 [some (.ref a0), some (.ref a1), none] [.int v2] h1) fun v2 => ?_
    refine mX_to 3 (k' := 23) (ls' := [some (.ref a0), some (.ref a1), some (.int v2)]) (st' := [.ref a0, .ref a1]) (h' := h1) rfl ?_
    refine mX_ck (k' := 24) (ls' := [some (.ref a0), some (.ref a1), some (.int v2)]) (st' := [.ref (gR h1 a0 0), .ref a1]) (h' := h1) rfl ?_
    refine mX_to 3 (k' := 27) (ls' := [some (.ref a0), some (.ref a1), some (.int v2)]) (st' := [.int (v2 + 1), .ref (gR h1 a0 0), .ref a1]) (h' := h1) rfl ?_
    refine mX_ck (k' := 28) (ls' := [some (.ref a0), some (.ref a1), some (.int v2)]) (st' := [.int (gI h1 (gR h1 a0 0) (ix (v2 + 1))), .ref a1]) (h' := h1) rfl ?_
    refine mX_ck (k' := 29) (ls' := [some (.ref a0), some (.ref a1), some (.int v2)]) (st' := []) (h' := (sI h1 a1 5 (gI h1 (gR h1 a0 0) (ix (v2 + 1))))) rfl ?_
    refine lt_gen (X := fun h3 : MH => mX (mE mtab d) KX6_takeBack 29 [some (.ref a0), some (.ref a1), some (.int v2)] [] h3) fun h3 => ?_
    refine mX_to 2 (k' := 31) (ls' := [some (.ref a0), some (.ref a1), some (.int v2)]) (st' := [.ref a0, .ref a1]) (h' := h3) rfl ?_
    refine mX_ck (k' := 32) (ls' := [some (.ref a0), some (.ref a1), some (.int v2)]) (st' := [.ref (gR h3 a0 0), .ref a1]) (h' := h3) rfl ?_
    refine mX_to 3 (k' := 35) (ls' := [some (.ref a0), some (.ref a1), some (.int v2)]) (st' := [.int (v2 + 2), .ref (gR h3 a0 0), .ref a1]) (h' := h3) rfl ?_
    refine mX_ck (k' := 36) (ls' := [some (.ref a0), some (.ref a1), some (.int v2)]) (st' := [.int (gI h3 (gR h3 a0 0) (ix (v2 + 2))), .ref a1]) (h' := h3) rfl ?_
    refine mX_ck (k' := 37) (ls' := [some (.ref a0), some (.ref a1), some (.int v2)]) (st' := []) (h' := (sI h3 a1 6 (gI h3 (gR h3 a0 0) (ix (v2 + 2))))) rfl ?_
    refine lt_gen (X := fun h4 : MH => mX (mE mtab d) KX6_takeBack 37 [some (.ref a0), some (.ref a1), some (.int v2)] [] h4) fun h4 => ?_
    refine mX_to 2 (k' := 39) (ls' := [some (.ref a0), some (.ref a1), some (.int v2)]) (st' := [.ref a0, .ref a1]) (h' := h4) rfl ?_
    refine mX_ck (k' := 40) (ls' := [some (.ref a0), some (.ref a1), some (.int v2)]) (st' := [.ref (gR h4 a0 0), .ref a1]) (h' := h4) rfl ?_
    refine mX_to 3 (k' := 43) (ls' := [some (.ref a0), some (.ref a1), some (.int v2)]) (st' := [.int (v2 + 3), .ref (gR h4 a0 0), .ref a1]) (h' := h4) rfl ?_
    refine mX_ck (k' := 44) (ls' := [some (.ref a0), some (.ref a1), some (.int v2)]) (st' := [.int (gI h4 (gR h4 a0 0) (ix (v2 + 3))), .ref a1]) (h' := h4) rfl ?_
    refine mX_ck (k' := 45) (ls' := [some (.ref a0), some (.ref a1), some (.int v2)]) (st' := []) (h' := (sI h4 a1 8 (gI h4 (gR h4 a0 0) (ix (v2 + 3))))) rfl ?_
    refine lt_gen (X := fun h5 : MH => mX (mE mtab d) KX6_takeBack 45 [some (.ref a0), some (.ref a1), some (.int v2)] [] h5) fun h5 => ?_
    refine mX_to 1 (k' := 46) (ls' := [some (.ref a0), some (.ref a1), some (.int v2)]) (st' := [.ref a0]) (h' := h5) rfl ?_
    refine mX_ck (k' := 47) (ls' := [some (.ref a0), some (.ref a1), some (.int v2)]) (st' := [.ref (gR h5 a0 0)]) (h' := h5) rfl ?_
    refine mX_to 4 (k' := 51) (ls' := [some (.ref a0), some (.ref a1), some (.int v2)]) (st' := [.ref a1, .int (v2 + 4), .ref (gR h5 a0 0)]) (h' := h5) rfl ?_
    refine mX_ck (k' := 52) (ls' := [some (.ref a0), some (.ref a1), some (.int v2)]) (st' := [.ref (gR h5 a1 2), .int (v2 + 4), .ref (gR h5 a0 0)]) (h' := h5) rfl ?_
    refine mX_to 2 (k' := 54) (ls' := [some (.ref a0), some (.ref a1), some (.int v2)]) (st' := [.ref a0, .int 0, .ref (gR h5 a1 2), .int (v2 + 4), .ref (gR h5 a0 0)]) (h' := h5) rfl ?_
    refine mX_ck (k' := 55) (ls' := [some (.ref a0), some (.ref a1), some (.int v2)]) (st' := [.ref (gR h5 a0 0), .int 0, .ref (gR h5 a1 2), .int (v2 + 4), .ref (gR h5 a0 0)]) (h' := h5) rfl ?_
    refine mX_to 1 (k' := 56) (ls' := [some (.ref a0), some (.ref a1), some (.int v2)]) (st' := [.int v2, .ref (gR h5 a0 0), .int 0, .ref (gR h5 a1 2), .int (v2 + 4), .ref (gR h5 a0 0)]) (h' := h5) rfl ?_
    refine mX_ck (k' := 57) (ls' := [some (.ref a0), some (.ref a1), some (.int v2)]) (st' := [.int (gI h5 (gR h5 a0 0) (ix v2)), .int 0, .ref (gR h5 a1 2), .int (v2 + 4), .ref (gR h5 a0 0)]) (h' := h5) rfl ?_
    refine mX_ck (k' := 58) (ls' := [some (.ref a0), some (.ref a1), some (.int v2)]) (st' := []) (h' := (rI h5 (gR h5 a1 2) (va_cpy (gI h5 (gR h5 a0 0)) (gI h5 (gR h5 a1 2)) (ix (v2 + 4)) (ix (0 : Int32)) (ix (gI h5 (gR h5 a0 0) (ix v2)))))) rfl ?_
    refine lt_gen (X := fun h6 : MH => mX (mE mtab d) KX6_takeBack 58 [some (.ref a0), some (.ref a1), some (.int v2)] [] h6) fun h6 => ?_
    refine mX_to 1 (k' := 59) (ls' := [some (.ref a0), some (.ref a1), some (.int v2)]) (st' := [.ref a0]) (h' := h6) rfl ?_
    refine mX_ck (k' := 60) (ls' := [some (.ref a0), some (.ref a1), some (.int v2)]) (st' := [.ref (gR h6 a0 0)]) (h' := h6) rfl ?_
    refine mX_to 6 (k' := 66) (ls' := [some (.ref a0), some (.ref a1), some (.int v2)]) (st' := [.ref a1, .int ((v2 + 4) + 4), .ref (gR h6 a0 0)]) (h' := h6) rfl ?_
    refine mX_ck (k' := 67) (ls' := [some (.ref a0), some (.ref a1), some (.int v2)]) (st' := [.ref (gR h6 a1 4), .int ((v2 + 4) + 4), .ref (gR h6 a0 0)]) (h' := h6) rfl ?_
    refine mX_to 2 (k' := 69) (ls' := [some (.ref a0), some (.ref a1), some (.int v2)]) (st' := [.int 9, .int 0, .ref (gR h6 a1 4), .int ((v2 + 4) + 4), .ref (gR h6 a0 0)]) (h' := h6) rfl ?_
    refine mX_ck (k' := 70) (ls' := [some (.ref a0), some (.ref a1), some (.int v2)]) (st' := []) (h' := (rI h6 (gR h6 a1 4) (va_cpy (gI h6 (gR h6 a0 0)) (gI h6 (gR h6 a1 4)) (ix ((v2 + 4) + 4)) (ix (0 : Int32)) (ix (9 : Int32))))) rfl ?_
    refine lt_gen (X := fun h7 : MH => mX (mE mtab d) KX6_takeBack 70 [some (.ref a0), some (.ref a1), some (.int v2)] [] h7) fun h7 => ?_
    refine mX_to 1 (k' := 71) (ls' := [some (.ref a0), some (.ref a1), some (.int v2)]) (st' := [.ref a0]) (h' := h7) rfl ?_
    refine mX_ck (k' := 72) (ls' := [some (.ref a0), some (.ref a1), some (.int v2)]) (st' := [.ref (gR h7 a0 0)]) (h' := h7) rfl ?_
    refine mX_to 8 (k' := 80) (ls' := [some (.ref a0), some (.ref a1), some (.int v2)]) (st' := [.ref a1, .int (((v2 + 4) + 4) + 9), .ref (gR h7 a0 0)]) (h' := h7) rfl ?_
    refine mX_ck (k' := 81) (ls' := [some (.ref a0), some (.ref a1), some (.int v2)]) (st' := [.ref (gR h7 a1 7), .int (((v2 + 4) + 4) + 9), .ref (gR h7 a0 0)]) (h' := h7) rfl ?_
    refine mX_to 2 (k' := 83) (ls' := [some (.ref a0), some (.ref a1), some (.int v2)]) (st' := [.int 30, .int 0, .ref (gR h7 a1 7), .int (((v2 + 4) + 4) + 9), .ref (gR h7 a0 0)]) (h' := h7) rfl ?_
    refine mX_ck (k' := 84) (ls' := [some (.ref a0), some (.ref a1), some (.int v2)]) (st' := []) (h' := (rI h7 (gR h7 a1 7) (va_cpy (gI h7 (gR h7 a0 0)) (gI h7 (gR h7 a1 7)) (ix (((v2 + 4) + 4) + 9)) (ix (0 : Int32)) (ix (30 : Int32))))) rfl ?_
    refine lt_gen (X := fun h8 : MH => mX (mE mtab d) KX6_takeBack 84 [some (.ref a0), some (.ref a1), some (.int v2)] [] h8) fun h8 => ?_
    refine mX_to 1 (k' := 85) (ls' := [some (.ref a0), some (.ref a1), some (.int v2)]) (st' := [.ref a0]) (h' := h8) rfl ?_
    refine mX_ck (k' := 86) (ls' := [some (.ref a0), some (.ref a1), some (.int v2)]) (st' := [.int (gI h8 a0 2)]) (h' := h8) rfl ?_
    exact mX_reti rfl
theorem D_X10_undo (d : Nat) (h : MH) (a0 : Nat) : mE mtab (d + 1) 211 [.ref a0] h = ck (kd h a0 = 11) (ck (kd h (gR h a0 0) = 1) (ck (kd h a0 = 11) (ck (kd h (gR h a0 0) = 1) (ck (kd h (gR h (gR h a0 0) 1) = 7) (cI (mE mtab d 210 [.ref (gR h (gR h a0 0) 1), .ref (gR h (gR h a0 0) 0)] h) (fun x2 h1 => some (.int x2, h1))))))) := by
  refine mE_eq (q := (yX10_undo, cX10_undo, 1, (some .int), KX10_undo)) (C := KX10_undo) (ls := [some (.ref a0)]) rfl rfl rfl rfl ?_
  refine mX_to 1 (k' := 1) (ls' := [some (.ref a0)]) (st' := [.ref a0]) (h' := h) rfl ?_
  refine mX_ck (k' := 2) (ls' := [some (.ref a0)]) (st' := [.ref (gR h a0 0)]) (h' := h) rfl ?_
  refine mX_ck (k' := 3) (ls' := [some (.ref a0)]) (st' := [.ref (gR h (gR h a0 0) 1)]) (h' := h) rfl ?_
  refine mX_to 1 (k' := 4) (ls' := [some (.ref a0)]) (st' := [.ref a0, .ref (gR h (gR h a0 0) 1)]) (h' := h) rfl ?_
  refine mX_ck (k' := 5) (ls' := [some (.ref a0)]) (st' := [.ref (gR h a0 0), .ref (gR h (gR h a0 0) 1)]) (h' := h) rfl ?_
  refine mX_ck (k' := 6) (ls' := [some (.ref a0)]) (st' := [.ref (gR h (gR h a0 0) 0), .ref (gR h (gR h a0 0) 1)]) (h' := h) rfl ?_
  refine mX_ckc (m := mcl (mE mtab d 210 [.ref (gR h (gR h a0 0) 1), .ref (gR h (gR h a0 0) 0)] h) 1 7 [some (.ref a0)] []) rfl ?_
  refine mk_cI ?_
  intro x2 h1
  exact mX_reti rfl
theorem D_X11_undo_26 (d : Nat) (h : MH) (l0 : Nat) (l1 : Int32) (l2 : Int32) : mX (mE mtab d) KX11_undo 26 [some (.ref l0), some (.int l1), some (.int l2)] [] h = (if l2 < 16 then ck (kd h l0 = 12) (ck (kd h l0 = 12) (ck ((kd h (gR h l0 0) = 20 ∨ kd h (gR h l0 0) = 24) ∧ ib ((l1 + 1) + l2) (ln h (gR h l0 0))) (ck (kd h (gR h l0 0) = 20 ∧ ib (6 + l2) (ln h (gR h l0 0))) (lt_ (sI h (gR h l0 0) (ix (6 + l2)) (gI h (gR h l0 0) (ix ((l1 + 1) + l2)))) fun h3 => mX (mE mtab d) KX11_undo 26 [some (.ref l0), some (.int l1), some (.int (l2 + 1))] [] h3)))) else ck (kd h l0 = 12) (ck ((kd h (gR h l0 0) = 20 ∨ kd h (gR h l0 0) = 24) ∧ ib l1 (ln h (gR h l0 0))) (lt_ (gI h (gR h l0 0) (ix l1)) fun v5 => mX (mE mtab d) KX11_undo 50 [some (.ref l0), some (.int l1), some (.int v5)] [] h))) := by
  refine mX_to 2 (k' := 28) (ls' := [some (.ref l0), some (.int l1), some (.int l2)]) (st' := [.int 16, .int l2]) (h' := h) rfl ?_
  refine mX_br (t := 29) (f := 45) (ls' := [some (.ref l0), some (.int l1), some (.int l2)]) (st' := []) (h' := h) rfl ?_ ?_
  · refine mX_to 1 (k' := 30) (ls' := [some (.ref l0), some (.int l1), some (.int l2)]) (st' := [.ref l0]) (h' := h) rfl ?_
    refine mX_ck (k' := 31) (ls' := [some (.ref l0), some (.int l1), some (.int l2)]) (st' := [.ref (gR h l0 0)]) (h' := h) rfl ?_
    refine mX_to 4 (k' := 35) (ls' := [some (.ref l0), some (.int l1), some (.int l2)]) (st' := [.ref l0, .int (6 + l2), .ref (gR h l0 0)]) (h' := h) rfl ?_
    refine mX_ck (k' := 36) (ls' := [some (.ref l0), some (.int l1), some (.int l2)]) (st' := [.ref (gR h l0 0), .int (6 + l2), .ref (gR h l0 0)]) (h' := h) rfl ?_
    refine mX_to 5 (k' := 41) (ls' := [some (.ref l0), some (.int l1), some (.int l2)]) (st' := [.int ((l1 + 1) + l2), .ref (gR h l0 0), .int (6 + l2), .ref (gR h l0 0)]) (h' := h) rfl ?_
    refine mX_ck (k' := 42) (ls' := [some (.ref l0), some (.int l1), some (.int l2)]) (st' := [.int (gI h (gR h l0 0) (ix ((l1 + 1) + l2))), .int (6 + l2), .ref (gR h l0 0)]) (h' := h) rfl ?_
    refine mX_ck (k' := 43) (ls' := [some (.ref l0), some (.int l1), some (.int l2)]) (st' := []) (h' := (sI h (gR h l0 0) (ix (6 + l2)) (gI h (gR h l0 0) (ix ((l1 + 1) + l2))))) rfl ?_
    refine lt_gen (X := fun h3 : MH => mX (mE mtab d) KX11_undo 43 [some (.ref l0), some (.int l1), some (.int l2)] [] h3) fun h3 => ?_
    refine mX_to 2 (k' := 26) (ls' := [some (.ref l0), some (.int l1), some (.int (l2 + 1))]) (st' := []) (h' := h3) rfl ?_
    rfl
  · refine mX_to 1 (k' := 46) (ls' := [some (.ref l0), some (.int l1), some (.int l2)]) (st' := [.ref l0]) (h' := h) rfl ?_
    refine mX_ck (k' := 47) (ls' := [some (.ref l0), some (.int l1), some (.int l2)]) (st' := [.ref (gR h l0 0)]) (h' := h) rfl ?_
    refine mX_to 1 (k' := 48) (ls' := [some (.ref l0), some (.int l1), some (.int l2)]) (st' := [.int l1, .ref (gR h l0 0)]) (h' := h) rfl ?_
    refine mX_ck (k' := 49) (ls' := [some (.ref l0), some (.int l1), some (.int l2)]) (st' := [.int (gI h (gR h l0 0) (ix l1))]) (h' := h) rfl ?_
    refine lt_gen (X := fun v5 : Int32 => mX (mE mtab d) KX11_undo 49 [some (.ref l0), some (.int l1), some (.int l2)] [.int v5] h) fun v5 => ?_
    refine mX_to 1 (k' := 50) (ls' := [some (.ref l0), some (.int l1), some (.int v5)]) (st' := []) (h' := h) rfl ?_
    rfl
theorem D_X11_undo_50 (d : Nat) (h : MH) (l0 : Nat) (l1 : Int32) (l2 : Int32) : mX (mE mtab d) KX11_undo 50 [some (.ref l0), some (.int l1), some (.int l2)] [] h = ck (kd h l0 = 12) (ck ((kd h (gR h l0 0) = 20 ∨ kd h (gR h l0 0) = 24) ∧ ib (0 : Int32) (ln h (gR h l0 0))) ((if l2 < (gI h (gR h l0 0) (ix (0 : Int32))) then ck (kd h l0 = 12) (ck (kd h l0 = 12) (ck ((kd h (gR h l0 0) = 20 ∨ kd h (gR h l0 0) = 24) ∧ ib (26 + l2) (ln h (gR h l0 0))) (ck (kd h (gR h l0 0) = 20 ∧ ib (9 + l2) (ln h (gR h l0 0))) (lt_ (sI h (gR h l0 0) (ix (9 + l2)) (gI h (gR h l0 0) (ix (26 + l2)))) fun h6 => mX (mE mtab d) KX11_undo 50 [some (.ref l0), some (.int l1), some (.int (l2 + 1))] [] h6)))) else mX (mE mtab d) KX11_undo 72 [some (.ref l0), some (.int l1), some (.int 0)] [] h))) := by
  refine mX_to 2 (k' := 52) (ls' := [some (.ref l0), some (.int l1), some (.int l2)]) (st' := [.ref l0, .int l2]) (h' := h) rfl ?_
  refine mX_ck (k' := 53) (ls' := [some (.ref l0), some (.int l1), some (.int l2)]) (st' := [.ref (gR h l0 0), .int l2]) (h' := h) rfl ?_
  refine mX_to 1 (k' := 54) (ls' := [some (.ref l0), some (.int l1), some (.int l2)]) (st' := [.int 0, .ref (gR h l0 0), .int l2]) (h' := h) rfl ?_
  refine mX_ck (k' := 55) (ls' := [some (.ref l0), some (.int l1), some (.int l2)]) (st' := [.int (gI h (gR h l0 0) (ix (0 : Int32))), .int l2]) (h' := h) rfl ?_
  refine mX_br (t := 56) (f := 70) (ls' := [some (.ref l0), some (.int l1), some (.int l2)]) (st' := []) (h' := h) rfl ?_ ?_
  · refine mX_to 1 (k' := 57) (ls' := [some (.ref l0), some (.int l1), some (.int l2)]) (st' := [.ref l0]) (h' := h) rfl ?_
    refine mX_ck (k' := 58) (ls' := [some (.ref l0), some (.int l1), some (.int l2)]) (st' := [.ref (gR h l0 0)]) (h' := h) rfl ?_
    refine mX_to 4 (k' := 62) (ls' := [some (.ref l0), some (.int l1), some (.int l2)]) (st' := [.ref l0, .int (9 + l2), .ref (gR h l0 0)]) (h' := h) rfl ?_
    refine mX_ck (k' := 63) (ls' := [some (.ref l0), some (.int l1), some (.int l2)]) (st' := [.ref (gR h l0 0), .int (9 + l2), .ref (gR h l0 0)]) (h' := h) rfl ?_
    refine mX_to 3 (k' := 66) (ls' := [some (.ref l0), some (.int l1), some (.int l2)]) (st' := [.int (26 + l2), .ref (gR h l0 0), .int (9 + l2), .ref (gR h l0 0)]) (h' := h) rfl ?_
    refine mX_ck (k' := 67) (ls' := [some (.ref l0), some (.int l1), some (.int l2)]) (st' := [.int (gI h (gR h l0 0) (ix (26 + l2))), .int (9 + l2), .ref (gR h l0 0)]) (h' := h) rfl ?_
    refine mX_ck (k' := 68) (ls' := [some (.ref l0), some (.int l1), some (.int l2)]) (st' := []) (h' := (sI h (gR h l0 0) (ix (9 + l2)) (gI h (gR h l0 0) (ix (26 + l2))))) rfl ?_
    refine lt_gen (X := fun h6 : MH => mX (mE mtab d) KX11_undo 68 [some (.ref l0), some (.int l1), some (.int l2)] [] h6) fun h6 => ?_
    refine mX_to 2 (k' := 50) (ls' := [some (.ref l0), some (.int l1), some (.int (l2 + 1))]) (st' := []) (h' := h6) rfl ?_
    rfl
  · refine mX_to 2 (k' := 72) (ls' := [some (.ref l0), some (.int l1), some (.int 0)]) (st' := []) (h' := h) rfl ?_
    rfl
theorem D_X11_undo_72 (d : Nat) (h : MH) (l0 : Nat) (l1 : Int32) (l2 : Int32) : mX (mE mtab d) KX11_undo 72 [some (.ref l0), some (.int l1), some (.int l2)] [] h = (if l2 < 30 then ck (kd h l0 = 12) (ck (kd h l0 = 12) (ck ((kd h (gR h l0 0) = 20 ∨ kd h (gR h l0 0) = 24) ∧ ib (((l1 + 1) + 16) + l2) (ln h (gR h l0 0))) (ck (kd h (gR h l0 0) = 20 ∧ ib (1468 + l2) (ln h (gR h l0 0))) (lt_ (sI h (gR h l0 0) (ix (1468 + l2)) (gI h (gR h l0 0) (ix (((l1 + 1) + 16) + l2)))) fun h8 => mX (mE mtab d) KX11_undo 72 [some (.ref l0), some (.int l1), some (.int (l2 + 1))] [] h8)))) else ck (kd h l0 = 12) (ck ((kd h (gR h l0 0) = 20 ∨ kd h (gR h l0 0) = 24) ∧ ib (4 : Int32) (ln h (gR h l0 0))) (some (.int (gI h (gR h l0 0) (ix (4 : Int32))), h)))) := by
  refine mX_to 2 (k' := 74) (ls' := [some (.ref l0), some (.int l1), some (.int l2)]) (st' := [.int 30, .int l2]) (h' := h) rfl ?_
  refine mX_br (t := 75) (f := 93) (ls' := [some (.ref l0), some (.int l1), some (.int l2)]) (st' := []) (h' := h) rfl ?_ ?_
  · refine mX_to 1 (k' := 76) (ls' := [some (.ref l0), some (.int l1), some (.int l2)]) (st' := [.ref l0]) (h' := h) rfl ?_
    refine mX_ck (k' := 77) (ls' := [some (.ref l0), some (.int l1), some (.int l2)]) (st' := [.ref (gR h l0 0)]) (h' := h) rfl ?_
    refine mX_to 4 (k' := 81) (ls' := [some (.ref l0), some (.int l1), some (.int l2)]) (st' := [.ref l0, .int (1468 + l2), .ref (gR h l0 0)]) (h' := h) rfl ?_
    refine mX_ck (k' := 82) (ls' := [some (.ref l0), some (.int l1), some (.int l2)]) (st' := [.ref (gR h l0 0), .int (1468 + l2), .ref (gR h l0 0)]) (h' := h) rfl ?_
    refine mX_to 7 (k' := 89) (ls' := [some (.ref l0), some (.int l1), some (.int l2)]) (st' := [.int (((l1 + 1) + 16) + l2), .ref (gR h l0 0), .int (1468 + l2), .ref (gR h l0 0)]) (h' := h) rfl ?_
    refine mX_ck (k' := 90) (ls' := [some (.ref l0), some (.int l1), some (.int l2)]) (st' := [.int (gI h (gR h l0 0) (ix (((l1 + 1) + 16) + l2))), .int (1468 + l2), .ref (gR h l0 0)]) (h' := h) rfl ?_
    refine mX_ck (k' := 91) (ls' := [some (.ref l0), some (.int l1), some (.int l2)]) (st' := []) (h' := (sI h (gR h l0 0) (ix (1468 + l2)) (gI h (gR h l0 0) (ix (((l1 + 1) + 16) + l2))))) rfl ?_
    refine lt_gen (X := fun h8 : MH => mX (mE mtab d) KX11_undo 91 [some (.ref l0), some (.int l1), some (.int l2)] [] h8) fun h8 => ?_
    refine mX_to 2 (k' := 72) (ls' := [some (.ref l0), some (.int l1), some (.int (l2 + 1))]) (st' := []) (h' := h8) rfl ?_
    rfl
  · refine mX_to 1 (k' := 94) (ls' := [some (.ref l0), some (.int l1), some (.int l2)]) (st' := [.ref l0]) (h' := h) rfl ?_
    refine mX_ck (k' := 95) (ls' := [some (.ref l0), some (.int l1), some (.int l2)]) (st' := [.ref (gR h l0 0)]) (h' := h) rfl ?_
    refine mX_to 1 (k' := 96) (ls' := [some (.ref l0), some (.int l1), some (.int l2)]) (st' := [.int 4, .ref (gR h l0 0)]) (h' := h) rfl ?_
    refine mX_ck (k' := 97) (ls' := [some (.ref l0), some (.int l1), some (.int l2)]) (st' := [.int (gI h (gR h l0 0) (ix (4 : Int32)))]) (h' := h) rfl ?_
    exact mX_reti rfl
theorem D_X11_undo (d : Nat) (h : MH) (a0 : Nat) : mE mtab (d + 1) 212 [.ref a0] h = ck (kd h a0 = 12) (ck ((kd h (gR h a0 0) = 20 ∨ kd h (gR h a0 0) = 24) ∧ ib (4 : Int32) (ln h (gR h a0 0))) ((if (gI h (gR h a0 0) (ix (4 : Int32))) = 0 then some (.int (-1), h) else ck (kd h a0 = 12) (ck ((kd h (gR h a0 0) = 20 ∨ kd h (gR h a0 0) = 24) ∧ ib (4 : Int32) (ln h (gR h a0 0))) (ck (kd h (gR h a0 0) = 20 ∧ ib (4 : Int32) (ln h (gR h a0 0))) (lt_ (sI h (gR h a0 0) (ix (4 : Int32)) ((gI h (gR h a0 0) (ix (4 : Int32))) - 1)) fun h1 => ck (kd h1 a0 = 12) (ck ((kd h1 (gR h1 a0 0) = 20 ∨ kd h1 (gR h1 a0 0) = 24) ∧ ib (4 : Int32) (ln h1 (gR h1 a0 0))) (lt_ (58 + (47 * (gI h1 (gR h1 a0 0) (ix (4 : Int32))))) fun v2 => mX (mE mtab d) KX11_undo 26 [some (.ref a0), some (.int v2), some (.int 0)] [] h1)))))))) := by
  refine mE_eq (q := (yX11_undo, cX11_undo, 3, (some .int), KX11_undo)) (C := KX11_undo) (ls := [some (.ref a0), none, none]) rfl rfl rfl rfl ?_
  refine mX_to 1 (k' := 1) (ls' := [some (.ref a0), none, none]) (st' := [.ref a0]) (h' := h) rfl ?_
  refine mX_ck (k' := 2) (ls' := [some (.ref a0), none, none]) (st' := [.ref (gR h a0 0)]) (h' := h) rfl ?_
  refine mX_to 1 (k' := 3) (ls' := [some (.ref a0), none, none]) (st' := [.int 4, .ref (gR h a0 0)]) (h' := h) rfl ?_
  refine mX_ck (k' := 4) (ls' := [some (.ref a0), none, none]) (st' := [.int (gI h (gR h a0 0) (ix (4 : Int32)))]) (h' := h) rfl ?_
  refine mX_br (t := 5) (f := 7) (ls' := [some (.ref a0), none, none]) (st' := []) (h' := h) rfl ?_ ?_
  · refine mX_to 1 (k' := 6) (ls' := [some (.ref a0), none, none]) (st' := [.int (-1)]) (h' := h) rfl ?_
    exact mX_reti rfl
  · refine mX_to 1 (k' := 8) (ls' := [some (.ref a0), none, none]) (st' := [.ref a0]) (h' := h) rfl ?_
    refine mX_ck (k' := 9) (ls' := [some (.ref a0), none, none]) (st' := [.ref (gR h a0 0)]) (h' := h) rfl ?_
    refine mX_to 2 (k' := 11) (ls' := [some (.ref a0), none, none]) (st' := [.int 4, .ref (gR h a0 0), .int 4, .ref (gR h a0 0)]) (h' := h) rfl ?_
    refine mX_ck (k' := 12) (ls' := [some (.ref a0), none, none]) (st' := [.int (gI h (gR h a0 0) (ix (4 : Int32))), .int 4, .ref (gR h a0 0)]) (h' := h) rfl ?_
    refine mX_to 2 (k' := 14) (ls' := [some (.ref a0), none, none]) (st' := [.int ((gI h (gR h a0 0) (ix (4 : Int32))) - 1), .int 4, .ref (gR h a0 0)]) (h' := h) rfl ?_
    refine mX_ck (k' := 15) (ls' := [some (.ref a0), none, none]) (st' := []) (h' := (sI h (gR h a0 0) (ix (4 : Int32)) ((gI h (gR h a0 0) (ix (4 : Int32))) - 1))) rfl ?_
    refine lt_gen (X := fun h1 : MH => mX (mE mtab d) KX11_undo 15 [some (.ref a0), none, none] [] h1) fun h1 => ?_
    refine mX_to 3 (k' := 18) (ls' := [some (.ref a0), none, none]) (st' := [.ref a0, .int 47, .int 58]) (h' := h1) rfl ?_
    refine mX_ck (k' := 19) (ls' := [some (.ref a0), none, none]) (st' := [.ref (gR h1 a0 0), .int 47, .int 58]) (h' := h1) rfl ?_
    refine mX_to 1 (k' := 20) (ls' := [some (.ref a0), none, none]) (st' := [.int 4, .ref (gR h1 a0 0), .int 47, .int 58]) (h' := h1) rfl ?_
    refine mX_ck (k' := 21) (ls' := [some (.ref a0), none, none]) (st' := [.int (gI h1 (gR h1 a0 0) (ix (4 : Int32))), .int 47, .int 58]) (h' := h1) rfl ?_
    refine mX_to 2 (k' := 23) (ls' := [some (.ref a0), none, none]) (st' := [.int (58 + (47 * (gI h1 (gR h1 a0 0) (ix (4 : Int32)))))]) (h' := h1) rfl ?_
    refine lt_gen (X := fun v2 : Int32 => mX (mE mtab d) KX11_undo 23 [some (.ref a0), none, none] [.int v2] h1) fun v2 => ?_
    refine mX_to 3 (k' := 26) (ls' := [some (.ref a0), some (.int v2), some (.int 0)]) (st' := []) (h' := h1) rfl ?_
    rfl
theorem D_X10_of (d : Nat) (h : MH) (a0 : Nat) (a1 : Int32) (a2 : Int32) : mE mtab (d + 1) 213 [.ref a0, .int a1, .int a2] h = ck (kd h a0 = 11) (ck (kd h (gR h a0 0) = 1) (lt_ (gR h (gR h a0 0) 0) fun v1 => ck (kd h v1 = 10) (cI (mE mtab d 17 [.ref v1, .int a1] h) (fun x3 h2 => (if x3 = 0 then some (.int (-2), h2) else (if a2 = 0 then ck (kd h2 v1 = 10) (ck ((kd h2 (gR h2 v1 1) = 20 ∨ kd h2 (gR h2 v1 1) = 24) ∧ ib a1 (ln h2 (gR h2 v1 1))) (some (.int (gI h2 (gR h2 v1 1) (ix a1)), h2))) else (if a2 = 1 then ck (kd h2 v1 = 10) (ck ((kd h2 (gR h2 v1 2) = 20 ∨ kd h2 (gR h2 v1 2) = 24) ∧ ib a1 (ln h2 (gR h2 v1 2))) (some (.int (gI h2 (gR h2 v1 2) (ix a1)), h2))) else (if a2 = 2 then ck (kd h2 v1 = 10) (ck ((kd h2 (gR h2 v1 3) = 20 ∨ kd h2 (gR h2 v1 3) = 24) ∧ ib a1 (ln h2 (gR h2 v1 3))) (some (.int (gI h2 (gR h2 v1 3) (ix a1)), h2))) else (if a2 = 3 then ck (kd h2 v1 = 10) (ck (kd h2 v1 = 10) (cI (mE mtab d 188 [.ref v1, .ref (gR h2 v1 9), .int a1] h2) (fun x5 h4 => some (.int x5, h4)))) else some (.int (-2), h2)))))))))) := by
  refine mE_eq (q := (yX10_of, cX10_of, 4, (some .int), KX10_of)) (C := KX10_of) (ls := [some (.ref a0), some (.int a1), some (.int a2), none]) rfl rfl rfl rfl ?_
  refine mX_to 1 (k' := 1) (ls' := [some (.ref a0), some (.int a1), some (.int a2), none]) (st' := [.ref a0]) (h' := h) rfl ?_
  refine mX_ck (k' := 2) (ls' := [some (.ref a0), some (.int a1), some (.int a2), none]) (st' := [.ref (gR h a0 0)]) (h' := h) rfl ?_
  refine mX_ck (k' := 3) (ls' := [some (.ref a0), some (.int a1), some (.int a2), none]) (st' := [.ref (gR h (gR h a0 0) 0)]) (h' := h) rfl ?_
  refine lt_gen (X := fun v1 : Nat => mX (mE mtab d) KX10_of 3 [some (.ref a0), some (.int a1), some (.int a2), none] [.ref v1] h) fun v1 => ?_
  refine mX_to 3 (k' := 6) (ls' := [some (.ref a0), some (.int a1), some (.int a2), some (.ref v1)]) (st' := [.int a1, .ref v1]) (h' := h) rfl ?_
  refine mX_ckc (m := mcl (mE mtab d 17 [.ref v1, .int a1] h) 1 7 [some (.ref a0), some (.int a1), some (.int a2), some (.ref v1)] []) rfl ?_
  refine mk_cI ?_
  intro x3 h2
  refine mX_br (t := 8) (f := 10) (ls' := [some (.ref a0), some (.int a1), some (.int a2), some (.ref v1)]) (st' := []) (h' := h2) rfl ?_ ?_
  · refine mX_to 1 (k' := 9) (ls' := [some (.ref a0), some (.int a1), some (.int a2), some (.ref v1)]) (st' := [.int (-2)]) (h' := h2) rfl ?_
    exact mX_reti rfl
  · refine mX_to 1 (k' := 11) (ls' := [some (.ref a0), some (.int a1), some (.int a2), some (.ref v1)]) (st' := [.int a2]) (h' := h2) rfl ?_
    refine mX_sw (x := a2) (t := 33) (sw := [(0, 12), (1, 17), (2, 22), (3, 27)]) (ls' := [some (.ref a0), some (.int a1), some (.int a2), some (.ref v1)]) (st' := []) (h' := h2) rfl ?_
    refine msw_cons ?_ ?_
    · refine mX_to 1 (k' := 13) (ls' := [some (.ref a0), some (.int a1), some (.int a2), some (.ref v1)]) (st' := [.ref v1]) (h' := h2) rfl ?_
      refine mX_ck (k' := 14) (ls' := [some (.ref a0), some (.int a1), some (.int a2), some (.ref v1)]) (st' := [.ref (gR h2 v1 1)]) (h' := h2) rfl ?_
      refine mX_to 1 (k' := 15) (ls' := [some (.ref a0), some (.int a1), some (.int a2), some (.ref v1)]) (st' := [.int a1, .ref (gR h2 v1 1)]) (h' := h2) rfl ?_
      refine mX_ck (k' := 16) (ls' := [some (.ref a0), some (.int a1), some (.int a2), some (.ref v1)]) (st' := [.int (gI h2 (gR h2 v1 1) (ix a1))]) (h' := h2) rfl ?_
      exact mX_reti rfl
    refine msw_cons ?_ ?_
    · refine mX_to 1 (k' := 18) (ls' := [some (.ref a0), some (.int a1), some (.int a2), some (.ref v1)]) (st' := [.ref v1]) (h' := h2) rfl ?_
      refine mX_ck (k' := 19) (ls' := [some (.ref a0), some (.int a1), some (.int a2), some (.ref v1)]) (st' := [.ref (gR h2 v1 2)]) (h' := h2) rfl ?_
      refine mX_to 1 (k' := 20) (ls' := [some (.ref a0), some (.int a1), some (.int a2), some (.ref v1)]) (st' := [.int a1, .ref (gR h2 v1 2)]) (h' := h2) rfl ?_
      refine mX_ck (k' := 21) (ls' := [some (.ref a0), some (.int a1), some (.int a2), some (.ref v1)]) (st' := [.int (gI h2 (gR h2 v1 2) (ix a1))]) (h' := h2) rfl ?_
      exact mX_reti rfl
    refine msw_cons ?_ ?_
    · refine mX_to 1 (k' := 23) (ls' := [some (.ref a0), some (.int a1), some (.int a2), some (.ref v1)]) (st' := [.ref v1]) (h' := h2) rfl ?_
      refine mX_ck (k' := 24) (ls' := [some (.ref a0), some (.int a1), some (.int a2), some (.ref v1)]) (st' := [.ref (gR h2 v1 3)]) (h' := h2) rfl ?_
      refine mX_to 1 (k' := 25) (ls' := [some (.ref a0), some (.int a1), some (.int a2), some (.ref v1)]) (st' := [.int a1, .ref (gR h2 v1 3)]) (h' := h2) rfl ?_
      refine mX_ck (k' := 26) (ls' := [some (.ref a0), some (.int a1), some (.int a2), some (.ref v1)]) (st' := [.int (gI h2 (gR h2 v1 3) (ix a1))]) (h' := h2) rfl ?_
      exact mX_reti rfl
    refine msw_cons ?_ ?_
    · refine mX_to 2 (k' := 29) (ls' := [some (.ref a0), some (.int a1), some (.int a2), some (.ref v1)]) (st' := [.ref v1, .ref v1]) (h' := h2) rfl ?_
      refine mX_ck (k' := 30) (ls' := [some (.ref a0), some (.int a1), some (.int a2), some (.ref v1)]) (st' := [.ref (gR h2 v1 9), .ref v1]) (h' := h2) rfl ?_
      refine mX_to 1 (k' := 31) (ls' := [some (.ref a0), some (.int a1), some (.int a2), some (.ref v1)]) (st' := [.int a1, .ref (gR h2 v1 9), .ref v1]) (h' := h2) rfl ?_
      refine mX_ckc (m := mcl (mE mtab d 188 [.ref v1, .ref (gR h2 v1 9), .int a1] h2) 1 32 [some (.ref a0), some (.int a1), some (.int a2), some (.ref v1)] []) rfl ?_
      refine mk_cI ?_
      intro x5 h4
      exact mX_reti rfl
    refine msw_nil ?_
    refine mX_to 1 (k' := 34) (ls' := [some (.ref a0), some (.int a1), some (.int a2), some (.ref v1)]) (st' := [.int (-2)]) (h' := h2) rfl ?_
    exact mX_reti rfl
theorem D_X11_of (d : Nat) (h : MH) (a0 : Nat) (a1 : Int32) (a2 : Int32) : mE mtab (d + 1) 214 [.ref a0, .int a1, .int a2] h = ck (kd h a0 = 12) (cI (mE mtab d 20 [.ref a0, .int a1] h) (fun x2 h1 => (if x2 = 0 then some (.int (-2), h1) else (if a2 = 0 then ck (kd h1 a0 = 12) (ck ((kd h1 (gR h1 a0 0) = 20 ∨ kd h1 (gR h1 a0 0) = 24) ∧ ib (22 + a1) (ln h1 (gR h1 a0 0))) (some (.int (gI h1 (gR h1 a0 0) (ix (22 + a1))), h1))) else (if a2 = 1 then ck (kd h1 a0 = 12) (ck ((kd h1 (gR h1 a0 0) = 20 ∨ kd h1 (gR h1 a0 0) = 24) ∧ ib (9 + a1) (ln h1 (gR h1 a0 0))) (some (.int (gI h1 (gR h1 a0 0) (ix (9 + a1))), h1))) else (if a2 = 2 then ck (kd h1 a0 = 12) (ck ((kd h1 (gR h1 a0 0) = 20 ∨ kd h1 (gR h1 a0 0) = 24) ∧ ib (30 + a1) (ln h1 (gR h1 a0 0))) (some (.int (gI h1 (gR h1 a0 0) (ix (30 + a1))), h1))) else (if a2 = 3 then ck (kd h1 a0 = 12) (ck ((kd h1 (gR h1 a0 0) = 20 ∨ kd h1 (gR h1 a0 0) = 24) ∧ ib (3 : Int32) (ln h1 (gR h1 a0 0))) (ck (kd h1 a0 = 12) (cI (mE mtab d 196 [.ref a0, .int (gI h1 (gR h1 a0 0) (ix (3 : Int32))), .int a1] h1) (fun x4 h3 => some (.int x4, h3))))) else some (.int (-2), h1)))))))) := by
  refine mE_eq (q := (yX11_of, cX11_of, 3, (some .int), KX11_of)) (C := KX11_of) (ls := [some (.ref a0), some (.int a1), some (.int a2)]) rfl rfl rfl rfl ?_
  refine mX_to 2 (k' := 2) (ls' := [some (.ref a0), some (.int a1), some (.int a2)]) (st' := [.int a1, .ref a0]) (h' := h) rfl ?_
  refine mX_ckc (m := mcl (mE mtab d 20 [.ref a0, .int a1] h) 1 3 [some (.ref a0), some (.int a1), some (.int a2)] []) rfl ?_
  refine mk_cI ?_
  intro x2 h1
  refine mX_br (t := 4) (f := 6) (ls' := [some (.ref a0), some (.int a1), some (.int a2)]) (st' := []) (h' := h1) rfl ?_ ?_
  · refine mX_to 1 (k' := 5) (ls' := [some (.ref a0), some (.int a1), some (.int a2)]) (st' := [.int (-2)]) (h' := h1) rfl ?_
    exact mX_reti rfl
  · refine mX_to 1 (k' := 7) (ls' := [some (.ref a0), some (.int a1), some (.int a2)]) (st' := [.int a2]) (h' := h1) rfl ?_
    refine mX_br (t := 8) (f := 15) (ls' := [some (.ref a0), some (.int a1), some (.int a2)]) (st' := []) (h' := h1) rfl ?_ ?_
    · refine mX_to 1 (k' := 9) (ls' := [some (.ref a0), some (.int a1), some (.int a2)]) (st' := [.ref a0]) (h' := h1) rfl ?_
      refine mX_ck (k' := 10) (ls' := [some (.ref a0), some (.int a1), some (.int a2)]) (st' := [.ref (gR h1 a0 0)]) (h' := h1) rfl ?_
      refine mX_to 3 (k' := 13) (ls' := [some (.ref a0), some (.int a1), some (.int a2)]) (st' := [.int (22 + a1), .ref (gR h1 a0 0)]) (h' := h1) rfl ?_
      refine mX_ck (k' := 14) (ls' := [some (.ref a0), some (.int a1), some (.int a2)]) (st' := [.int (gI h1 (gR h1 a0 0) (ix (22 + a1)))]) (h' := h1) rfl ?_
      refine mX_to 1 (k' := 47) (ls' := [some (.ref a0), some (.int a1), some (.int a2)]) (st' := [.int (gI h1 (gR h1 a0 0) (ix (22 + a1)))]) (h' := h1) rfl ?_
      exact mX_reti rfl
    · refine mX_to 2 (k' := 17) (ls' := [some (.ref a0), some (.int a1), some (.int a2)]) (st' := [.int 1, .int a2]) (h' := h1) rfl ?_
      refine mX_br (t := 18) (f := 25) (ls' := [some (.ref a0), some (.int a1), some (.int a2)]) (st' := []) (h' := h1) rfl ?_ ?_
      · refine mX_to 1 (k' := 19) (ls' := [some (.ref a0), some (.int a1), some (.int a2)]) (st' := [.ref a0]) (h' := h1) rfl ?_
        refine mX_ck (k' := 20) (ls' := [some (.ref a0), some (.int a1), some (.int a2)]) (st' := [.ref (gR h1 a0 0)]) (h' := h1) rfl ?_
        refine mX_to 3 (k' := 23) (ls' := [some (.ref a0), some (.int a1), some (.int a2)]) (st' := [.int (9 + a1), .ref (gR h1 a0 0)]) (h' := h1) rfl ?_
        refine mX_ck (k' := 24) (ls' := [some (.ref a0), some (.int a1), some (.int a2)]) (st' := [.int (gI h1 (gR h1 a0 0) (ix (9 + a1)))]) (h' := h1) rfl ?_
        refine mX_to 1 (k' := 47) (ls' := [some (.ref a0), some (.int a1), some (.int a2)]) (st' := [.int (gI h1 (gR h1 a0 0) (ix (9 + a1)))]) (h' := h1) rfl ?_
        exact mX_reti rfl
      · refine mX_to 2 (k' := 27) (ls' := [some (.ref a0), some (.int a1), some (.int a2)]) (st' := [.int 2, .int a2]) (h' := h1) rfl ?_
        refine mX_br (t := 28) (f := 35) (ls' := [some (.ref a0), some (.int a1), some (.int a2)]) (st' := []) (h' := h1) rfl ?_ ?_
        · refine mX_to 1 (k' := 29) (ls' := [some (.ref a0), some (.int a1), some (.int a2)]) (st' := [.ref a0]) (h' := h1) rfl ?_
          refine mX_ck (k' := 30) (ls' := [some (.ref a0), some (.int a1), some (.int a2)]) (st' := [.ref (gR h1 a0 0)]) (h' := h1) rfl ?_
          refine mX_to 3 (k' := 33) (ls' := [some (.ref a0), some (.int a1), some (.int a2)]) (st' := [.int (30 + a1), .ref (gR h1 a0 0)]) (h' := h1) rfl ?_
          refine mX_ck (k' := 34) (ls' := [some (.ref a0), some (.int a1), some (.int a2)]) (st' := [.int (gI h1 (gR h1 a0 0) (ix (30 + a1)))]) (h' := h1) rfl ?_
          refine mX_to 1 (k' := 47) (ls' := [some (.ref a0), some (.int a1), some (.int a2)]) (st' := [.int (gI h1 (gR h1 a0 0) (ix (30 + a1)))]) (h' := h1) rfl ?_
          exact mX_reti rfl
        · refine mX_to 2 (k' := 37) (ls' := [some (.ref a0), some (.int a1), some (.int a2)]) (st' := [.int 3, .int a2]) (h' := h1) rfl ?_
          refine mX_br (t := 38) (f := 46) (ls' := [some (.ref a0), some (.int a1), some (.int a2)]) (st' := []) (h' := h1) rfl ?_ ?_
          · refine mX_to 2 (k' := 40) (ls' := [some (.ref a0), some (.int a1), some (.int a2)]) (st' := [.ref a0, .ref a0]) (h' := h1) rfl ?_
            refine mX_ck (k' := 41) (ls' := [some (.ref a0), some (.int a1), some (.int a2)]) (st' := [.ref (gR h1 a0 0), .ref a0]) (h' := h1) rfl ?_
            refine mX_to 1 (k' := 42) (ls' := [some (.ref a0), some (.int a1), some (.int a2)]) (st' := [.int 3, .ref (gR h1 a0 0), .ref a0]) (h' := h1) rfl ?_
            refine mX_ck (k' := 43) (ls' := [some (.ref a0), some (.int a1), some (.int a2)]) (st' := [.int (gI h1 (gR h1 a0 0) (ix (3 : Int32))), .ref a0]) (h' := h1) rfl ?_
            refine mX_to 1 (k' := 44) (ls' := [some (.ref a0), some (.int a1), some (.int a2)]) (st' := [.int a1, .int (gI h1 (gR h1 a0 0) (ix (3 : Int32))), .ref a0]) (h' := h1) rfl ?_
            refine mX_ckc (m := mcl (mE mtab d 196 [.ref a0, .int (gI h1 (gR h1 a0 0) (ix (3 : Int32))), .int a1] h1) 1 45 [some (.ref a0), some (.int a1), some (.int a2)] []) rfl ?_
            refine mk_cI ?_
            intro x4 h3
            refine mX_to 1 (k' := 47) (ls' := [some (.ref a0), some (.int a1), some (.int a2)]) (st' := [.int x4]) (h' := h3) rfl ?_
            exact mX_reti rfl
          · refine mX_to 1 (k' := 47) (ls' := [some (.ref a0), some (.int a1), some (.int a2)]) (st' := [.int (-2)]) (h' := h1) rfl ?_
            exact mX_reti rfl
theorem D_X9_peopleAt_4 (d : Nat) (h : MH) (l0 : Nat) (l1 : Int32) (l2 : Int32) (l3 : Int32) : mX (mE mtab d) KX9_peopleAt 4 [some (.ref l0), some (.int l1), some (.int l2), some (.int l3)] [] h = ck (kd h l0 = 10) ((if l3 < (gI h l0 0) then ck (kd h l0 = 10) (ck ((kd h (gR h l0 2) = 20 ∨ kd h (gR h l0 2) = 24) ∧ ib l3 (ln h (gR h l0 2))) ((if (gI h (gR h l0 2) (ix l3)) = l1 then lt_ (l2 ||| (1 <<< (l3 &&& 31))) fun v1 => mX (mE mtab d) KX9_peopleAt 20 [some (.ref l0), some (.int l1), some (.int v1), some (.int l3)] [] h else mX (mE mtab d) KX9_peopleAt 20 [some (.ref l0), some (.int l1), some (.int l2), some (.int l3)] [] h))) else some (.int l2, h))) := by
  refine mX_to 2 (k' := 6) (ls' := [some (.ref l0), some (.int l1), some (.int l2), some (.int l3)]) (st' := [.ref l0, .int l3]) (h' := h) rfl ?_
  refine mX_ck (k' := 7) (ls' := [some (.ref l0), some (.int l1), some (.int l2), some (.int l3)]) (st' := [.int (gI h l0 0), .int l3]) (h' := h) rfl ?_
  refine mX_br (t := 8) (f := 22) (ls' := [some (.ref l0), some (.int l1), some (.int l2), some (.int l3)]) (st' := []) (h' := h) rfl ?_ ?_
  · refine mX_to 1 (k' := 9) (ls' := [some (.ref l0), some (.int l1), some (.int l2), some (.int l3)]) (st' := [.ref l0]) (h' := h) rfl ?_
    refine mX_ck (k' := 10) (ls' := [some (.ref l0), some (.int l1), some (.int l2), some (.int l3)]) (st' := [.ref (gR h l0 2)]) (h' := h) rfl ?_
    refine mX_to 1 (k' := 11) (ls' := [some (.ref l0), some (.int l1), some (.int l2), some (.int l3)]) (st' := [.int l3, .ref (gR h l0 2)]) (h' := h) rfl ?_
    refine mX_ck (k' := 12) (ls' := [some (.ref l0), some (.int l1), some (.int l2), some (.int l3)]) (st' := [.int (gI h (gR h l0 2) (ix l3))]) (h' := h) rfl ?_
    refine mX_to 1 (k' := 13) (ls' := [some (.ref l0), some (.int l1), some (.int l2), some (.int l3)]) (st' := [.int l1, .int (gI h (gR h l0 2) (ix l3))]) (h' := h) rfl ?_
    refine mX_br (t := 14) (f := 20) (ls' := [some (.ref l0), some (.int l1), some (.int l2), some (.int l3)]) (st' := []) (h' := h) rfl ?_ ?_
    · refine mX_to 5 (k' := 19) (ls' := [some (.ref l0), some (.int l1), some (.int l2), some (.int l3)]) (st' := [.int (l2 ||| (1 <<< (l3 &&& 31)))]) (h' := h) rfl ?_
      refine lt_gen (X := fun v1 : Int32 => mX (mE mtab d) KX9_peopleAt 19 [some (.ref l0), some (.int l1), some (.int l2), some (.int l3)] [.int v1] h) fun v1 => ?_
      refine mX_to 1 (k' := 20) (ls' := [some (.ref l0), some (.int l1), some (.int v1), some (.int l3)]) (st' := []) (h' := h) rfl ?_
      rfl
    · rfl
  · refine mX_to 1 (k' := 23) (ls' := [some (.ref l0), some (.int l1), some (.int l2), some (.int l3)]) (st' := [.int l2]) (h' := h) rfl ?_
    exact mX_reti rfl
theorem D_X9_peopleAt_20 (d : Nat) (h : MH) (l0 : Nat) (l1 : Int32) (l2 : Int32) (l3 : Int32) : mX (mE mtab d) KX9_peopleAt 20 [some (.ref l0), some (.int l1), some (.int l2), some (.int l3)] [] h = mX (mE mtab d) KX9_peopleAt 4 [some (.ref l0), some (.int l1), some (.int l2), some (.int (l3 + 1))] [] h := by
  refine mX_to 2 (k' := 4) (ls' := [some (.ref l0), some (.int l1), some (.int l2), some (.int (l3 + 1))]) (st' := []) (h' := h) rfl ?_
  rfl
theorem D_X9_peopleAt (d : Nat) (h : MH) (a0 : Nat) (a1 : Int32) : mE mtab (d + 1) 215 [.ref a0, .int a1] h = mX (mE mtab d) KX9_peopleAt 4 [some (.ref a0), some (.int a1), some (.int 0), some (.int 0)] [] h := by
  refine mE_eq (q := (yX9_peopleAt, cX9_peopleAt, 4, (some .int), KX9_peopleAt)) (C := KX9_peopleAt) (ls := [some (.ref a0), some (.int a1), none, none]) rfl rfl rfl rfl ?_
  refine mX_to 4 (k' := 4) (ls' := [some (.ref a0), some (.int a1), some (.int 0), some (.int 0)]) (st' := []) (h' := h) rfl ?_
  rfl
theorem D_X10_place (d : Nat) (h : MH) (a0 : Nat) (a1 : Int32) (a2 : Int32) : mE mtab (d + 1) 216 [.ref a0, .int a1, .int a2] h = cI (mE mtab d 11 [.int a1, .int 0, .int 8] h) (fun x2 h1 => (if x2 = 0 then some (.int (-1), h1) else (if a2 = 0 then ck (kd h1 a0 = 11) (ck (kd h1 (gR h1 a0 0) = 1) (ck (kd h1 (gR h1 (gR h1 a0 0) 0) = 10) (ck ((kd h1 (gR h1 (gR h1 (gR h1 a0 0) 0) 4) = 20 ∨ kd h1 (gR h1 (gR h1 (gR h1 a0 0) 0) 4) = 24) ∧ ib a1 (ln h1 (gR h1 (gR h1 (gR h1 a0 0) 0) 4))) (some (.int (gI h1 (gR h1 (gR h1 (gR h1 a0 0) 0) 4) (ix a1)), h1))))) else (if a2 = 1 then ck (kd h1 a0 = 11) (ck (kd h1 (gR h1 a0 0) = 1) (ck (kd h1 (gR h1 (gR h1 a0 0) 0) = 10) (cI (mE mtab d 215 [.ref (gR h1 (gR h1 a0 0) 0), .int a1] h1) (fun x4 h3 => some (.int x4, h3))))) else (if a2 = 2 then ck (kd h1 a0 = 11) (ck (kd h1 (gR h1 a0 0) = 1) (ck (kd h1 (gR h1 (gR h1 a0 0) 0) = 10) (cI (mE mtab d 141 [.ref (gR h1 (gR h1 a0 0) 0), .int a1] h1) (fun x6 h5 => some (.int x6, h5))))) else some (.int (-1), h1)))))) := by
  refine mE_eq (q := (yX10_place, cX10_place, 3, (some .int), KX10_place)) (C := KX10_place) (ls := [some (.ref a0), some (.int a1), some (.int a2)]) rfl rfl rfl rfl ?_
  refine mX_to 3 (k' := 3) (ls' := [some (.ref a0), some (.int a1), some (.int a2)]) (st' := [.int 8, .int 0, .int a1]) (h' := h) rfl ?_
  refine mX_cI (o := mE mtab d 11 [.int a1, .int 0, .int 8] h) (k' := 4) (ls' := [some (.ref a0), some (.int a1), some (.int a2)]) (st' := []) rfl ?_
  intro x2 h1
  refine mX_br (t := 5) (f := 7) (ls' := [some (.ref a0), some (.int a1), some (.int a2)]) (st' := []) (h' := h1) rfl ?_ ?_
  · refine mX_to 1 (k' := 6) (ls' := [some (.ref a0), some (.int a1), some (.int a2)]) (st' := [.int (-1)]) (h' := h1) rfl ?_
    exact mX_reti rfl
  · refine mX_to 1 (k' := 8) (ls' := [some (.ref a0), some (.int a1), some (.int a2)]) (st' := [.int a2]) (h' := h1) rfl ?_
    refine mX_sw (x := a2) (t := 28) (sw := [(0, 9), (1, 16), (2, 22)]) (ls' := [some (.ref a0), some (.int a1), some (.int a2)]) (st' := []) (h' := h1) rfl ?_
    refine msw_cons ?_ ?_
    · refine mX_to 1 (k' := 10) (ls' := [some (.ref a0), some (.int a1), some (.int a2)]) (st' := [.ref a0]) (h' := h1) rfl ?_
      refine mX_ck (k' := 11) (ls' := [some (.ref a0), some (.int a1), some (.int a2)]) (st' := [.ref (gR h1 a0 0)]) (h' := h1) rfl ?_
      refine mX_ck (k' := 12) (ls' := [some (.ref a0), some (.int a1), some (.int a2)]) (st' := [.ref (gR h1 (gR h1 a0 0) 0)]) (h' := h1) rfl ?_
      refine mX_ck (k' := 13) (ls' := [some (.ref a0), some (.int a1), some (.int a2)]) (st' := [.ref (gR h1 (gR h1 (gR h1 a0 0) 0) 4)]) (h' := h1) rfl ?_
      refine mX_to 1 (k' := 14) (ls' := [some (.ref a0), some (.int a1), some (.int a2)]) (st' := [.int a1, .ref (gR h1 (gR h1 (gR h1 a0 0) 0) 4)]) (h' := h1) rfl ?_
      refine mX_ck (k' := 15) (ls' := [some (.ref a0), some (.int a1), some (.int a2)]) (st' := [.int (gI h1 (gR h1 (gR h1 (gR h1 a0 0) 0) 4) (ix a1))]) (h' := h1) rfl ?_
      exact mX_reti rfl
    refine msw_cons ?_ ?_
    · refine mX_to 1 (k' := 17) (ls' := [some (.ref a0), some (.int a1), some (.int a2)]) (st' := [.ref a0]) (h' := h1) rfl ?_
      refine mX_ck (k' := 18) (ls' := [some (.ref a0), some (.int a1), some (.int a2)]) (st' := [.ref (gR h1 a0 0)]) (h' := h1) rfl ?_
      refine mX_ck (k' := 19) (ls' := [some (.ref a0), some (.int a1), some (.int a2)]) (st' := [.ref (gR h1 (gR h1 a0 0) 0)]) (h' := h1) rfl ?_
      refine mX_to 1 (k' := 20) (ls' := [some (.ref a0), some (.int a1), some (.int a2)]) (st' := [.int a1, .ref (gR h1 (gR h1 a0 0) 0)]) (h' := h1) rfl ?_
      refine mX_ckc (m := mcl (mE mtab d 215 [.ref (gR h1 (gR h1 a0 0) 0), .int a1] h1) 1 21 [some (.ref a0), some (.int a1), some (.int a2)] []) rfl ?_
      refine mk_cI ?_
      intro x4 h3
      exact mX_reti rfl
    refine msw_cons ?_ ?_
    · refine mX_to 1 (k' := 23) (ls' := [some (.ref a0), some (.int a1), some (.int a2)]) (st' := [.ref a0]) (h' := h1) rfl ?_
      refine mX_ck (k' := 24) (ls' := [some (.ref a0), some (.int a1), some (.int a2)]) (st' := [.ref (gR h1 a0 0)]) (h' := h1) rfl ?_
      refine mX_ck (k' := 25) (ls' := [some (.ref a0), some (.int a1), some (.int a2)]) (st' := [.ref (gR h1 (gR h1 a0 0) 0)]) (h' := h1) rfl ?_
      refine mX_to 1 (k' := 26) (ls' := [some (.ref a0), some (.int a1), some (.int a2)]) (st' := [.int a1, .ref (gR h1 (gR h1 a0 0) 0)]) (h' := h1) rfl ?_
      refine mX_ckc (m := mcl (mE mtab d 141 [.ref (gR h1 (gR h1 a0 0) 0), .int a1] h1) 1 27 [some (.ref a0), some (.int a1), some (.int a2)] []) rfl ?_
      refine mk_cI ?_
      intro x6 h5
      exact mX_reti rfl
    refine msw_nil ?_
    refine mX_to 1 (k' := 29) (ls' := [some (.ref a0), some (.int a1), some (.int a2)]) (st' := [.int (-1)]) (h' := h1) rfl ?_
    exact mX_reti rfl
theorem D_X11_place (d : Nat) (h : MH) (a0 : Nat) (a1 : Int32) (a2 : Int32) : mE mtab (d + 1) 217 [.ref a0, .int a1, .int a2] h = cI (mE mtab d 15 [.int a1] h) (fun x2 h1 => (if x2 = 0 then some (.int (-1), h1) else (if a2 = 0 then ck (kd h1 a0 = 12) (ck ((kd h1 (gR h1 a0 0) = 20 ∨ kd h1 (gR h1 a0 0) = 24) ∧ ib (13 + a1) (ln h1 (gR h1 a0 0))) (some (.int (gI h1 (gR h1 a0 0) (ix (13 + a1))), h1))) else (if a2 = 1 then ck (kd h1 a0 = 12) (cI (mE mtab d 161 [.ref a0, .int a1] h1) (fun x4 h3 => some (.int x4, h3))) else (if a2 = 2 then ck (kd h1 a0 = 12) (cI (mE mtab d 162 [.ref a0, .int a1] h1) (fun x6 h5 => some (.int x6, h5))) else some (.int (-1), h1)))))) := by
  refine mE_eq (q := (yX11_place, cX11_place, 3, (some .int), KX11_place)) (C := KX11_place) (ls := [some (.ref a0), some (.int a1), some (.int a2)]) rfl rfl rfl rfl ?_
  refine mX_to 1 (k' := 1) (ls' := [some (.ref a0), some (.int a1), some (.int a2)]) (st' := [.int a1]) (h' := h) rfl ?_
  refine mX_cI (o := mE mtab d 15 [.int a1] h) (k' := 2) (ls' := [some (.ref a0), some (.int a1), some (.int a2)]) (st' := []) rfl ?_
  intro x2 h1
  refine mX_br (t := 3) (f := 5) (ls' := [some (.ref a0), some (.int a1), some (.int a2)]) (st' := []) (h' := h1) rfl ?_ ?_
  · refine mX_to 1 (k' := 4) (ls' := [some (.ref a0), some (.int a1), some (.int a2)]) (st' := [.int (-1)]) (h' := h1) rfl ?_
    exact mX_reti rfl
  · refine mX_to 1 (k' := 6) (ls' := [some (.ref a0), some (.int a1), some (.int a2)]) (st' := [.int a2]) (h' := h1) rfl ?_
    refine mX_br (t := 7) (f := 14) (ls' := [some (.ref a0), some (.int a1), some (.int a2)]) (st' := []) (h' := h1) rfl ?_ ?_
    · refine mX_to 1 (k' := 8) (ls' := [some (.ref a0), some (.int a1), some (.int a2)]) (st' := [.ref a0]) (h' := h1) rfl ?_
      refine mX_ck (k' := 9) (ls' := [some (.ref a0), some (.int a1), some (.int a2)]) (st' := [.ref (gR h1 a0 0)]) (h' := h1) rfl ?_
      refine mX_to 3 (k' := 12) (ls' := [some (.ref a0), some (.int a1), some (.int a2)]) (st' := [.int (13 + a1), .ref (gR h1 a0 0)]) (h' := h1) rfl ?_
      refine mX_ck (k' := 13) (ls' := [some (.ref a0), some (.int a1), some (.int a2)]) (st' := [.int (gI h1 (gR h1 a0 0) (ix (13 + a1)))]) (h' := h1) rfl ?_
      refine mX_to 1 (k' := 29) (ls' := [some (.ref a0), some (.int a1), some (.int a2)]) (st' := [.int (gI h1 (gR h1 a0 0) (ix (13 + a1)))]) (h' := h1) rfl ?_
      exact mX_reti rfl
    · refine mX_to 2 (k' := 16) (ls' := [some (.ref a0), some (.int a1), some (.int a2)]) (st' := [.int 1, .int a2]) (h' := h1) rfl ?_
      refine mX_br (t := 17) (f := 21) (ls' := [some (.ref a0), some (.int a1), some (.int a2)]) (st' := []) (h' := h1) rfl ?_ ?_
      · refine mX_to 2 (k' := 19) (ls' := [some (.ref a0), some (.int a1), some (.int a2)]) (st' := [.int a1, .ref a0]) (h' := h1) rfl ?_
        refine mX_ckc (m := mcl (mE mtab d 161 [.ref a0, .int a1] h1) 1 20 [some (.ref a0), some (.int a1), some (.int a2)] []) rfl ?_
        refine mk_cI ?_
        intro x4 h3
        refine mX_to 1 (k' := 29) (ls' := [some (.ref a0), some (.int a1), some (.int a2)]) (st' := [.int x4]) (h' := h3) rfl ?_
        exact mX_reti rfl
      · refine mX_to 2 (k' := 23) (ls' := [some (.ref a0), some (.int a1), some (.int a2)]) (st' := [.int 2, .int a2]) (h' := h1) rfl ?_
        refine mX_br (t := 24) (f := 28) (ls' := [some (.ref a0), some (.int a1), some (.int a2)]) (st' := []) (h' := h1) rfl ?_ ?_
        · refine mX_to 2 (k' := 26) (ls' := [some (.ref a0), some (.int a1), some (.int a2)]) (st' := [.int a1, .ref a0]) (h' := h1) rfl ?_
          refine mX_ckc (m := mcl (mE mtab d 162 [.ref a0, .int a1] h1) 1 27 [some (.ref a0), some (.int a1), some (.int a2)] []) rfl ?_
          refine mk_cI ?_
          intro x6 h5
          refine mX_to 1 (k' := 29) (ls' := [some (.ref a0), some (.int a1), some (.int a2)]) (st' := [.int x6]) (h' := h5) rfl ?_
          exact mX_reti rfl
        · refine mX_to 1 (k' := 29) (ls' := [some (.ref a0), some (.int a1), some (.int a2)]) (st' := [.int (-1)]) (h' := h1) rfl ?_
          exact mX_reti rfl
theorem D_X9_weightOfAll_4 (d : Nat) (h : MH) (l0 : Nat) (l1 : Int32) (l2 : Int32) : mX (mE mtab d) KX9_weightOfAll 4 [some (.ref l0), some (.int l1), some (.int l2)] [] h = ck (kd h l0 = 10) ((if l2 < (gI h l0 0) then ck (kd h l0 = 10) (ck ((kd h (gR h l0 1) = 20 ∨ kd h (gR h l0 1) = 24) ∧ ib l2 (ln h (gR h l0 1))) (lt_ (l1 + (gI h (gR h l0 1) (ix l2))) fun v1 => mX (mE mtab d) KX9_weightOfAll 4 [some (.ref l0), some (.int v1), some (.int (l2 + 1))] [] h)) else mX (mE mtab d) KX9_weightOfAll 19 [some (.ref l0), some (.int l1), some (.int 0)] [] h)) := by
  refine mX_to 2 (k' := 6) (ls' := [some (.ref l0), some (.int l1), some (.int l2)]) (st' := [.ref l0, .int l2]) (h' := h) rfl ?_
  refine mX_ck (k' := 7) (ls' := [some (.ref l0), some (.int l1), some (.int l2)]) (st' := [.int (gI h l0 0), .int l2]) (h' := h) rfl ?_
  refine mX_br (t := 8) (f := 17) (ls' := [some (.ref l0), some (.int l1), some (.int l2)]) (st' := []) (h' := h) rfl ?_ ?_
  · refine mX_to 2 (k' := 10) (ls' := [some (.ref l0), some (.int l1), some (.int l2)]) (st' := [.ref l0, .int l1]) (h' := h) rfl ?_
    refine mX_ck (k' := 11) (ls' := [some (.ref l0), some (.int l1), some (.int l2)]) (st' := [.ref (gR h l0 1), .int l1]) (h' := h) rfl ?_
    refine mX_to 1 (k' := 12) (ls' := [some (.ref l0), some (.int l1), some (.int l2)]) (st' := [.int l2, .ref (gR h l0 1), .int l1]) (h' := h) rfl ?_
    refine mX_ck (k' := 13) (ls' := [some (.ref l0), some (.int l1), some (.int l2)]) (st' := [.int (gI h (gR h l0 1) (ix l2)), .int l1]) (h' := h) rfl ?_
    refine mX_to 1 (k' := 14) (ls' := [some (.ref l0), some (.int l1), some (.int l2)]) (st' := [.int (l1 + (gI h (gR h l0 1) (ix l2)))]) (h' := h) rfl ?_
    refine lt_gen (X := fun v1 : Int32 => mX (mE mtab d) KX9_weightOfAll 14 [some (.ref l0), some (.int l1), some (.int l2)] [.int v1] h) fun v1 => ?_
    refine mX_to 3 (k' := 4) (ls' := [some (.ref l0), some (.int v1), some (.int (l2 + 1))]) (st' := []) (h' := h) rfl ?_
    rfl
  · refine mX_to 2 (k' := 19) (ls' := [some (.ref l0), some (.int l1), some (.int 0)]) (st' := []) (h' := h) rfl ?_
    rfl
theorem D_X9_weightOfAll_19 (d : Nat) (h : MH) (l0 : Nat) (l1 : Int32) (l2 : Int32) : mX (mE mtab d) KX9_weightOfAll 19 [some (.ref l0), some (.int l1), some (.int l2)] [] h = (if l2 < 9 then ck (kd h l0 = 10) (ck ((kd h (gR h l0 4) = 20 ∨ kd h (gR h l0 4) = 24) ∧ ib l2 (ln h (gR h l0 4))) (lt_ (l1 + (gI h (gR h l0 4) (ix l2))) fun v3 => mX (mE mtab d) KX9_weightOfAll 19 [some (.ref l0), some (.int v3), some (.int (l2 + 1))] [] h)) else some (.int l1, h)) := by
  refine mX_to 2 (k' := 21) (ls' := [some (.ref l0), some (.int l1), some (.int l2)]) (st' := [.int 9, .int l2]) (h' := h) rfl ?_
  refine mX_br (t := 22) (f := 31) (ls' := [some (.ref l0), some (.int l1), some (.int l2)]) (st' := []) (h' := h) rfl ?_ ?_
  · refine mX_to 2 (k' := 24) (ls' := [some (.ref l0), some (.int l1), some (.int l2)]) (st' := [.ref l0, .int l1]) (h' := h) rfl ?_
    refine mX_ck (k' := 25) (ls' := [some (.ref l0), some (.int l1), some (.int l2)]) (st' := [.ref (gR h l0 4), .int l1]) (h' := h) rfl ?_
    refine mX_to 1 (k' := 26) (ls' := [some (.ref l0), some (.int l1), some (.int l2)]) (st' := [.int l2, .ref (gR h l0 4), .int l1]) (h' := h) rfl ?_
    refine mX_ck (k' := 27) (ls' := [some (.ref l0), some (.int l1), some (.int l2)]) (st' := [.int (gI h (gR h l0 4) (ix l2)), .int l1]) (h' := h) rfl ?_
    refine mX_to 1 (k' := 28) (ls' := [some (.ref l0), some (.int l1), some (.int l2)]) (st' := [.int (l1 + (gI h (gR h l0 4) (ix l2)))]) (h' := h) rfl ?_
    refine lt_gen (X := fun v3 : Int32 => mX (mE mtab d) KX9_weightOfAll 28 [some (.ref l0), some (.int l1), some (.int l2)] [.int v3] h) fun v3 => ?_
    refine mX_to 3 (k' := 19) (ls' := [some (.ref l0), some (.int v3), some (.int (l2 + 1))]) (st' := []) (h' := h) rfl ?_
    rfl
  · refine mX_to 1 (k' := 32) (ls' := [some (.ref l0), some (.int l1), some (.int l2)]) (st' := [.int l1]) (h' := h) rfl ?_
    exact mX_reti rfl
theorem D_X9_weightOfAll (d : Nat) (h : MH) (a0 : Nat) : mE mtab (d + 1) 218 [.ref a0] h = mX (mE mtab d) KX9_weightOfAll 4 [some (.ref a0), some (.int 0), some (.int 0)] [] h := by
  refine mE_eq (q := (yX9_weightOfAll, cX9_weightOfAll, 3, (some .int), KX9_weightOfAll)) (C := KX9_weightOfAll) (ls := [some (.ref a0), none, none]) rfl rfl rfl rfl ?_
  refine mX_to 4 (k' := 4) (ls' := [some (.ref a0), some (.int 0), some (.int 0)]) (st' := []) (h' := h) rfl ?_
  rfl
theorem D_X10_is (d : Nat) (h : MH) (a0 : Nat) (a1 : Int32) : mE mtab (d + 1) 219 [.ref a0, .int a1] h = ck (kd h a0 = 11) (ck (kd h (gR h a0 0) = 1) (lt_ (gR h (gR h a0 0) 0) fun v1 => (if a1 = 0 then ck (kd h v1 = 10) (some (.int (gI h v1 5), h)) else (if a1 = 1 then ck (kd h v1 = 10) (some (.int (gI h v1 6), h)) else (if a1 = 2 then ck (kd h v1 = 10) (cI (mE mtab d 139 [.ref v1] h) (fun x3 h2 => some (.int x3, h2))) else (if a1 = 3 then ck (kd h v1 = 10) (cI (mE mtab d 145 [.ref v1] h) (fun x5 h4 => some (.int x5, h4))) else (if a1 = 4 then ck (kd h v1 = 10) (cI (mE mtab d 218 [.ref v1] h) (fun x7 h6 => some (.int x7, h6))) else some (.int (-1000), h)))))))) := by
  refine mE_eq (q := (yX10_is, cX10_is, 3, (some .int), KX10_is)) (C := KX10_is) (ls := [some (.ref a0), some (.int a1), none]) rfl rfl rfl rfl ?_
  refine mX_to 1 (k' := 1) (ls' := [some (.ref a0), some (.int a1), none]) (st' := [.ref a0]) (h' := h) rfl ?_
  refine mX_ck (k' := 2) (ls' := [some (.ref a0), some (.int a1), none]) (st' := [.ref (gR h a0 0)]) (h' := h) rfl ?_
  refine mX_ck (k' := 3) (ls' := [some (.ref a0), some (.int a1), none]) (st' := [.ref (gR h (gR h a0 0) 0)]) (h' := h) rfl ?_
  refine lt_gen (X := fun v1 : Nat => mX (mE mtab d) KX10_is 3 [some (.ref a0), some (.int a1), none] [.ref v1] h) fun v1 => ?_
  refine mX_to 2 (k' := 5) (ls' := [some (.ref a0), some (.int a1), some (.ref v1)]) (st' := [.int a1]) (h' := h) rfl ?_
  refine mX_sw (x := a1) (t := 21) (sw := [(0, 6), (1, 9), (2, 12), (3, 15), (4, 18)]) (ls' := [some (.ref a0), some (.int a1), some (.ref v1)]) (st' := []) (h' := h) rfl ?_
  refine msw_cons ?_ ?_
  · refine mX_to 1 (k' := 7) (ls' := [some (.ref a0), some (.int a1), some (.ref v1)]) (st' := [.ref v1]) (h' := h) rfl ?_
    refine mX_ck (k' := 8) (ls' := [some (.ref a0), some (.int a1), some (.ref v1)]) (st' := [.int (gI h v1 5)]) (h' := h) rfl ?_
    exact mX_reti rfl
  refine msw_cons ?_ ?_
  · refine mX_to 1 (k' := 10) (ls' := [some (.ref a0), some (.int a1), some (.ref v1)]) (st' := [.ref v1]) (h' := h) rfl ?_
    refine mX_ck (k' := 11) (ls' := [some (.ref a0), some (.int a1), some (.ref v1)]) (st' := [.int (gI h v1 6)]) (h' := h) rfl ?_
    exact mX_reti rfl
  refine msw_cons ?_ ?_
  · refine mX_to 1 (k' := 13) (ls' := [some (.ref a0), some (.int a1), some (.ref v1)]) (st' := [.ref v1]) (h' := h) rfl ?_
    refine mX_ckc (m := mcl (mE mtab d 139 [.ref v1] h) 1 14 [some (.ref a0), some (.int a1), some (.ref v1)] []) rfl ?_
    refine mk_cI ?_
    intro x3 h2
    exact mX_reti rfl
  refine msw_cons ?_ ?_
  · refine mX_to 1 (k' := 16) (ls' := [some (.ref a0), some (.int a1), some (.ref v1)]) (st' := [.ref v1]) (h' := h) rfl ?_
    refine mX_ckc (m := mcl (mE mtab d 145 [.ref v1] h) 1 17 [some (.ref a0), some (.int a1), some (.ref v1)] []) rfl ?_
    refine mk_cI ?_
    intro x5 h4
    exact mX_reti rfl
  refine msw_cons ?_ ?_
  · refine mX_to 1 (k' := 19) (ls' := [some (.ref a0), some (.int a1), some (.ref v1)]) (st' := [.ref v1]) (h' := h) rfl ?_
    refine mX_ckc (m := mcl (mE mtab d 218 [.ref v1] h) 1 20 [some (.ref a0), some (.int a1), some (.ref v1)] []) rfl ?_
    refine mk_cI ?_
    intro x7 h6
    exact mX_reti rfl
  refine msw_nil ?_
  refine mX_to 1 (k' := 22) (ls' := [some (.ref a0), some (.int a1), some (.ref v1)]) (st' := [.int (-1000)]) (h' := h) rfl ?_
  exact mX_reti rfl
theorem D_X11_is (d : Nat) (h : MH) (a0 : Nat) (a1 : Int32) : mE mtab (d + 1) 220 [.ref a0, .int a1] h = cI (mE mtab d 14 [.int a1, .int 0, .int 1] h) (fun x2 h1 => (if x2 = 0 then (if a1 = 2 then ck (kd h1 a0 = 12) (cI (mE mtab d 156 [.ref a0] h1) (fun x4 h3 => some (.int x4, h3))) else (if a1 = 3 then ck (kd h1 a0 = 12) (cI (mE mtab d 172 [.ref a0] h1) (fun x6 h5 => some (.int x6, h5))) else (if a1 = 4 then ck (kd h1 a0 = 12) (cI (mE mtab d 154 [.ref a0] h1) (fun x8 h7 => ck (kd h7 a0 = 12) (cI (mE mtab d 158 [.ref a0, .int x8] h7) (fun x10 h9 => ck (kd h9 a0 = 12) (cI (mE mtab d 159 [.ref a0] h9) (fun x12 h11 => some (.int (x10 + x12), h11))))))) else some (.int (-1000), h1)))) else ck (kd h1 a0 = 12) (ck ((kd h1 (gR h1 a0 0) = 20 ∨ kd h1 (gR h1 a0 0) = 24) ∧ ib (6 + a1) (ln h1 (gR h1 a0 0))) (some (.int (gI h1 (gR h1 a0 0) (ix (6 + a1))), h1))))) := by
  refine mE_eq (q := (yX11_is, cX11_is, 2, (some .int), KX11_is)) (C := KX11_is) (ls := [some (.ref a0), some (.int a1)]) rfl rfl rfl rfl ?_
  refine mX_to 3 (k' := 3) (ls' := [some (.ref a0), some (.int a1)]) (st' := [.int 1, .int 0, .int a1]) (h' := h) rfl ?_
  refine mX_cI (o := mE mtab d 14 [.int a1, .int 0, .int 1] h) (k' := 4) (ls' := [some (.ref a0), some (.int a1)]) (st' := []) rfl ?_
  intro x2 h1
  refine mX_br (t := 12) (f := 5) (ls' := [some (.ref a0), some (.int a1)]) (st' := []) (h' := h1) rfl ?_ ?_
  · refine mX_to 2 (k' := 14) (ls' := [some (.ref a0), some (.int a1)]) (st' := [.int 2, .int a1]) (h' := h1) rfl ?_
    refine mX_br (t := 15) (f := 18) (ls' := [some (.ref a0), some (.int a1)]) (st' := []) (h' := h1) rfl ?_ ?_
    · refine mX_to 1 (k' := 16) (ls' := [some (.ref a0), some (.int a1)]) (st' := [.ref a0]) (h' := h1) rfl ?_
      refine mX_ckc (m := mcl (mE mtab d 156 [.ref a0] h1) 1 17 [some (.ref a0), some (.int a1)] []) rfl ?_
      refine mk_cI ?_
      intro x4 h3
      refine mX_to 1 (k' := 36) (ls' := [some (.ref a0), some (.int a1)]) (st' := [.int x4]) (h' := h3) rfl ?_
      exact mX_reti rfl
    · refine mX_to 2 (k' := 20) (ls' := [some (.ref a0), some (.int a1)]) (st' := [.int 3, .int a1]) (h' := h1) rfl ?_
      refine mX_br (t := 21) (f := 24) (ls' := [some (.ref a0), some (.int a1)]) (st' := []) (h' := h1) rfl ?_ ?_
      · refine mX_to 1 (k' := 22) (ls' := [some (.ref a0), some (.int a1)]) (st' := [.ref a0]) (h' := h1) rfl ?_
        refine mX_ckc (m := mcl (mE mtab d 172 [.ref a0] h1) 1 23 [some (.ref a0), some (.int a1)] []) rfl ?_
        refine mk_cI ?_
        intro x6 h5
        refine mX_to 1 (k' := 36) (ls' := [some (.ref a0), some (.int a1)]) (st' := [.int x6]) (h' := h5) rfl ?_
        exact mX_reti rfl
      · refine mX_to 2 (k' := 26) (ls' := [some (.ref a0), some (.int a1)]) (st' := [.int 4, .int a1]) (h' := h1) rfl ?_
        refine mX_br (t := 27) (f := 35) (ls' := [some (.ref a0), some (.int a1)]) (st' := []) (h' := h1) rfl ?_ ?_
        · refine mX_to 2 (k' := 29) (ls' := [some (.ref a0), some (.int a1)]) (st' := [.ref a0, .ref a0]) (h' := h1) rfl ?_
          refine mX_ckc (m := mcl (mE mtab d 154 [.ref a0] h1) 1 30 [some (.ref a0), some (.int a1)] [.ref a0]) rfl ?_
          refine mk_cI ?_
          intro x8 h7
          refine mX_ckc (m := mcl (mE mtab d 158 [.ref a0, .int x8] h7) 1 31 [some (.ref a0), some (.int a1)] []) rfl ?_
          refine mk_cI ?_
          intro x10 h9
          refine mX_to 1 (k' := 32) (ls' := [some (.ref a0), some (.int a1)]) (st' := [.ref a0, .int x10]) (h' := h9) rfl ?_
          refine mX_ckc (m := mcl (mE mtab d 159 [.ref a0] h9) 1 33 [some (.ref a0), some (.int a1)] [.int x10]) rfl ?_
          refine mk_cI ?_
          intro x12 h11
          refine mX_to 2 (k' := 36) (ls' := [some (.ref a0), some (.int a1)]) (st' := [.int (x10 + x12)]) (h' := h11) rfl ?_
          exact mX_reti rfl
        · refine mX_to 1 (k' := 36) (ls' := [some (.ref a0), some (.int a1)]) (st' := [.int (-1000)]) (h' := h1) rfl ?_
          exact mX_reti rfl
  · refine mX_to 1 (k' := 6) (ls' := [some (.ref a0), some (.int a1)]) (st' := [.ref a0]) (h' := h1) rfl ?_
    refine mX_ck (k' := 7) (ls' := [some (.ref a0), some (.int a1)]) (st' := [.ref (gR h1 a0 0)]) (h' := h1) rfl ?_
    refine mX_to 3 (k' := 10) (ls' := [some (.ref a0), some (.int a1)]) (st' := [.int (6 + a1), .ref (gR h1 a0 0)]) (h' := h1) rfl ?_
    refine mX_ck (k' := 11) (ls' := [some (.ref a0), some (.int a1)]) (st' := [.int (gI h1 (gR h1 a0 0) (ix (6 + a1)))]) (h' := h1) rfl ?_
    refine mX_to 1 (k' := 36) (ls' := [some (.ref a0), some (.int a1)]) (st' := [.int (gI h1 (gR h1 a0 0) (ix (6 + a1)))]) (h' := h1) rfl ?_
    exact mX_reti rfl
