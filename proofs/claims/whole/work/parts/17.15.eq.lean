/-! EQUATIONS OF THE METHODS (written by wip/gen/dgen.py) -/
theorem D_X9_entry (d : Nat) (h : MH) (a0 : Nat) (a1 : Int32) (a2 : Int32) : mE mtab (d + 1) 221 [.ref a0, .int a1, .int a2] h = ck (kd h a0 = 10) (cI (mE mtab d 11 [.int a1, .int 0, .int ((gI h a0 8) - 1)] h) (fun x2 h1 => (if x2 = 0 then some (.int (-2), h1) else (if a2 = 0 then ck (kd h1 a0 = 10) (ck ((kd h1 (gR h1 a0 7) = 20 ∨ kd h1 (gR h1 a0 7) = 24) ∧ ib a1 (ln h1 (gR h1 a0 7))) (some (.int ((gI h1 (gR h1 a0 7) (ix a1)) / 324), h1))) else (if a2 = 1 then ck (kd h1 a0 = 10) (ck ((kd h1 (gR h1 a0 7) = 20 ∨ kd h1 (gR h1 a0 7) = 24) ∧ ib a1 (ln h1 (gR h1 a0 7))) (some (.int (((gI h1 (gR h1 a0 7) (ix a1)) / 81) - ((gI h1 (gR h1 a0 7) (ix a1)) / 81) / 4 * 4), h1))) else (if a2 = 2 then ck (kd h1 a0 = 10) (ck ((kd h1 (gR h1 a0 7) = 20 ∨ kd h1 (gR h1 a0 7) = 24) ∧ ib a1 (ln h1 (gR h1 a0 7))) (some (.int (((gI h1 (gR h1 a0 7) (ix a1)) / 9) - ((gI h1 (gR h1 a0 7) (ix a1)) / 9) / 9 * 9), h1))) else (if a2 = 3 then ck (kd h1 a0 = 10) (ck ((kd h1 (gR h1 a0 7) = 20 ∨ kd h1 (gR h1 a0 7) = 24) ∧ ib a1 (ln h1 (gR h1 a0 7))) (some (.int ((gI h1 (gR h1 a0 7) (ix a1)) - (gI h1 (gR h1 a0 7) (ix a1)) / 9 * 9), h1))) else some (.int (-2), h1)))))))) := by
  refine mE_eq (q := (yX9_entry, cX9_entry, 3, (some .int), KX9_entry)) (C := KX9_entry) (ls := [some (.ref a0), some (.int a1), some (.int a2)]) rfl rfl rfl rfl ?_
  refine mX_to 3 (k' := 3) (ls' := [some (.ref a0), some (.int a1), some (.int a2)]) (st' := [.ref a0, .int 0, .int a1]) (h' := h) rfl ?_
  refine mX_ck (k' := 4) (ls' := [some (.ref a0), some (.int a1), some (.int a2)]) (st' := [.int (gI h a0 8), .int 0, .int a1]) (h' := h) rfl ?_
  refine mX_to 2 (k' := 6) (ls' := [some (.ref a0), some (.int a1), some (.int a2)]) (st' := [.int ((gI h a0 8) - 1), .int 0, .int a1]) (h' := h) rfl ?_
  refine mX_cI (o := mE mtab d 11 [.int a1, .int 0, .int ((gI h a0 8) - 1)] h) (k' := 7) (ls' := [some (.ref a0), some (.int a1), some (.int a2)]) (st' := []) rfl ?_
  intro x2 h1
  refine mX_br (t := 8) (f := 10) (ls' := [some (.ref a0), some (.int a1), some (.int a2)]) (st' := []) (h' := h1) rfl ?_ ?_
  · refine mX_to 1 (k' := 9) (ls' := [some (.ref a0), some (.int a1), some (.int a2)]) (st' := [.int (-2)]) (h' := h1) rfl ?_
    exact mX_reti rfl
  · refine mX_to 1 (k' := 11) (ls' := [some (.ref a0), some (.int a1), some (.int a2)]) (st' := [.int a2]) (h' := h1) rfl ?_
    refine mX_sw (x := a2) (t := 44) (sw := [(0, 12), (1, 19), (2, 28), (3, 37)]) (ls' := [some (.ref a0), some (.int a1), some (.int a2)]) (st' := []) (h' := h1) rfl ?_
    refine msw_cons ?_ ?_
    · refine mX_to 1 (k' := 13) (ls' := [some (.ref a0), some (.int a1), some (.int a2)]) (st' := [.ref a0]) (h' := h1) rfl ?_
      refine mX_ck (k' := 14) (ls' := [some (.ref a0), some (.int a1), some (.int a2)]) (st' := [.ref (gR h1 a0 7)]) (h' := h1) rfl ?_
      refine mX_to 1 (k' := 15) (ls' := [some (.ref a0), some (.int a1), some (.int a2)]) (st' := [.int a1, .ref (gR h1 a0 7)]) (h' := h1) rfl ?_
      refine mX_ck (k' := 16) (ls' := [some (.ref a0), some (.int a1), some (.int a2)]) (st' := [.int (gI h1 (gR h1 a0 7) (ix a1))]) (h' := h1) rfl ?_
      refine mX_to 1 (k' := 17) (ls' := [some (.ref a0), some (.int a1), some (.int a2)]) (st' := [.int 324, .int (gI h1 (gR h1 a0 7) (ix a1))]) (h' := h1) rfl ?_
      refine mX_ckt (c := ¬ (324 : Int32) = 0) (k' := 18) (ls' := [some (.ref a0), some (.int a1), some (.int a2)]) (st' := [.int ((gI h1 (gR h1 a0 7) (ix a1)) / 324)]) (h' := h1) (by decide) rfl ?_
      exact mX_reti rfl
    refine msw_cons ?_ ?_
    · refine mX_to 1 (k' := 20) (ls' := [some (.ref a0), some (.int a1), some (.int a2)]) (st' := [.ref a0]) (h' := h1) rfl ?_
      refine mX_ck (k' := 21) (ls' := [some (.ref a0), some (.int a1), some (.int a2)]) (st' := [.ref (gR h1 a0 7)]) (h' := h1) rfl ?_
      refine mX_to 1 (k' := 22) (ls' := [some (.ref a0), some (.int a1), some (.int a2)]) (st' := [.int a1, .ref (gR h1 a0 7)]) (h' := h1) rfl ?_
      refine mX_ck (k' := 23) (ls' := [some (.ref a0), some (.int a1), some (.int a2)]) (st' := [.int (gI h1 (gR h1 a0 7) (ix a1))]) (h' := h1) rfl ?_
      refine mX_to 1 (k' := 24) (ls' := [some (.ref a0), some (.int a1), some (.int a2)]) (st' := [.int 81, .int (gI h1 (gR h1 a0 7) (ix a1))]) (h' := h1) rfl ?_
      refine mX_ckt (c := ¬ (81 : Int32) = 0) (k' := 25) (ls' := [some (.ref a0), some (.int a1), some (.int a2)]) (st' := [.int ((gI h1 (gR h1 a0 7) (ix a1)) / 81)]) (h' := h1) (by decide) rfl ?_
      refine mX_to 1 (k' := 26) (ls' := [some (.ref a0), some (.int a1), some (.int a2)]) (st' := [.int 4, .int ((gI h1 (gR h1 a0 7) (ix a1)) / 81)]) (h' := h1) rfl ?_
      refine mX_ckt (c := ¬ (4 : Int32) = 0) (k' := 27) (ls' := [some (.ref a0), some (.int a1), some (.int a2)]) (st' := [.int (((gI h1 (gR h1 a0 7) (ix a1)) / 81) - ((gI h1 (gR h1 a0 7) (ix a1)) / 81) / 4 * 4)]) (h' := h1) (by decide) rfl ?_
      exact mX_reti rfl
    refine msw_cons ?_ ?_
    · refine mX_to 1 (k' := 29) (ls' := [some (.ref a0), some (.int a1), some (.int a2)]) (st' := [.ref a0]) (h' := h1) rfl ?_
      refine mX_ck (k' := 30) (ls' := [some (.ref a0), some (.int a1), some (.int a2)]) (st' := [.ref (gR h1 a0 7)]) (h' := h1) rfl ?_
      refine mX_to 1 (k' := 31) (ls' := [some (.ref a0), some (.int a1), some (.int a2)]) (st' := [.int a1, .ref (gR h1 a0 7)]) (h' := h1) rfl ?_
      refine mX_ck (k' := 32) (ls' := [some (.ref a0), some (.int a1), some (.int a2)]) (st' := [.int (gI h1 (gR h1 a0 7) (ix a1))]) (h' := h1) rfl ?_
      refine mX_to 1 (k' := 33) (ls' := [some (.ref a0), some (.int a1), some (.int a2)]) (st' := [.int 9, .int (gI h1 (gR h1 a0 7) (ix a1))]) (h' := h1) rfl ?_
      refine mX_ckt (c := ¬ (9 : Int32) = 0) (k' := 34) (ls' := [some (.ref a0), some (.int a1), some (.int a2)]) (st' := [.int ((gI h1 (gR h1 a0 7) (ix a1)) / 9)]) (h' := h1) (by decide) rfl ?_
      refine mX_to 1 (k' := 35) (ls' := [some (.ref a0), some (.int a1), some (.int a2)]) (st' := [.int 9, .int ((gI h1 (gR h1 a0 7) (ix a1)) / 9)]) (h' := h1) rfl ?_
      refine mX_ckt (c := ¬ (9 : Int32) = 0) (k' := 36) (ls' := [some (.ref a0), some (.int a1), some (.int a2)]) (st' := [.int (((gI h1 (gR h1 a0 7) (ix a1)) / 9) - ((gI h1 (gR h1 a0 7) (ix a1)) / 9) / 9 * 9)]) (h' := h1) (by decide) rfl ?_
      exact mX_reti rfl
    refine msw_cons ?_ ?_
    · refine mX_to 1 (k' := 38) (ls' := [some (.ref a0), some (.int a1), some (.int a2)]) (st' := [.ref a0]) (h' := h1) rfl ?_
      refine mX_ck (k' := 39) (ls' := [some (.ref a0), some (.int a1), some (.int a2)]) (st' := [.ref (gR h1 a0 7)]) (h' := h1) rfl ?_
      refine mX_to 1 (k' := 40) (ls' := [some (.ref a0), some (.int a1), some (.int a2)]) (st' := [.int a1, .ref (gR h1 a0 7)]) (h' := h1) rfl ?_
      refine mX_ck (k' := 41) (ls' := [some (.ref a0), some (.int a1), some (.int a2)]) (st' := [.int (gI h1 (gR h1 a0 7) (ix a1))]) (h' := h1) rfl ?_
      refine mX_to 1 (k' := 42) (ls' := [some (.ref a0), some (.int a1), some (.int a2)]) (st' := [.int 9, .int (gI h1 (gR h1 a0 7) (ix a1))]) (h' := h1) rfl ?_
      refine mX_ckt (c := ¬ (9 : Int32) = 0) (k' := 43) (ls' := [some (.ref a0), some (.int a1), some (.int a2)]) (st' := [.int ((gI h1 (gR h1 a0 7) (ix a1)) - (gI h1 (gR h1 a0 7) (ix a1)) / 9 * 9)]) (h' := h1) (by decide) rfl ?_
      exact mX_reti rfl
    refine msw_nil ?_
    refine mX_to 1 (k' := 45) (ls' := [some (.ref a0), some (.int a1), some (.int a2)]) (st' := [.int (-2)]) (h' := h1) rfl ?_
    exact mX_reti rfl
theorem D_X10_book (d : Nat) (h : MH) (a0 : Nat) (a1 : Int32) (a2 : Int32) : mE mtab (d + 1) 222 [.ref a0, .int a1, .int a2] h = (if a1 = (-1) then ck (kd h a0 = 11) (ck (kd h (gR h a0 0) = 1) (ck (kd h (gR h (gR h a0 0) 0) = 10) (some (.int (gI h (gR h (gR h a0 0) 0) 8), h)))) else ck (kd h a0 = 11) (ck (kd h (gR h a0 0) = 1) (ck (kd h (gR h (gR h a0 0) 0) = 10) (cI (mE mtab d 221 [.ref (gR h (gR h a0 0) 0), .int a1, .int a2] h) (fun x2 h1 => some (.int x2, h1)))))) := by
  refine mE_eq (q := (yX10_book, cX10_book, 3, (some .int), KX10_book)) (C := KX10_book) (ls := [some (.ref a0), some (.int a1), some (.int a2)]) rfl rfl rfl rfl ?_
  refine mX_to 2 (k' := 2) (ls' := [some (.ref a0), some (.int a1), some (.int a2)]) (st' := [.int (-1), .int a1]) (h' := h) rfl ?_
  refine mX_br (t := 3) (f := 8) (ls' := [some (.ref a0), some (.int a1), some (.int a2)]) (st' := []) (h' := h) rfl ?_ ?_
  · refine mX_to 1 (k' := 4) (ls' := [some (.ref a0), some (.int a1), some (.int a2)]) (st' := [.ref a0]) (h' := h) rfl ?_
    refine mX_ck (k' := 5) (ls' := [some (.ref a0), some (.int a1), some (.int a2)]) (st' := [.ref (gR h a0 0)]) (h' := h) rfl ?_
    refine mX_ck (k' := 6) (ls' := [some (.ref a0), some (.int a1), some (.int a2)]) (st' := [.ref (gR h (gR h a0 0) 0)]) (h' := h) rfl ?_
    refine mX_ck (k' := 7) (ls' := [some (.ref a0), some (.int a1), some (.int a2)]) (st' := [.int (gI h (gR h (gR h a0 0) 0) 8)]) (h' := h) rfl ?_
    refine mX_to 1 (k' := 14) (ls' := [some (.ref a0), some (.int a1), some (.int a2)]) (st' := [.int (gI h (gR h (gR h a0 0) 0) 8)]) (h' := h) rfl ?_
    exact mX_reti rfl
  · refine mX_to 1 (k' := 9) (ls' := [some (.ref a0), some (.int a1), some (.int a2)]) (st' := [.ref a0]) (h' := h) rfl ?_
    refine mX_ck (k' := 10) (ls' := [some (.ref a0), some (.int a1), some (.int a2)]) (st' := [.ref (gR h a0 0)]) (h' := h) rfl ?_
    refine mX_ck (k' := 11) (ls' := [some (.ref a0), some (.int a1), some (.int a2)]) (st' := [.ref (gR h (gR h a0 0) 0)]) (h' := h) rfl ?_
    refine mX_to 2 (k' := 13) (ls' := [some (.ref a0), some (.int a1), some (.int a2)]) (st' := [.int a2, .int a1, .ref (gR h (gR h a0 0) 0)]) (h' := h) rfl ?_
    refine mX_ckc (m := mcl (mE mtab d 221 [.ref (gR h (gR h a0 0) 0), .int a1, .int a2] h) 1 14 [some (.ref a0), some (.int a1), some (.int a2)] []) rfl ?_
    refine mk_cI ?_
    intro x2 h1
    exact mX_reti rfl
theorem D_X11_entry (d : Nat) (h : MH) (a0 : Nat) (a1 : Int32) (a2 : Int32) : mE mtab (d + 1) 223 [.ref a0, .int a1, .int a2] h = ck (kd h a0 = 12) (ck ((kd h (gR h a0 0) = 20 ∨ kd h (gR h a0 0) = 24) ∧ ib (1468 + a1) (ln h (gR h a0 0))) (lt_ (gI h (gR h a0 0) (ix (1468 + a1))) fun v1 => (if a2 = 0 then some (.int (v1 / 324), h) else (if a2 = 1 then some (.int ((v1 / 81) - (v1 / 81) / 4 * 4), h) else (if a2 = 2 then some (.int ((v1 / 9) - (v1 / 9) / 9 * 9), h) else some (.int (v1 - v1 / 9 * 9), h)))))) := by
  refine mE_eq (q := (yX11_entry, cX11_entry, 4, (some .int), KX11_entry)) (C := KX11_entry) (ls := [some (.ref a0), some (.int a1), some (.int a2), none]) rfl rfl rfl rfl ?_
  refine mX_to 1 (k' := 1) (ls' := [some (.ref a0), some (.int a1), some (.int a2), none]) (st' := [.ref a0]) (h' := h) rfl ?_
  refine mX_ck (k' := 2) (ls' := [some (.ref a0), some (.int a1), some (.int a2), none]) (st' := [.ref (gR h a0 0)]) (h' := h) rfl ?_
  refine mX_to 3 (k' := 5) (ls' := [some (.ref a0), some (.int a1), some (.int a2), none]) (st' := [.int (1468 + a1), .ref (gR h a0 0)]) (h' := h) rfl ?_
  refine mX_ck (k' := 6) (ls' := [some (.ref a0), some (.int a1), some (.int a2), none]) (st' := [.int (gI h (gR h a0 0) (ix (1468 + a1)))]) (h' := h) rfl ?_
  refine lt_gen (X := fun v1 : Int32 => mX (mE mtab d) KX11_entry 6 [some (.ref a0), some (.int a1), some (.int a2), none] [.int v1] h) fun v1 => ?_
  refine mX_to 2 (k' := 8) (ls' := [some (.ref a0), some (.int a1), some (.int a2), some (.int v1)]) (st' := [.int a2]) (h' := h) rfl ?_
  refine mX_br (t := 9) (f := 13) (ls' := [some (.ref a0), some (.int a1), some (.int a2), some (.int v1)]) (st' := []) (h' := h) rfl ?_ ?_
  · refine mX_to 2 (k' := 11) (ls' := [some (.ref a0), some (.int a1), some (.int a2), some (.int v1)]) (st' := [.int 324, .int v1]) (h' := h) rfl ?_
    refine mX_ckt (c := ¬ (324 : Int32) = 0) (k' := 12) (ls' := [some (.ref a0), some (.int a1), some (.int a2), some (.int v1)]) (st' := [.int (v1 / 324)]) (h' := h) (by decide) rfl ?_
    refine mX_to 1 (k' := 34) (ls' := [some (.ref a0), some (.int a1), some (.int a2), some (.int v1)]) (st' := [.int (v1 / 324)]) (h' := h) rfl ?_
    exact mX_reti rfl
  · refine mX_to 2 (k' := 15) (ls' := [some (.ref a0), some (.int a1), some (.int a2), some (.int v1)]) (st' := [.int 1, .int a2]) (h' := h) rfl ?_
    refine mX_br (t := 16) (f := 22) (ls' := [some (.ref a0), some (.int a1), some (.int a2), some (.int v1)]) (st' := []) (h' := h) rfl ?_ ?_
    · refine mX_to 2 (k' := 18) (ls' := [some (.ref a0), some (.int a1), some (.int a2), some (.int v1)]) (st' := [.int 81, .int v1]) (h' := h) rfl ?_
      refine mX_ckt (c := ¬ (81 : Int32) = 0) (k' := 19) (ls' := [some (.ref a0), some (.int a1), some (.int a2), some (.int v1)]) (st' := [.int (v1 / 81)]) (h' := h) (by decide) rfl ?_
      refine mX_to 1 (k' := 20) (ls' := [some (.ref a0), some (.int a1), some (.int a2), some (.int v1)]) (st' := [.int 4, .int (v1 / 81)]) (h' := h) rfl ?_
      refine mX_ckt (c := ¬ (4 : Int32) = 0) (k' := 21) (ls' := [some (.ref a0), some (.int a1), some (.int a2), some (.int v1)]) (st' := [.int ((v1 / 81) - (v1 / 81) / 4 * 4)]) (h' := h) (by decide) rfl ?_
      refine mX_to 1 (k' := 34) (ls' := [some (.ref a0), some (.int a1), some (.int a2), some (.int v1)]) (st' := [.int ((v1 / 81) - (v1 / 81) / 4 * 4)]) (h' := h) rfl ?_
      exact mX_reti rfl
    · refine mX_to 2 (k' := 24) (ls' := [some (.ref a0), some (.int a1), some (.int a2), some (.int v1)]) (st' := [.int 2, .int a2]) (h' := h) rfl ?_
      refine mX_br (t := 25) (f := 31) (ls' := [some (.ref a0), some (.int a1), some (.int a2), some (.int v1)]) (st' := []) (h' := h) rfl ?_ ?_
      · refine mX_to 2 (k' := 27) (ls' := [some (.ref a0), some (.int a1), some (.int a2), some (.int v1)]) (st' := [.int 9, .int v1]) (h' := h) rfl ?_
        refine mX_ckt (c := ¬ (9 : Int32) = 0) (k' := 28) (ls' := [some (.ref a0), some (.int a1), some (.int a2), some (.int v1)]) (st' := [.int (v1 / 9)]) (h' := h) (by decide) rfl ?_
        refine mX_to 1 (k' := 29) (ls' := [some (.ref a0), some (.int a1), some (.int a2), some (.int v1)]) (st' := [.int 9, .int (v1 / 9)]) (h' := h) rfl ?_
        refine mX_ckt (c := ¬ (9 : Int32) = 0) (k' := 30) (ls' := [some (.ref a0), some (.int a1), some (.int a2), some (.int v1)]) (st' := [.int ((v1 / 9) - (v1 / 9) / 9 * 9)]) (h' := h) (by decide) rfl ?_
        refine mX_to 1 (k' := 34) (ls' := [some (.ref a0), some (.int a1), some (.int a2), some (.int v1)]) (st' := [.int ((v1 / 9) - (v1 / 9) / 9 * 9)]) (h' := h) rfl ?_
        exact mX_reti rfl
      · refine mX_to 2 (k' := 33) (ls' := [some (.ref a0), some (.int a1), some (.int a2), some (.int v1)]) (st' := [.int 9, .int v1]) (h' := h) rfl ?_
        refine mX_ckt (c := ¬ (9 : Int32) = 0) (k' := 34) (ls' := [some (.ref a0), some (.int a1), some (.int a2), some (.int v1)]) (st' := [.int (v1 - v1 / 9 * 9)]) (h' := h) (by decide) rfl ?_
        exact mX_reti rfl
theorem D_X11_book (d : Nat) (h : MH) (a0 : Nat) (a1 : Int32) (a2 : Int32) : mE mtab (d + 1) 224 [.ref a0, .int a1, .int a2] h = (if a1 = (-1) then ck (kd h a0 = 12) (ck ((kd h (gR h a0 0) = 20 ∨ kd h (gR h a0 0) = 24) ∧ ib (8 : Int32) (ln h (gR h a0 0))) (some (.int (gI h (gR h a0 0) (ix (8 : Int32))), h))) else ck (kd h a0 = 12) (ck ((kd h (gR h a0 0) = 20 ∨ kd h (gR h a0 0) = 24) ∧ ib (8 : Int32) (ln h (gR h a0 0))) (cI (mE mtab d 14 [.int a1, .int 0, .int ((gI h (gR h a0 0) (ix (8 : Int32))) - 1)] h) (fun x2 h1 => (if x2 = 0 then some (.int (-2), h1) else cI (mE mtab d 14 [.int a2, .int 0, .int 3] h1) (fun x4 h3 => (if x4 = 0 then some (.int (-2), h3) else ck (kd h3 a0 = 12) (cI (mE mtab d 223 [.ref a0, .int a1, .int a2] h3) (fun x6 h5 => some (.int x6, h5)))))))))) := by
  refine mE_eq (q := (yX11_book, cX11_book, 3, (some .int), KX11_book)) (C := KX11_book) (ls := [some (.ref a0), some (.int a1), some (.int a2)]) rfl rfl rfl rfl ?_
  refine mX_to 2 (k' := 2) (ls' := [some (.ref a0), some (.int a1), some (.int a2)]) (st' := [.int (-1), .int a1]) (h' := h) rfl ?_
  refine mX_br (t := 3) (f := 8) (ls' := [some (.ref a0), some (.int a1), some (.int a2)]) (st' := []) (h' := h) rfl ?_ ?_
  · refine mX_to 1 (k' := 4) (ls' := [some (.ref a0), some (.int a1), some (.int a2)]) (st' := [.ref a0]) (h' := h) rfl ?_
    refine mX_ck (k' := 5) (ls' := [some (.ref a0), some (.int a1), some (.int a2)]) (st' := [.ref (gR h a0 0)]) (h' := h) rfl ?_
    refine mX_to 1 (k' := 6) (ls' := [some (.ref a0), some (.int a1), some (.int a2)]) (st' := [.int 8, .ref (gR h a0 0)]) (h' := h) rfl ?_
    refine mX_ck (k' := 7) (ls' := [some (.ref a0), some (.int a1), some (.int a2)]) (st' := [.int (gI h (gR h a0 0) (ix (8 : Int32)))]) (h' := h) rfl ?_
    exact mX_reti rfl
  · refine mX_to 3 (k' := 11) (ls' := [some (.ref a0), some (.int a1), some (.int a2)]) (st' := [.ref a0, .int 0, .int a1]) (h' := h) rfl ?_
    refine mX_ck (k' := 12) (ls' := [some (.ref a0), some (.int a1), some (.int a2)]) (st' := [.ref (gR h a0 0), .int 0, .int a1]) (h' := h) rfl ?_
    refine mX_to 1 (k' := 13) (ls' := [some (.ref a0), some (.int a1), some (.int a2)]) (st' := [.int 8, .ref (gR h a0 0), .int 0, .int a1]) (h' := h) rfl ?_
    refine mX_ck (k' := 14) (ls' := [some (.ref a0), some (.int a1), some (.int a2)]) (st' := [.int (gI h (gR h a0 0) (ix (8 : Int32))), .int 0, .int a1]) (h' := h) rfl ?_
    refine mX_to 2 (k' := 16) (ls' := [some (.ref a0), some (.int a1), some (.int a2)]) (st' := [.int ((gI h (gR h a0 0) (ix (8 : Int32))) - 1), .int 0, .int a1]) (h' := h) rfl ?_
    refine mX_cI (o := mE mtab d 14 [.int a1, .int 0, .int ((gI h (gR h a0 0) (ix (8 : Int32))) - 1)] h) (k' := 17) (ls' := [some (.ref a0), some (.int a1), some (.int a2)]) (st' := []) rfl ?_
    intro x2 h1
    refine mX_br (t := 28) (f := 18) (ls' := [some (.ref a0), some (.int a1), some (.int a2)]) (st' := []) (h' := h1) rfl ?_ ?_
    · refine mX_to 1 (k' := 29) (ls' := [some (.ref a0), some (.int a1), some (.int a2)]) (st' := [.int (-2)]) (h' := h1) rfl ?_
      exact mX_reti rfl
    · refine mX_to 3 (k' := 21) (ls' := [some (.ref a0), some (.int a1), some (.int a2)]) (st' := [.int 3, .int 0, .int a2]) (h' := h1) rfl ?_
      refine mX_cI (o := mE mtab d 14 [.int a2, .int 0, .int 3] h1) (k' := 22) (ls' := [some (.ref a0), some (.int a1), some (.int a2)]) (st' := []) rfl ?_
      intro x4 h3
      refine mX_br (t := 28) (f := 23) (ls' := [some (.ref a0), some (.int a1), some (.int a2)]) (st' := []) (h' := h3) rfl ?_ ?_
      · refine mX_to 1 (k' := 29) (ls' := [some (.ref a0), some (.int a1), some (.int a2)]) (st' := [.int (-2)]) (h' := h3) rfl ?_
        exact mX_reti rfl
      · refine mX_to 3 (k' := 26) (ls' := [some (.ref a0), some (.int a1), some (.int a2)]) (st' := [.int a2, .int a1, .ref a0]) (h' := h3) rfl ?_
        refine mX_ckc (m := mcl (mE mtab d 223 [.ref a0, .int a1, .int a2] h3) 1 27 [some (.ref a0), some (.int a1), some (.int a2)] []) rfl ?_
        refine mk_cI ?_
        intro x6 h5
        refine mX_to 1 (k' := 29) (ls' := [some (.ref a0), some (.int a1), some (.int a2)]) (st' := [.int x6]) (h' := h5) rfl ?_
        exact mX_reti rfl
theorem D_X9_copyFrom (d : Nat) (h : MH) (a0 : Nat) (a1 : Nat) : mE mtab (d + 1) 225 [.ref a0, .ref a1] h = ck (kd h a1 = 10) (ck (kd h a0 = 10) (lt_ (sI h a0 0 (gI h a1 0)) fun h1 => ck (kd h1 a1 = 10) (ck (kd h1 a0 = 10) (ck (kd h1 (gR h1 a1 1) = 20 ∧ kd h1 (gR h1 a0 1) = 20 ∧ ¬ (0 : Int32) < 0 ∧ ¬ (0 : Int32) < 0 ∧ ¬ (4 : Int32) < 0 ∧ ix (0 : Int32) + ix (4 : Int32) ≤ ln h1 (gR h1 a1 1) ∧ ix (0 : Int32) + ix (4 : Int32) ≤ ln h1 (gR h1 a0 1)) (lt_ (rI h1 (gR h1 a0 1) (va_cpy (gI h1 (gR h1 a1 1)) (gI h1 (gR h1 a0 1)) (ix (0 : Int32)) (ix (0 : Int32)) (ix (4 : Int32)))) fun h2 => ck (kd h2 a1 = 10) (ck (kd h2 a0 = 10) (ck (kd h2 (gR h2 a1 2) = 20 ∧ kd h2 (gR h2 a0 2) = 20 ∧ ¬ (0 : Int32) < 0 ∧ ¬ (0 : Int32) < 0 ∧ ¬ (4 : Int32) < 0 ∧ ix (0 : Int32) + ix (4 : Int32) ≤ ln h2 (gR h2 a1 2) ∧ ix (0 : Int32) + ix (4 : Int32) ≤ ln h2 (gR h2 a0 2)) (lt_ (rI h2 (gR h2 a0 2) (va_cpy (gI h2 (gR h2 a1 2)) (gI h2 (gR h2 a0 2)) (ix (0 : Int32)) (ix (0 : Int32)) (ix (4 : Int32)))) fun h3 => ck (kd h3 a1 = 10) (ck (kd h3 a0 = 10) (ck (kd h3 (gR h3 a1 3) = 20 ∧ kd h3 (gR h3 a0 3) = 20 ∧ ¬ (0 : Int32) < 0 ∧ ¬ (0 : Int32) < 0 ∧ ¬ (4 : Int32) < 0 ∧ ix (0 : Int32) + ix (4 : Int32) ≤ ln h3 (gR h3 a1 3) ∧ ix (0 : Int32) + ix (4 : Int32) ≤ ln h3 (gR h3 a0 3)) (lt_ (rI h3 (gR h3 a0 3) (va_cpy (gI h3 (gR h3 a1 3)) (gI h3 (gR h3 a0 3)) (ix (0 : Int32)) (ix (0 : Int32)) (ix (4 : Int32)))) fun h4 => ck (kd h4 a1 = 10) (ck (kd h4 a0 = 10) (ck (kd h4 (gR h4 a1 4) = 20 ∧ kd h4 (gR h4 a0 4) = 20 ∧ ¬ (0 : Int32) < 0 ∧ ¬ (0 : Int32) < 0 ∧ ¬ (9 : Int32) < 0 ∧ ix (0 : Int32) + ix (9 : Int32) ≤ ln h4 (gR h4 a1 4) ∧ ix (0 : Int32) + ix (9 : Int32) ≤ ln h4 (gR h4 a0 4)) (lt_ (rI h4 (gR h4 a0 4) (va_cpy (gI h4 (gR h4 a1 4)) (gI h4 (gR h4 a0 4)) (ix (0 : Int32)) (ix (0 : Int32)) (ix (9 : Int32)))) fun h5 => ck (kd h5 a1 = 10) (ck (kd h5 a0 = 10) (lt_ (sI h5 a0 5 (gI h5 a1 5)) fun h6 => ck (kd h6 a1 = 10) (ck (kd h6 a0 = 10) (lt_ (sI h6 a0 6 (gI h6 a1 6)) fun h7 => ck (kd h7 a1 = 10) (ck (kd h7 a0 = 10) (ck (kd h7 (gR h7 a1 7) = 20 ∧ kd h7 (gR h7 a0 7) = 20 ∧ ¬ (0 : Int32) < 0 ∧ ¬ (0 : Int32) < 0 ∧ ¬ (30 : Int32) < 0 ∧ ix (0 : Int32) + ix (30 : Int32) ≤ ln h7 (gR h7 a1 7) ∧ ix (0 : Int32) + ix (30 : Int32) ≤ ln h7 (gR h7 a0 7)) (lt_ (rI h7 (gR h7 a0 7) (va_cpy (gI h7 (gR h7 a1 7)) (gI h7 (gR h7 a0 7)) (ix (0 : Int32)) (ix (0 : Int32)) (ix (30 : Int32)))) fun h8 => ck (kd h8 a1 = 10) (ck (kd h8 a0 = 10) (lt_ (sI h8 a0 8 (gI h8 a1 8)) fun h9 => ck (kd h9 a1 = 10) (ck (kd h9 a0 = 10) (lt_ (sR h9 a0 9 (gR h9 a1 9)) fun h10 => some (.int 0, h10)))))))))))))))))))))))))) := by
  refine mE_eq (q := (yX9_copyFrom, cX9_copyFrom, 2, none, KX9_copyFrom)) (C := KX9_copyFrom) (ls := [some (.ref a0), some (.ref a1)]) rfl rfl rfl rfl ?_
  refine mX_to 2 (k' := 2) (ls' := [some (.ref a0), some (.ref a1)]) (st' := [.ref a1, .ref a0]) (h' := h) rfl ?_
  refine mX_ck (k' := 3) (ls' := [some (.ref a0), some (.ref a1)]) (st' := [.int (gI h a1 0), .ref a0]) (h' := h) rfl ?_
  refine mX_ck (k' := 4) (ls' := [some (.ref a0), some (.ref a1)]) (st' := []) (h' := (sI h a0 0 (gI h a1 0))) rfl ?_
  refine lt_gen (X := fun h1 : MH => mX (mE mtab d) KX9_copyFrom 4 [some (.ref a0), some (.ref a1)] [] h1) fun h1 => ?_
  refine mX_to 1 (k' := 5) (ls' := [some (.ref a0), some (.ref a1)]) (st' := [.ref a1]) (h' := h1) rfl ?_
  refine mX_ck (k' := 6) (ls' := [some (.ref a0), some (.ref a1)]) (st' := [.ref (gR h1 a1 1)]) (h' := h1) rfl ?_
  refine mX_to 2 (k' := 8) (ls' := [some (.ref a0), some (.ref a1)]) (st' := [.ref a0, .int 0, .ref (gR h1 a1 1)]) (h' := h1) rfl ?_
  refine mX_ck (k' := 9) (ls' := [some (.ref a0), some (.ref a1)]) (st' := [.ref (gR h1 a0 1), .int 0, .ref (gR h1 a1 1)]) (h' := h1) rfl ?_
  refine mX_to 2 (k' := 11) (ls' := [some (.ref a0), some (.ref a1)]) (st' := [.int 4, .int 0, .ref (gR h1 a0 1), .int 0, .ref (gR h1 a1 1)]) (h' := h1) rfl ?_
  refine mX_ck (k' := 12) (ls' := [some (.ref a0), some (.ref a1)]) (st' := []) (h' := (rI h1 (gR h1 a0 1) (va_cpy (gI h1 (gR h1 a1 1)) (gI h1 (gR h1 a0 1)) (ix (0 : Int32)) (ix (0 : Int32)) (ix (4 : Int32))))) rfl ?_
  refine lt_gen (X := fun h2 : MH => mX (mE mtab d) KX9_copyFrom 12 [some (.ref a0), some (.ref a1)] [] h2) fun h2 => ?_
  refine mX_to 1 (k' := 13) (ls' := [some (.ref a0), some (.ref a1)]) (st' := [.ref a1]) (h' := h2) rfl ?_
  refine mX_ck (k' := 14) (ls' := [some (.ref a0), some (.ref a1)]) (st' := [.ref (gR h2 a1 2)]) (h' := h2) rfl ?_
  refine mX_to 2 (k' := 16) (ls' := [some (.ref a0), some (.ref a1)]) (st' := [.ref a0, .int 0, .ref (gR h2 a1 2)]) (h' := h2) rfl ?_
  refine mX_ck (k' := 17) (ls' := [some (.ref a0), some (.ref a1)]) (st' := [.ref (gR h2 a0 2), .int 0, .ref (gR h2 a1 2)]) (h' := h2) rfl ?_
  refine mX_to 2 (k' := 19) (ls' := [some (.ref a0), some (.ref a1)]) (st' := [.int 4, .int 0, .ref (gR h2 a0 2), .int 0, .ref (gR h2 a1 2)]) (h' := h2) rfl ?_
  refine mX_ck (k' := 20) (ls' := [some (.ref a0), some (.ref a1)]) (st' := []) (h' := (rI h2 (gR h2 a0 2) (va_cpy (gI h2 (gR h2 a1 2)) (gI h2 (gR h2 a0 2)) (ix (0 : Int32)) (ix (0 : Int32)) (ix (4 : Int32))))) rfl ?_
  refine lt_gen (X := fun h3 : MH => mX (mE mtab d) KX9_copyFrom 20 [some (.ref a0), some (.ref a1)] [] h3) fun h3 => ?_
  refine mX_to 1 (k' := 21) (ls' := [some (.ref a0), some (.ref a1)]) (st' := [.ref a1]) (h' := h3) rfl ?_
  refine mX_ck (k' := 22) (ls' := [some (.ref a0), some (.ref a1)]) (st' := [.ref (gR h3 a1 3)]) (h' := h3) rfl ?_
  refine mX_to 2 (k' := 24) (ls' := [some (.ref a0), some (.ref a1)]) (st' := [.ref a0, .int 0, .ref (gR h3 a1 3)]) (h' := h3) rfl ?_
  refine mX_ck (k' := 25) (ls' := [some (.ref a0), some (.ref a1)]) (st' := [.ref (gR h3 a0 3), .int 0, .ref (gR h3 a1 3)]) (h' := h3) rfl ?_
  refine mX_to 2 (k' := 27) (ls' := [some (.ref a0), some (.ref a1)]) (st' := [.int 4, .int 0, .ref (gR h3 a0 3), .int 0, .ref (gR h3 a1 3)]) (h' := h3) rfl ?_
  refine mX_ck (k' := 28) (ls' := [some (.ref a0), some (.ref a1)]) (st' := []) (h' := (rI h3 (gR h3 a0 3) (va_cpy (gI h3 (gR h3 a1 3)) (gI h3 (gR h3 a0 3)) (ix (0 : Int32)) (ix (0 : Int32)) (ix (4 : Int32))))) rfl ?_
  refine lt_gen (X := fun h4 : MH => mX (mE mtab d) KX9_copyFrom 28 [some (.ref a0), some (.ref a1)] [] h4) fun h4 => ?_
  refine mX_to 1 (k' := 29) (ls' := [some (.ref a0), some (.ref a1)]) (st' := [.ref a1]) (h' := h4) rfl ?_
  refine mX_ck (k' := 30) (ls' := [some (.ref a0), some (.ref a1)]) (st' := [.ref (gR h4 a1 4)]) (h' := h4) rfl ?_
  refine mX_to 2 (k' := 32) (ls' := [some (.ref a0), some (.ref a1)]) (st' := [.ref a0, .int 0, .ref (gR h4 a1 4)]) (h' := h4) rfl ?_
  refine mX_ck (k' := 33) (ls' := [some (.ref a0), some (.ref a1)]) (st' := [.ref (gR h4 a0 4), .int 0, .ref (gR h4 a1 4)]) (h' := h4) rfl ?_
  refine mX_to 2 (k' := 35) (ls' := [some (.ref a0), some (.ref a1)]) (st' := [.int 9, .int 0, .ref (gR h4 a0 4), .int 0, .ref (gR h4 a1 4)]) (h' := h4) rfl ?_
  refine mX_ck (k' := 36) (ls' := [some (.ref a0), some (.ref a1)]) (st' := []) (h' := (rI h4 (gR h4 a0 4) (va_cpy (gI h4 (gR h4 a1 4)) (gI h4 (gR h4 a0 4)) (ix (0 : Int32)) (ix (0 : Int32)) (ix (9 : Int32))))) rfl ?_
  refine lt_gen (X := fun h5 : MH => mX (mE mtab d) KX9_copyFrom 36 [some (.ref a0), some (.ref a1)] [] h5) fun h5 => ?_
  refine mX_to 2 (k' := 38) (ls' := [some (.ref a0), some (.ref a1)]) (st' := [.ref a1, .ref a0]) (h' := h5) rfl ?_
  refine mX_ck (k' := 39) (ls' := [some (.ref a0), some (.ref a1)]) (st' := [.int (gI h5 a1 5), .ref a0]) (h' := h5) rfl ?_
  refine mX_ck (k' := 40) (ls' := [some (.ref a0), some (.ref a1)]) (st' := []) (h' := (sI h5 a0 5 (gI h5 a1 5))) rfl ?_
  refine lt_gen (X := fun h6 : MH => mX (mE mtab d) KX9_copyFrom 40 [some (.ref a0), some (.ref a1)] [] h6) fun h6 => ?_
  refine mX_to 2 (k' := 42) (ls' := [some (.ref a0), some (.ref a1)]) (st' := [.ref a1, .ref a0]) (h' := h6) rfl ?_
  refine mX_ck (k' := 43) (ls' := [some (.ref a0), some (.ref a1)]) (st' := [.int (gI h6 a1 6), .ref a0]) (h' := h6) rfl ?_
  refine mX_ck (k' := 44) (ls' := [some (.ref a0), some (.ref a1)]) (st' := []) (h' := (sI h6 a0 6 (gI h6 a1 6))) rfl ?_
  refine lt_gen (X := fun h7 : MH => mX (mE mtab d) KX9_copyFrom 44 [some (.ref a0), some (.ref a1)] [] h7) fun h7 => ?_
  refine mX_to 1 (k' := 45) (ls' := [some (.ref a0), some (.ref a1)]) (st' := [.ref a1]) (h' := h7) rfl ?_
  refine mX_ck (k' := 46) (ls' := [some (.ref a0), some (.ref a1)]) (st' := [.ref (gR h7 a1 7)]) (h' := h7) rfl ?_
  refine mX_to 2 (k' := 48) (ls' := [some (.ref a0), some (.ref a1)]) (st' := [.ref a0, .int 0, .ref (gR h7 a1 7)]) (h' := h7) rfl ?_
  refine mX_ck (k' := 49) (ls' := [some (.ref a0), some (.ref a1)]) (st' := [.ref (gR h7 a0 7), .int 0, .ref (gR h7 a1 7)]) (h' := h7) rfl ?_
  refine mX_to 2 (k' := 51) (ls' := [some (.ref a0), some (.ref a1)]) (st' := [.int 30, .int 0, .ref (gR h7 a0 7), .int 0, .ref (gR h7 a1 7)]) (h' := h7) rfl ?_
  refine mX_ck (k' := 52) (ls' := [some (.ref a0), some (.ref a1)]) (st' := []) (h' := (rI h7 (gR h7 a0 7) (va_cpy (gI h7 (gR h7 a1 7)) (gI h7 (gR h7 a0 7)) (ix (0 : Int32)) (ix (0 : Int32)) (ix (30 : Int32))))) rfl ?_
  refine lt_gen (X := fun h8 : MH => mX (mE mtab d) KX9_copyFrom 52 [some (.ref a0), some (.ref a1)] [] h8) fun h8 => ?_
  refine mX_to 2 (k' := 54) (ls' := [some (.ref a0), some (.ref a1)]) (st' := [.ref a1, .ref a0]) (h' := h8) rfl ?_
  refine mX_ck (k' := 55) (ls' := [some (.ref a0), some (.ref a1)]) (st' := [.int (gI h8 a1 8), .ref a0]) (h' := h8) rfl ?_
  refine mX_ck (k' := 56) (ls' := [some (.ref a0), some (.ref a1)]) (st' := []) (h' := (sI h8 a0 8 (gI h8 a1 8))) rfl ?_
  refine lt_gen (X := fun h9 : MH => mX (mE mtab d) KX9_copyFrom 56 [some (.ref a0), some (.ref a1)] [] h9) fun h9 => ?_
  refine mX_to 2 (k' := 58) (ls' := [some (.ref a0), some (.ref a1)]) (st' := [.ref a1, .ref a0]) (h' := h9) rfl ?_
  refine mX_ck (k' := 59) (ls' := [some (.ref a0), some (.ref a1)]) (st' := [.ref (gR h9 a1 9), .ref a0]) (h' := h9) rfl ?_
  refine mX_ck (k' := 60) (ls' := [some (.ref a0), some (.ref a1)]) (st' := []) (h' := (sR h9 a0 9 (gR h9 a1 9))) rfl ?_
  refine lt_gen (X := fun h10 : MH => mX (mE mtab d) KX9_copyFrom 60 [some (.ref a0), some (.ref a1)] [] h10) fun h10 => ?_
  exact mX_ret rfl
theorem D_X10_foretold_21 (d : Nat) (h : MH) (l0 : Nat) (l1 : Int32) (l2 : Int32) (l3 : Int32) : mX (mE mtab d) KX10_foretold 21 [some (.ref l0), some (.int l1), some (.int l2), some (.int l3)] [] h = (if l3 < l1 then ck (kd h l0 = 11) (ck (kd h (gR h l0 2) = 10) ((if (gI h (gR h l0 2) 5) < 9999 then ck (kd h l0 = 11) (ck (kd h (gR h l0 2) = 10) (cI (mE mtab d 191 [.ref (gR h l0 2)] h) (fun x7 h6 => mX (mE mtab d) KX10_foretold 21 [some (.ref l0), some (.int l1), some (.int l2), some (.int (l3 + 1))] [] h6))) else mX (mE mtab d) KX10_foretold 35 [some (.ref l0), some (.int l1), some (.int l2), some (.int l3)] [] h))) else mX (mE mtab d) KX10_foretold 35 [some (.ref l0), some (.int l1), some (.int l2), some (.int l3)] [] h) := by
  refine mX_to 2 (k' := 23) (ls' := [some (.ref l0), some (.int l1), some (.int l2), some (.int l3)]) (st' := [.int l1, .int l3]) (h' := h) rfl ?_
  refine mX_br (t := 24) (f := 35) (ls' := [some (.ref l0), some (.int l1), some (.int l2), some (.int l3)]) (st' := []) (h' := h) rfl ?_ ?_
  · refine mX_to 1 (k' := 25) (ls' := [some (.ref l0), some (.int l1), some (.int l2), some (.int l3)]) (st' := [.ref l0]) (h' := h) rfl ?_
    refine mX_ck (k' := 26) (ls' := [some (.ref l0), some (.int l1), some (.int l2), some (.int l3)]) (st' := [.ref (gR h l0 2)]) (h' := h) rfl ?_
    refine mX_ck (k' := 27) (ls' := [some (.ref l0), some (.int l1), some (.int l2), some (.int l3)]) (st' := [.int (gI h (gR h l0 2) 5)]) (h' := h) rfl ?_
    refine mX_to 1 (k' := 28) (ls' := [some (.ref l0), some (.int l1), some (.int l2), some (.int l3)]) (st' := [.int 9999, .int (gI h (gR h l0 2) 5)]) (h' := h) rfl ?_
    refine mX_br (t := 29) (f := 35) (ls' := [some (.ref l0), some (.int l1), some (.int l2), some (.int l3)]) (st' := []) (h' := h) rfl ?_ ?_
    · refine mX_to 1 (k' := 30) (ls' := [some (.ref l0), some (.int l1), some (.int l2), some (.int l3)]) (st' := [.ref l0]) (h' := h) rfl ?_
      refine mX_ck (k' := 31) (ls' := [some (.ref l0), some (.int l1), some (.int l2), some (.int l3)]) (st' := [.ref (gR h l0 2)]) (h' := h) rfl ?_
      refine mX_ckc (m := mcl (mE mtab d 191 [.ref (gR h l0 2)] h) 1 32 [some (.ref l0), some (.int l1), some (.int l2), some (.int l3)] []) rfl ?_
      refine mk_cI ?_
      intro x7 h6
      refine mX_to 3 (k' := 21) (ls' := [some (.ref l0), some (.int l1), some (.int l2), some (.int (l3 + 1))]) (st' := []) (h' := h6) rfl ?_
      rfl
    · rfl
  · rfl
theorem D_X10_foretold_35 (d : Nat) (h : MH) (l0 : Nat) (l1 : Int32) (l2 : Int32) (l3 : Int32) : mX (mE mtab d) KX10_foretold 35 [some (.ref l0), some (.int l1), some (.int l2), some (.int l3)] [] h = ck (kd h l0 = 11) (ck (kd h (gR h l0 2) = 10) (ck ((kd h (gR h (gR h l0 2) 2) = 20 ∨ kd h (gR h (gR h l0 2) 2) = 24) ∧ ib l2 (ln h (gR h (gR h l0 2) 2))) (some (.int (gI h (gR h (gR h l0 2) 2) (ix l2)), h)))) := by
  refine mX_to 1 (k' := 36) (ls' := [some (.ref l0), some (.int l1), some (.int l2), some (.int l3)]) (st' := [.ref l0]) (h' := h) rfl ?_
  refine mX_ck (k' := 37) (ls' := [some (.ref l0), some (.int l1), some (.int l2), some (.int l3)]) (st' := [.ref (gR h l0 2)]) (h' := h) rfl ?_
  refine mX_ck (k' := 38) (ls' := [some (.ref l0), some (.int l1), some (.int l2), some (.int l3)]) (st' := [.ref (gR h (gR h l0 2) 2)]) (h' := h) rfl ?_
  refine mX_to 1 (k' := 39) (ls' := [some (.ref l0), some (.int l1), some (.int l2), some (.int l3)]) (st' := [.int l2, .ref (gR h (gR h l0 2) 2)]) (h' := h) rfl ?_
  refine mX_ck (k' := 40) (ls' := [some (.ref l0), some (.int l1), some (.int l2), some (.int l3)]) (st' := [.int (gI h (gR h (gR h l0 2) 2) (ix l2))]) (h' := h) rfl ?_
  exact mX_reti rfl
theorem D_X10_foretold (d : Nat) (h : MH) (a0 : Nat) (a1 : Int32) (a2 : Int32) : mE mtab (d + 1) 226 [.ref a0, .int a1, .int a2] h = cI (mE mtab d 11 [.int a1, .int 1, .int 60] h) (fun x2 h1 => (if x2 = 0 then some (.int (-1), h1) else ck (kd h1 a0 = 11) (ck (kd h1 (gR h1 a0 0) = 1) (ck (kd h1 (gR h1 (gR h1 a0 0) 0) = 10) (cI (mE mtab d 17 [.ref (gR h1 (gR h1 a0 0) 0), .int a2] h1) (fun x4 h3 => (if x4 = 0 then some (.int (-1), h3) else ck (kd h3 a0 = 11) (ck (kd h3 a0 = 11) (ck (kd h3 (gR h3 a0 0) = 1) (ck (kd h3 (gR h3 a0 2) = 10) (cV (mE mtab d 225 [.ref (gR h3 a0 2), .ref (gR h3 (gR h3 a0 0) 0)] h3) (fun h5 => mX (mE mtab d) KX10_foretold 21 [some (.ref a0), some (.int a1), some (.int a2), some (.int 0)] [] h5)))))))))))) := by
  refine mE_eq (q := (yX10_foretold, cX10_foretold, 4, (some .int), KX10_foretold)) (C := KX10_foretold) (ls := [some (.ref a0), some (.int a1), some (.int a2), none]) rfl rfl rfl rfl ?_
  refine mX_to 3 (k' := 3) (ls' := [some (.ref a0), some (.int a1), some (.int a2), none]) (st' := [.int 60, .int 1, .int a1]) (h' := h) rfl ?_
  refine mX_cI (o := mE mtab d 11 [.int a1, .int 1, .int 60] h) (k' := 4) (ls' := [some (.ref a0), some (.int a1), some (.int a2), none]) (st' := []) rfl ?_
  intro x2 h1
  refine mX_br (t := 11) (f := 5) (ls' := [some (.ref a0), some (.int a1), some (.int a2), none]) (st' := []) (h' := h1) rfl ?_ ?_
  · refine mX_to 1 (k' := 12) (ls' := [some (.ref a0), some (.int a1), some (.int a2), none]) (st' := [.int (-1)]) (h' := h1) rfl ?_
    exact mX_reti rfl
  · refine mX_to 1 (k' := 6) (ls' := [some (.ref a0), some (.int a1), some (.int a2), none]) (st' := [.ref a0]) (h' := h1) rfl ?_
    refine mX_ck (k' := 7) (ls' := [some (.ref a0), some (.int a1), some (.int a2), none]) (st' := [.ref (gR h1 a0 0)]) (h' := h1) rfl ?_
    refine mX_ck (k' := 8) (ls' := [some (.ref a0), some (.int a1), some (.int a2), none]) (st' := [.ref (gR h1 (gR h1 a0 0) 0)]) (h' := h1) rfl ?_
    refine mX_to 1 (k' := 9) (ls' := [some (.ref a0), some (.int a1), some (.int a2), none]) (st' := [.int a2, .ref (gR h1 (gR h1 a0 0) 0)]) (h' := h1) rfl ?_
    refine mX_ckc (m := mcl (mE mtab d 17 [.ref (gR h1 (gR h1 a0 0) 0), .int a2] h1) 1 10 [some (.ref a0), some (.int a1), some (.int a2), none] []) rfl ?_
    refine mk_cI ?_
    intro x4 h3
    refine mX_br (t := 11) (f := 13) (ls' := [some (.ref a0), some (.int a1), some (.int a2), none]) (st' := []) (h' := h3) rfl ?_ ?_
    · refine mX_to 1 (k' := 12) (ls' := [some (.ref a0), some (.int a1), some (.int a2), none]) (st' := [.int (-1)]) (h' := h3) rfl ?_
      exact mX_reti rfl
    · refine mX_to 1 (k' := 14) (ls' := [some (.ref a0), some (.int a1), some (.int a2), none]) (st' := [.ref a0]) (h' := h3) rfl ?_
      refine mX_ck (k' := 15) (ls' := [some (.ref a0), some (.int a1), some (.int a2), none]) (st' := [.ref (gR h3 a0 2)]) (h' := h3) rfl ?_
      refine mX_to 1 (k' := 16) (ls' := [some (.ref a0), some (.int a1), some (.int a2), none]) (st' := [.ref a0, .ref (gR h3 a0 2)]) (h' := h3) rfl ?_
      refine mX_ck (k' := 17) (ls' := [some (.ref a0), some (.int a1), some (.int a2), none]) (st' := [.ref (gR h3 a0 0), .ref (gR h3 a0 2)]) (h' := h3) rfl ?_
      refine mX_ck (k' := 18) (ls' := [some (.ref a0), some (.int a1), some (.int a2), none]) (st' := [.ref (gR h3 (gR h3 a0 0) 0), .ref (gR h3 a0 2)]) (h' := h3) rfl ?_
      refine mX_ckc (m := mcl (mE mtab d 225 [.ref (gR h3 a0 2), .ref (gR h3 (gR h3 a0 0) 0)] h3) 0 19 [some (.ref a0), some (.int a1), some (.int a2), none] []) rfl ?_
      refine mk_cV ?_
      intro h5
      refine mX_to 2 (k' := 21) (ls' := [some (.ref a0), some (.int a1), some (.int a2), some (.int 0)]) (st' := []) (h' := h5) rfl ?_
      rfl
theorem D_X11_foretold_13 (d : Nat) (h : MH) (l0 : Nat) (l1 : Int32) (l2 : Int32) (l3 : Int32) : mX (mE mtab d) KX11_foretold 13 [some (.ref l0), some (.int l1), some (.int l2), some (.int l3), none] [] h = (if l3 < 22 then ck (kd h l0 = 12) (ck (kd h l0 = 12) (ck ((kd h (gR h l0 0) = 20 ∨ kd h (gR h l0 0) = 24) ∧ ib l3 (ln h (gR h l0 0))) (ck (kd h (gR h l0 25) = 20 ∧ ib l3 (ln h (gR h l0 25))) (lt_ (sI h (gR h l0 25) (ix l3) (gI h (gR h l0 0) (ix l3))) fun h5 => mX (mE mtab d) KX11_foretold 13 [some (.ref l0), some (.int l1), some (.int l2), some (.int (l3 + 1)), none] [] h5)))) else ck (kd h l0 = 12 ∧ ((0 : Int32) = 0 ∨ (0 : Int32) = 1)) (lt_ (sI h l0 23 0) fun h7 => mX (mE mtab d) KX11_foretold 31 [some (.ref l0), some (.int l1), some (.int l2), some (.int 0), none] [] h7)) := by
  refine mX_to 2 (k' := 15) (ls' := [some (.ref l0), some (.int l1), some (.int l2), some (.int l3), none]) (st' := [.int 22, .int l3]) (h' := h) rfl ?_
  refine mX_br (t := 16) (f := 26) (ls' := [some (.ref l0), some (.int l1), some (.int l2), some (.int l3), none]) (st' := []) (h' := h) rfl ?_ ?_
  · refine mX_to 1 (k' := 17) (ls' := [some (.ref l0), some (.int l1), some (.int l2), some (.int l3), none]) (st' := [.ref l0]) (h' := h) rfl ?_
    refine mX_ck (k' := 18) (ls' := [some (.ref l0), some (.int l1), some (.int l2), some (.int l3), none]) (st' := [.ref (gR h l0 25)]) (h' := h) rfl ?_
    refine mX_to 2 (k' := 20) (ls' := [some (.ref l0), some (.int l1), some (.int l2), some (.int l3), none]) (st' := [.ref l0, .int l3, .ref (gR h l0 25)]) (h' := h) rfl ?_
    refine mX_ck (k' := 21) (ls' := [some (.ref l0), some (.int l1), some (.int l2), some (.int l3), none]) (st' := [.ref (gR h l0 0), .int l3, .ref (gR h l0 25)]) (h' := h) rfl ?_
    refine mX_to 1 (k' := 22) (ls' := [some (.ref l0), some (.int l1), some (.int l2), some (.int l3), none]) (st' := [.int l3, .ref (gR h l0 0), .int l3, .ref (gR h l0 25)]) (h' := h) rfl ?_
    refine mX_ck (k' := 23) (ls' := [some (.ref l0), some (.int l1), some (.int l2), some (.int l3), none]) (st' := [.int (gI h (gR h l0 0) (ix l3)), .int l3, .ref (gR h l0 25)]) (h' := h) rfl ?_
    refine mX_ck (k' := 24) (ls' := [some (.ref l0), some (.int l1), some (.int l2), some (.int l3), none]) (st' := []) (h' := (sI h (gR h l0 25) (ix l3) (gI h (gR h l0 0) (ix l3)))) rfl ?_
    refine lt_gen (X := fun h5 : MH => mX (mE mtab d) KX11_foretold 24 [some (.ref l0), some (.int l1), some (.int l2), some (.int l3), none] [] h5) fun h5 => ?_
    refine mX_to 2 (k' := 13) (ls' := [some (.ref l0), some (.int l1), some (.int l2), some (.int (l3 + 1)), none]) (st' := []) (h' := h5) rfl ?_
    rfl
  · refine mX_to 2 (k' := 28) (ls' := [some (.ref l0), some (.int l1), some (.int l2), some (.int l3), none]) (st' := [.int 0, .ref l0]) (h' := h) rfl ?_
    refine mX_ck (k' := 29) (ls' := [some (.ref l0), some (.int l1), some (.int l2), some (.int l3), none]) (st' := []) (h' := (sI h l0 23 0)) rfl ?_
    refine lt_gen (X := fun h7 : MH => mX (mE mtab d) KX11_foretold 29 [some (.ref l0), some (.int l1), some (.int l2), some (.int l3), none] [] h7) fun h7 => ?_
    refine mX_to 2 (k' := 31) (ls' := [some (.ref l0), some (.int l1), some (.int l2), some (.int 0), none]) (st' := []) (h' := h7) rfl ?_
    rfl
theorem D_X11_foretold_31 (d : Nat) (h : MH) (l0 : Nat) (l1 : Int32) (l2 : Int32) (l3 : Int32) : mX (mE mtab d) KX11_foretold 31 [some (.ref l0), some (.int l1), some (.int l2), some (.int l3), none] [] h = (if l3 < l1 then ck (kd h l0 = 12) (ck ((kd h (gR h l0 0) = 20 ∨ kd h (gR h l0 0) = 24) ∧ ib (6 : Int32) (ln h (gR h l0 0))) ((if (gI h (gR h l0 0) (ix (6 : Int32))) < 9999 then ck (kd h l0 = 12) (cV (mE mtab d 199 [.ref l0] h) (fun h8 => mX (mE mtab d) KX11_foretold 42 [some (.ref l0), some (.int l1), some (.int l2), some (.int l3), none] [] h8)) else mX (mE mtab d) KX11_foretold 42 [some (.ref l0), some (.int l1), some (.int l2), some (.int l3), none] [] h))) else ck (kd h l0 = 12) (ck ((kd h (gR h l0 0) = 20 ∨ kd h (gR h l0 0) = 24) ∧ ib (9 + l2) (ln h (gR h l0 0))) (lt_ (gI h (gR h l0 0) (ix (9 + l2))) fun v9 => mX (mE mtab d) KX11_foretold 53 [some (.ref l0), some (.int l1), some (.int l2), some (.int v9), some (.int 6)] [] h))) := by
  refine mX_to 2 (k' := 33) (ls' := [some (.ref l0), some (.int l1), some (.int l2), some (.int l3), none]) (st' := [.int l1, .int l3]) (h' := h) rfl ?_
  refine mX_br (t := 34) (f := 44) (ls' := [some (.ref l0), some (.int l1), some (.int l2), some (.int l3), none]) (st' := []) (h' := h) rfl ?_ ?_
  · refine mX_to 1 (k' := 35) (ls' := [some (.ref l0), some (.int l1), some (.int l2), some (.int l3), none]) (st' := [.ref l0]) (h' := h) rfl ?_
    refine mX_ck (k' := 36) (ls' := [some (.ref l0), some (.int l1), some (.int l2), some (.int l3), none]) (st' := [.ref (gR h l0 0)]) (h' := h) rfl ?_
    refine mX_to 1 (k' := 37) (ls' := [some (.ref l0), some (.int l1), some (.int l2), some (.int l3), none]) (st' := [.int 6, .ref (gR h l0 0)]) (h' := h) rfl ?_
    refine mX_ck (k' := 38) (ls' := [some (.ref l0), some (.int l1), some (.int l2), some (.int l3), none]) (st' := [.int (gI h (gR h l0 0) (ix (6 : Int32)))]) (h' := h) rfl ?_
    refine mX_to 1 (k' := 39) (ls' := [some (.ref l0), some (.int l1), some (.int l2), some (.int l3), none]) (st' := [.int 9999, .int (gI h (gR h l0 0) (ix (6 : Int32)))]) (h' := h) rfl ?_
    refine mX_br (t := 40) (f := 42) (ls' := [some (.ref l0), some (.int l1), some (.int l2), some (.int l3), none]) (st' := []) (h' := h) rfl ?_ ?_
    · refine mX_to 1 (k' := 41) (ls' := [some (.ref l0), some (.int l1), some (.int l2), some (.int l3), none]) (st' := [.ref l0]) (h' := h) rfl ?_
      refine mX_ckc (m := mcl (mE mtab d 199 [.ref l0] h) 0 42 [some (.ref l0), some (.int l1), some (.int l2), some (.int l3), none] []) rfl ?_
      refine mk_cV ?_
      intro h8
      rfl
    · rfl
  · refine mX_to 1 (k' := 45) (ls' := [some (.ref l0), some (.int l1), some (.int l2), some (.int l3), none]) (st' := [.ref l0]) (h' := h) rfl ?_
    refine mX_ck (k' := 46) (ls' := [some (.ref l0), some (.int l1), some (.int l2), some (.int l3), none]) (st' := [.ref (gR h l0 0)]) (h' := h) rfl ?_
    refine mX_to 3 (k' := 49) (ls' := [some (.ref l0), some (.int l1), some (.int l2), some (.int l3), none]) (st' := [.int (9 + l2), .ref (gR h l0 0)]) (h' := h) rfl ?_
    refine mX_ck (k' := 50) (ls' := [some (.ref l0), some (.int l1), some (.int l2), some (.int l3), none]) (st' := [.int (gI h (gR h l0 0) (ix (9 + l2)))]) (h' := h) rfl ?_
    refine lt_gen (X := fun v9 : Int32 => mX (mE mtab d) KX11_foretold 50 [some (.ref l0), some (.int l1), some (.int l2), some (.int l3), none] [.int v9] h) fun v9 => ?_
    refine mX_to 3 (k' := 53) (ls' := [some (.ref l0), some (.int l1), some (.int l2), some (.int v9), some (.int 6)]) (st' := []) (h' := h) rfl ?_
    rfl
theorem D_X11_foretold_42 (d : Nat) (h : MH) (l0 : Nat) (l1 : Int32) (l2 : Int32) (l3 : Int32) : mX (mE mtab d) KX11_foretold 42 [some (.ref l0), some (.int l1), some (.int l2), some (.int l3), none] [] h = mX (mE mtab d) KX11_foretold 31 [some (.ref l0), some (.int l1), some (.int l2), some (.int (l3 + 1)), none] [] h := by
  refine mX_to 2 (k' := 31) (ls' := [some (.ref l0), some (.int l1), some (.int l2), some (.int (l3 + 1)), none]) (st' := []) (h' := h) rfl ?_
  rfl
theorem D_X11_foretold_53 (d : Nat) (h : MH) (l0 : Nat) (l1 : Int32) (l2 : Int32) (l3 : Int32) (l4 : Int32) : mX (mE mtab d) KX11_foretold 53 [some (.ref l0), some (.int l1), some (.int l2), some (.int l3), some (.int l4)] [] h = (if l4 < 22 then ck (kd h l0 = 12) (ck (kd h l0 = 12) (ck ((kd h (gR h l0 25) = 20 ∨ kd h (gR h l0 25) = 24) ∧ ib l4 (ln h (gR h l0 25))) (ck (kd h (gR h l0 0) = 20 ∧ ib l4 (ln h (gR h l0 0))) (lt_ (sI h (gR h l0 0) (ix l4) (gI h (gR h l0 25) (ix l4))) fun h11 => mX (mE mtab d) KX11_foretold 53 [some (.ref l0), some (.int l1), some (.int l2), some (.int l3), some (.int (l4 + 1))] [] h11)))) else ck (kd h l0 = 12 ∧ ((1 : Int32) = 0 ∨ (1 : Int32) = 1)) (lt_ (sI h l0 23 1) fun h13 => some (.int l3, h13))) := by
  refine mX_to 2 (k' := 55) (ls' := [some (.ref l0), some (.int l1), some (.int l2), some (.int l3), some (.int l4)]) (st' := [.int 22, .int l4]) (h' := h) rfl ?_
  refine mX_br (t := 56) (f := 66) (ls' := [some (.ref l0), some (.int l1), some (.int l2), some (.int l3), some (.int l4)]) (st' := []) (h' := h) rfl ?_ ?_
  · refine mX_to 1 (k' := 57) (ls' := [some (.ref l0), some (.int l1), some (.int l2), some (.int l3), some (.int l4)]) (st' := [.ref l0]) (h' := h) rfl ?_
    refine mX_ck (k' := 58) (ls' := [some (.ref l0), some (.int l1), some (.int l2), some (.int l3), some (.int l4)]) (st' := [.ref (gR h l0 0)]) (h' := h) rfl ?_
    refine mX_to 2 (k' := 60) (ls' := [some (.ref l0), some (.int l1), some (.int l2), some (.int l3), some (.int l4)]) (st' := [.ref l0, .int l4, .ref (gR h l0 0)]) (h' := h) rfl ?_
    refine mX_ck (k' := 61) (ls' := [some (.ref l0), some (.int l1), some (.int l2), some (.int l3), some (.int l4)]) (st' := [.ref (gR h l0 25), .int l4, .ref (gR h l0 0)]) (h' := h) rfl ?_
    refine mX_to 1 (k' := 62) (ls' := [some (.ref l0), some (.int l1), some (.int l2), some (.int l3), some (.int l4)]) (st' := [.int l4, .ref (gR h l0 25), .int l4, .ref (gR h l0 0)]) (h' := h) rfl ?_
    refine mX_ck (k' := 63) (ls' := [some (.ref l0), some (.int l1), some (.int l2), some (.int l3), some (.int l4)]) (st' := [.int (gI h (gR h l0 25) (ix l4)), .int l4, .ref (gR h l0 0)]) (h' := h) rfl ?_
    refine mX_ck (k' := 64) (ls' := [some (.ref l0), some (.int l1), some (.int l2), some (.int l3), some (.int l4)]) (st' := []) (h' := (sI h (gR h l0 0) (ix l4) (gI h (gR h l0 25) (ix l4)))) rfl ?_
    refine lt_gen (X := fun h11 : MH => mX (mE mtab d) KX11_foretold 64 [some (.ref l0), some (.int l1), some (.int l2), some (.int l3), some (.int l4)] [] h11) fun h11 => ?_
    refine mX_to 2 (k' := 53) (ls' := [some (.ref l0), some (.int l1), some (.int l2), some (.int l3), some (.int (l4 + 1))]) (st' := []) (h' := h11) rfl ?_
    rfl
  · refine mX_to 2 (k' := 68) (ls' := [some (.ref l0), some (.int l1), some (.int l2), some (.int l3), some (.int l4)]) (st' := [.int 1, .ref l0]) (h' := h) rfl ?_
    refine mX_ck (k' := 69) (ls' := [some (.ref l0), some (.int l1), some (.int l2), some (.int l3), some (.int l4)]) (st' := []) (h' := (sI h l0 23 1)) rfl ?_
    refine lt_gen (X := fun h13 : MH => mX (mE mtab d) KX11_foretold 69 [some (.ref l0), some (.int l1), some (.int l2), some (.int l3), some (.int l4)] [] h13) fun h13 => ?_
    refine mX_to 1 (k' := 70) (ls' := [some (.ref l0), some (.int l1), some (.int l2), some (.int l3), some (.int l4)]) (st' := [.int l3]) (h' := h13) rfl ?_
    exact mX_reti rfl
theorem D_X11_foretold (d : Nat) (h : MH) (a0 : Nat) (a1 : Int32) (a2 : Int32) : mE mtab (d + 1) 227 [.ref a0, .int a1, .int a2] h = cI (mE mtab d 14 [.int a1, .int 1, .int 60] h) (fun x2 h1 => (if x2 = 0 then some (.int (-1), h1) else ck (kd h1 a0 = 12) (cI (mE mtab d 20 [.ref a0, .int a2] h1) (fun x4 h3 => (if x4 = 0 then some (.int (-1), h3) else mX (mE mtab d) KX11_foretold 13 [some (.ref a0), some (.int a1), some (.int a2), some (.int 6), none] [] h3))))) := by
  refine mE_eq (q := (yX11_foretold, cX11_foretold, 5, (some .int), KX11_foretold)) (C := KX11_foretold) (ls := [some (.ref a0), some (.int a1), some (.int a2), none, none]) rfl rfl rfl rfl ?_
  refine mX_to 3 (k' := 3) (ls' := [some (.ref a0), some (.int a1), some (.int a2), none, none]) (st' := [.int 60, .int 1, .int a1]) (h' := h) rfl ?_
  refine mX_cI (o := mE mtab d 14 [.int a1, .int 1, .int 60] h) (k' := 4) (ls' := [some (.ref a0), some (.int a1), some (.int a2), none, none]) (st' := []) rfl ?_
  intro x2 h1
  refine mX_br (t := 9) (f := 5) (ls' := [some (.ref a0), some (.int a1), some (.int a2), none, none]) (st' := []) (h' := h1) rfl ?_ ?_
  · refine mX_to 1 (k' := 10) (ls' := [some (.ref a0), some (.int a1), some (.int a2), none, none]) (st' := [.int (-1)]) (h' := h1) rfl ?_
    exact mX_reti rfl
  · refine mX_to 2 (k' := 7) (ls' := [some (.ref a0), some (.int a1), some (.int a2), none, none]) (st' := [.int a2, .ref a0]) (h' := h1) rfl ?_
    refine mX_ckc (m := mcl (mE mtab d 20 [.ref a0, .int a2] h1) 1 8 [some (.ref a0), some (.int a1), some (.int a2), none, none] []) rfl ?_
    refine mk_cI ?_
    intro x4 h3
    refine mX_br (t := 9) (f := 11) (ls' := [some (.ref a0), some (.int a1), some (.int a2), none, none]) (st' := []) (h' := h3) rfl ?_ ?_
    · refine mX_to 1 (k' := 10) (ls' := [some (.ref a0), some (.int a1), some (.int a2), none, none]) (st' := [.int (-1)]) (h' := h3) rfl ?_
      exact mX_reti rfl
    · refine mX_to 2 (k' := 13) (ls' := [some (.ref a0), some (.int a1), some (.int a2), some (.int 6), none]) (st' := []) (h' := h3) rfl ?_
      rfl
theorem D_X10_tip (d : Nat) (h : MH) (a0 : Nat) (a1 : Int32) (a2 : Int32) : mE mtab (d + 1) 228 [.ref a0, .int a1, .int a2] h = ck (kd h a0 = 11) (ck (kd h (gR h a0 0) = 1) (ck (kd h (gR h (gR h a0 0) 0) = 10) (cI (mE mtab d 17 [.ref (gR h (gR h a0 0) 0), .int a1] h) (fun x2 h1 => (if x2 = 0 then some (.int (-1000), h1) else cI (mE mtab d 11 [.int a2, .int 0, .int 8] h1) (fun x4 h3 => (if x4 = 0 then some (.int (-1000), h3) else ck (kd h3 a0 = 11) (ck (kd h3 a0 = 11) (ck (kd h3 (gR h3 a0 0) = 1) (ck (kd h3 (gR h3 a0 2) = 10) (cV (mE mtab d 225 [.ref (gR h3 a0 2), .ref (gR h3 (gR h3 a0 0) 0)] h3) (fun h5 => ck (kd h5 a0 = 11) (ck (kd h5 (gR h5 a0 2) = 10) (ck (kd h5 (gR h5 (gR h5 a0 2) 2) = 20 ∧ ib a1 (ln h5 (gR h5 (gR h5 a0 2) 2))) (lt_ (sI h5 (gR h5 (gR h5 a0 2) 2) (ix a1) a2) fun h6 => ck (kd h6 a0 = 11) (ck (kd h6 (gR h6 a0 2) = 10) (cI (mE mtab d 139 [.ref (gR h6 a0 2)] h6) (fun x8 h7 => some (.int x8, h7))))))))))))))))))) := by
  refine mE_eq (q := (yX10_tip, cX10_tip, 3, (some .int), KX10_tip)) (C := KX10_tip) (ls := [some (.ref a0), some (.int a1), some (.int a2)]) rfl rfl rfl rfl ?_
  refine mX_to 1 (k' := 1) (ls' := [some (.ref a0), some (.int a1), some (.int a2)]) (st' := [.ref a0]) (h' := h) rfl ?_
  refine mX_ck (k' := 2) (ls' := [some (.ref a0), some (.int a1), some (.int a2)]) (st' := [.ref (gR h a0 0)]) (h' := h) rfl ?_
  refine mX_ck (k' := 3) (ls' := [some (.ref a0), some (.int a1), some (.int a2)]) (st' := [.ref (gR h (gR h a0 0) 0)]) (h' := h) rfl ?_
  refine mX_to 1 (k' := 4) (ls' := [some (.ref a0), some (.int a1), some (.int a2)]) (st' := [.int a1, .ref (gR h (gR h a0 0) 0)]) (h' := h) rfl ?_
  refine mX_ckc (m := mcl (mE mtab d 17 [.ref (gR h (gR h a0 0) 0), .int a1] h) 1 5 [some (.ref a0), some (.int a1), some (.int a2)] []) rfl ?_
  refine mk_cI ?_
  intro x2 h1
  refine mX_br (t := 11) (f := 6) (ls' := [some (.ref a0), some (.int a1), some (.int a2)]) (st' := []) (h' := h1) rfl ?_ ?_
  · refine mX_to 1 (k' := 12) (ls' := [some (.ref a0), some (.int a1), some (.int a2)]) (st' := [.int (-1000)]) (h' := h1) rfl ?_
    exact mX_reti rfl
  · refine mX_to 3 (k' := 9) (ls' := [some (.ref a0), some (.int a1), some (.int a2)]) (st' := [.int 8, .int 0, .int a2]) (h' := h1) rfl ?_
    refine mX_cI (o := mE mtab d 11 [.int a2, .int 0, .int 8] h1) (k' := 10) (ls' := [some (.ref a0), some (.int a1), some (.int a2)]) (st' := []) rfl ?_
    intro x4 h3
    refine mX_br (t := 11) (f := 13) (ls' := [some (.ref a0), some (.int a1), some (.int a2)]) (st' := []) (h' := h3) rfl ?_ ?_
    · refine mX_to 1 (k' := 12) (ls' := [some (.ref a0), some (.int a1), some (.int a2)]) (st' := [.int (-1000)]) (h' := h3) rfl ?_
      exact mX_reti rfl
    · refine mX_to 1 (k' := 14) (ls' := [some (.ref a0), some (.int a1), some (.int a2)]) (st' := [.ref a0]) (h' := h3) rfl ?_
      refine mX_ck (k' := 15) (ls' := [some (.ref a0), some (.int a1), some (.int a2)]) (st' := [.ref (gR h3 a0 2)]) (h' := h3) rfl ?_
      refine mX_to 1 (k' := 16) (ls' := [some (.ref a0), some (.int a1), some (.int a2)]) (st' := [.ref a0, .ref (gR h3 a0 2)]) (h' := h3) rfl ?_
      refine mX_ck (k' := 17) (ls' := [some (.ref a0), some (.int a1), some (.int a2)]) (st' := [.ref (gR h3 a0 0), .ref (gR h3 a0 2)]) (h' := h3) rfl ?_
      refine mX_ck (k' := 18) (ls' := [some (.ref a0), some (.int a1), some (.int a2)]) (st' := [.ref (gR h3 (gR h3 a0 0) 0), .ref (gR h3 a0 2)]) (h' := h3) rfl ?_
      refine mX_ckc (m := mcl (mE mtab d 225 [.ref (gR h3 a0 2), .ref (gR h3 (gR h3 a0 0) 0)] h3) 0 19 [some (.ref a0), some (.int a1), some (.int a2)] []) rfl ?_
      refine mk_cV ?_
      intro h5
      refine mX_to 1 (k' := 20) (ls' := [some (.ref a0), some (.int a1), some (.int a2)]) (st' := [.ref a0]) (h' := h5) rfl ?_
      refine mX_ck (k' := 21) (ls' := [some (.ref a0), some (.int a1), some (.int a2)]) (st' := [.ref (gR h5 a0 2)]) (h' := h5) rfl ?_
      refine mX_ck (k' := 22) (ls' := [some (.ref a0), some (.int a1), some (.int a2)]) (st' := [.ref (gR h5 (gR h5 a0 2) 2)]) (h' := h5) rfl ?_
      refine mX_to 2 (k' := 24) (ls' := [some (.ref a0), some (.int a1), some (.int a2)]) (st' := [.int a2, .int a1, .ref (gR h5 (gR h5 a0 2) 2)]) (h' := h5) rfl ?_
      refine mX_ck (k' := 25) (ls' := [some (.ref a0), some (.int a1), some (.int a2)]) (st' := []) (h' := (sI h5 (gR h5 (gR h5 a0 2) 2) (ix a1) a2)) rfl ?_
      refine lt_gen (X := fun h6 : MH => mX (mE mtab d) KX10_tip 25 [some (.ref a0), some (.int a1), some (.int a2)] [] h6) fun h6 => ?_
      refine mX_to 1 (k' := 26) (ls' := [some (.ref a0), some (.int a1), some (.int a2)]) (st' := [.ref a0]) (h' := h6) rfl ?_
      refine mX_ck (k' := 27) (ls' := [some (.ref a0), some (.int a1), some (.int a2)]) (st' := [.ref (gR h6 a0 2)]) (h' := h6) rfl ?_
      refine mX_ckc (m := mcl (mE mtab d 139 [.ref (gR h6 a0 2)] h6) 1 28 [some (.ref a0), some (.int a1), some (.int a2)] []) rfl ?_
      refine mk_cI ?_
      intro x8 h7
      exact mX_reti rfl
theorem D_X11_tip (d : Nat) (h : MH) (a0 : Nat) (a1 : Int32) (a2 : Int32) : mE mtab (d + 1) 229 [.ref a0, .int a1, .int a2] h = ck (kd h a0 = 12) (cI (mE mtab d 20 [.ref a0, .int a1] h) (fun x2 h1 => (if x2 = 0 then some (.int (-1000), h1) else cI (mE mtab d 15 [.int a2] h1) (fun x4 h3 => (if x4 = 0 then some (.int (-1000), h3) else ck (kd h3 a0 = 12) (cI (mE mtab d 156 [.ref a0] h3) (fun x6 h5 => ck (kd h5 a0 = 12) (ck ((kd h5 (gR h5 a0 0) = 20 ∨ kd h5 (gR h5 a0 0) = 24) ∧ ib (22 + a1) (ln h5 (gR h5 a0 0))) (ck (kd h5 a0 = 12) (ck ((kd h5 (gR h5 a0 0) = 20 ∨ kd h5 (gR h5 a0 0) = 24) ∧ ib (9 + a1) (ln h5 (gR h5 a0 0))) (some (.int (x6 + ((gI h5 (gR h5 a0 0) (ix (22 + a1))) * (a2 - (gI h5 (gR h5 a0 0) (ix (9 + a1)))))), h5)))))))))))) := by
  refine mE_eq (q := (yX11_tip, cX11_tip, 3, (some .int), KX11_tip)) (C := KX11_tip) (ls := [some (.ref a0), some (.int a1), some (.int a2)]) rfl rfl rfl rfl ?_
  refine mX_to 2 (k' := 2) (ls' := [some (.ref a0), some (.int a1), some (.int a2)]) (st' := [.int a1, .ref a0]) (h' := h) rfl ?_
  refine mX_ckc (m := mcl (mE mtab d 20 [.ref a0, .int a1] h) 1 3 [some (.ref a0), some (.int a1), some (.int a2)] []) rfl ?_
  refine mk_cI ?_
  intro x2 h1
  refine mX_br (t := 26) (f := 4) (ls' := [some (.ref a0), some (.int a1), some (.int a2)]) (st' := []) (h' := h1) rfl ?_ ?_
  · refine mX_to 1 (k' := 27) (ls' := [some (.ref a0), some (.int a1), some (.int a2)]) (st' := [.int (-1000)]) (h' := h1) rfl ?_
    exact mX_reti rfl
  · refine mX_to 1 (k' := 5) (ls' := [some (.ref a0), some (.int a1), some (.int a2)]) (st' := [.int a2]) (h' := h1) rfl ?_
    refine mX_cI (o := mE mtab d 15 [.int a2] h1) (k' := 6) (ls' := [some (.ref a0), some (.int a1), some (.int a2)]) (st' := []) rfl ?_
    intro x4 h3
    refine mX_br (t := 26) (f := 7) (ls' := [some (.ref a0), some (.int a1), some (.int a2)]) (st' := []) (h' := h3) rfl ?_ ?_
    · refine mX_to 1 (k' := 27) (ls' := [some (.ref a0), some (.int a1), some (.int a2)]) (st' := [.int (-1000)]) (h' := h3) rfl ?_
      exact mX_reti rfl
    · refine mX_to 1 (k' := 8) (ls' := [some (.ref a0), some (.int a1), some (.int a2)]) (st' := [.ref a0]) (h' := h3) rfl ?_
      refine mX_ckc (m := mcl (mE mtab d 156 [.ref a0] h3) 1 9 [some (.ref a0), some (.int a1), some (.int a2)] []) rfl ?_
      refine mk_cI ?_
      intro x6 h5
      refine mX_to 1 (k' := 10) (ls' := [some (.ref a0), some (.int a1), some (.int a2)]) (st' := [.ref a0, .int x6]) (h' := h5) rfl ?_
      refine mX_ck (k' := 11) (ls' := [some (.ref a0), some (.int a1), some (.int a2)]) (st' := [.ref (gR h5 a0 0), .int x6]) (h' := h5) rfl ?_
      refine mX_to 3 (k' := 14) (ls' := [some (.ref a0), some (.int a1), some (.int a2)]) (st' := [.int (22 + a1), .ref (gR h5 a0 0), .int x6]) (h' := h5) rfl ?_
      refine mX_ck (k' := 15) (ls' := [some (.ref a0), some (.int a1), some (.int a2)]) (st' := [.int (gI h5 (gR h5 a0 0) (ix (22 + a1))), .int x6]) (h' := h5) rfl ?_
      refine mX_to 2 (k' := 17) (ls' := [some (.ref a0), some (.int a1), some (.int a2)]) (st' := [.ref a0, .int a2, .int (gI h5 (gR h5 a0 0) (ix (22 + a1))), .int x6]) (h' := h5) rfl ?_
      refine mX_ck (k' := 18) (ls' := [some (.ref a0), some (.int a1), some (.int a2)]) (st' := [.ref (gR h5 a0 0), .int a2, .int (gI h5 (gR h5 a0 0) (ix (22 + a1))), .int x6]) (h' := h5) rfl ?_
      refine mX_to 3 (k' := 21) (ls' := [some (.ref a0), some (.int a1), some (.int a2)]) (st' := [.int (9 + a1), .ref (gR h5 a0 0), .int a2, .int (gI h5 (gR h5 a0 0) (ix (22 + a1))), .int x6]) (h' := h5) rfl ?_
      refine mX_ck (k' := 22) (ls' := [some (.ref a0), some (.int a1), some (.int a2)]) (st' := [.int (gI h5 (gR h5 a0 0) (ix (9 + a1))), .int a2, .int (gI h5 (gR h5 a0 0) (ix (22 + a1))), .int x6]) (h' := h5) rfl ?_
      refine mX_to 4 (k' := 27) (ls' := [some (.ref a0), some (.int a1), some (.int a2)]) (st' := [.int (x6 + ((gI h5 (gR h5 a0 0) (ix (22 + a1))) * (a2 - (gI h5 (gR h5 a0 0) (ix (9 + a1))))))]) (h' := h5) rfl ?_
      exact mX_reti rfl
theorem D_J7_rangeCheck_23922 (d : Nat) (h : MH) (a0 : Int32) (a1 : Int32) (a2 : Int32) : mE mtab (d + 1) 230 [.int a0, .int a1, .int a2] h = (if a1 ≤ a2 then (if a1 < 0 then none else (if a2 ≤ a0 then some (.int 0, h) else none)) else none) := by
  refine mE_eq (q := (yJ7_rangeCheck_23922, cJ7_rangeCheck_23922, 3, none, KJ7_rangeCheck_23922)) (C := KJ7_rangeCheck_23922) (ls := [some (.int a0), some (.int a1), some (.int a2)]) rfl rfl rfl rfl ?_
  refine mX_to 2 (k' := 2) (ls' := [some (.int a0), some (.int a1), some (.int a2)]) (st' := [.int a2, .int a1]) (h' := h) rfl ?_
  refine mX_br (t := 21) (f := 3) (ls' := [some (.int a0), some (.int a1), some (.int a2)]) (st' := []) (h' := h) rfl ?_ ?_
  · refine mX_to 1 (k' := 22) (ls' := [some (.int a0), some (.int a1), some (.int a2)]) (st' := [.int a1]) (h' := h) rfl ?_
    refine mX_br (t := 23) (f := 28) (ls' := [some (.int a0), some (.int a1), some (.int a2)]) (st' := []) (h' := h) rfl ?_ ?_
    · exact mX_bad rfl
    · refine mX_to 2 (k' := 30) (ls' := [some (.int a0), some (.int a1), some (.int a2)]) (st' := [.int a0, .int a2]) (h' := h) rfl ?_
      refine mX_br (t := 36) (f := 31) (ls' := [some (.int a0), some (.int a1), some (.int a2)]) (st' := []) (h' := h) rfl ?_ ?_
      · exact mX_ret rfl
      · exact mX_bad rfl
  · exact mX_bad rfl
theorem D_J7_fill_fda19_7 (d : Nat) (h : MH) (l0 : Nat) (l1 : Int32) (l2 : Int32) (l3 : Int32) (l4 : Int32) : mX (mE mtab d) KJ7_fill_fda19 7 [some (.ref l0), some (.int l1), some (.int l2), some (.int l3), some (.int l4)] [] h = (if l4 < l2 then ck (kd h l0 = 20 ∧ ib l4 (ln h l0)) (lt_ (sI h l0 (ix l4) l3) fun h2 => mX (mE mtab d) KJ7_fill_fda19 7 [some (.ref l0), some (.int l1), some (.int l2), some (.int l3), some (.int (l4 + 1))] [] h2) else some (.int 0, h)) := by
  refine mX_to 2 (k' := 9) (ls' := [some (.ref l0), some (.int l1), some (.int l2), some (.int l3), some (.int l4)]) (st' := [.int l2, .int l4]) (h' := h) rfl ?_
  refine mX_br (t := 10) (f := 16) (ls' := [some (.ref l0), some (.int l1), some (.int l2), some (.int l3), some (.int l4)]) (st' := []) (h' := h) rfl ?_ ?_
  · refine mX_to 3 (k' := 13) (ls' := [some (.ref l0), some (.int l1), some (.int l2), some (.int l3), some (.int l4)]) (st' := [.int l3, .int l4, .ref l0]) (h' := h) rfl ?_
    refine mX_ck (k' := 14) (ls' := [some (.ref l0), some (.int l1), some (.int l2), some (.int l3), some (.int l4)]) (st' := []) (h' := (sI h l0 (ix l4) l3)) rfl ?_
    refine lt_gen (X := fun h2 : MH => mX (mE mtab d) KJ7_fill_fda19 14 [some (.ref l0), some (.int l1), some (.int l2), some (.int l3), some (.int l4)] [] h2) fun h2 => ?_
    refine mX_to 2 (k' := 7) (ls' := [some (.ref l0), some (.int l1), some (.int l2), some (.int l3), some (.int (l4 + 1))]) (st' := []) (h' := h2) rfl ?_
    rfl
  · exact mX_ret rfl
theorem D_J7_fill_fda19 (d : Nat) (h : MH) (a0 : Nat) (a1 : Int32) (a2 : Int32) (a3 : Int32) : mE mtab (d + 1) 231 [.ref a0, .int a1, .int a2, .int a3] h = ck (20 ≤ kd h a0 ∧ ¬ kd h a0 = 25 ∧ kd h a0 ≤ 26) (cV (mE mtab d 230 [.int (nI (ln h a0)), .int a1, .int a2] h) (fun h1 => mX (mE mtab d) KJ7_fill_fda19 7 [some (.ref a0), some (.int a1), some (.int a2), some (.int a3), some (.int a1)] [] h1)) := by
  refine mE_eq (q := (yJ7_fill_fda19, cJ7_fill_fda19, 5, none, KJ7_fill_fda19)) (C := KJ7_fill_fda19) (ls := [some (.ref a0), some (.int a1), some (.int a2), some (.int a3), none]) rfl rfl rfl rfl ?_
  refine mX_to 1 (k' := 1) (ls' := [some (.ref a0), some (.int a1), some (.int a2), some (.int a3), none]) (st' := [.ref a0]) (h' := h) rfl ?_
  refine mX_ck (k' := 2) (ls' := [some (.ref a0), some (.int a1), some (.int a2), some (.int a3), none]) (st' := [.int (nI (ln h a0))]) (h' := h) rfl ?_
  refine mX_to 2 (k' := 4) (ls' := [some (.ref a0), some (.int a1), some (.int a2), some (.int a3), none]) (st' := [.int a2, .int a1, .int (nI (ln h a0))]) (h' := h) rfl ?_
  refine mX_cV (o := mE mtab d 230 [.int (nI (ln h a0)), .int a1, .int a2] h) (k' := 5) (ls' := [some (.ref a0), some (.int a1), some (.int a2), some (.int a3), none]) (st' := []) rfl ?_
  intro h1
  refine mX_to 2 (k' := 7) (ls' := [some (.ref a0), some (.int a1), some (.int a2), some (.int a3), some (.int a1)]) (st' := []) (h' := h1) rfl ?_
  rfl
theorem D_X9_standing_4 (d : Nat) (h : MH) (l0 : Nat) (l1 : Int32) (l2 : Int32) : mX (mE mtab d) KX9_standing 4 [some (.ref l0), some (.int l1), some (.int l2)] [] h = ck (kd h l0 = 10) ((if l2 < (gI h l0 0) then ck (kd h l0 = 10) (ck ((kd h (gR h l0 2) = 20 ∨ kd h (gR h l0 2) = 24) ∧ ib l2 (ln h (gR h l0 2))) (ck ((kd h 2 = 20 ∨ kd h 2 = 24) ∧ ib l2 (ln h 2)) (lt_ (l1 + ((gI h (gR h l0 2) (ix l2)) * (gI h 2 (ix l2)))) fun v1 => mX (mE mtab d) KX9_standing 4 [some (.ref l0), some (.int v1), some (.int (l2 + 1))] [] h))) else some (.int l1, h))) := by
  refine mX_to 2 (k' := 6) (ls' := [some (.ref l0), some (.int l1), some (.int l2)]) (st' := [.ref l0, .int l2]) (h' := h) rfl ?_
  refine mX_ck (k' := 7) (ls' := [some (.ref l0), some (.int l1), some (.int l2)]) (st' := [.int (gI h l0 0), .int l2]) (h' := h) rfl ?_
  refine mX_br (t := 8) (f := 21) (ls' := [some (.ref l0), some (.int l1), some (.int l2)]) (st' := []) (h' := h) rfl ?_ ?_
  · refine mX_to 2 (k' := 10) (ls' := [some (.ref l0), some (.int l1), some (.int l2)]) (st' := [.ref l0, .int l1]) (h' := h) rfl ?_
    refine mX_ck (k' := 11) (ls' := [some (.ref l0), some (.int l1), some (.int l2)]) (st' := [.ref (gR h l0 2), .int l1]) (h' := h) rfl ?_
    refine mX_to 1 (k' := 12) (ls' := [some (.ref l0), some (.int l1), some (.int l2)]) (st' := [.int l2, .ref (gR h l0 2), .int l1]) (h' := h) rfl ?_
    refine mX_ck (k' := 13) (ls' := [some (.ref l0), some (.int l1), some (.int l2)]) (st' := [.int (gI h (gR h l0 2) (ix l2)), .int l1]) (h' := h) rfl ?_
    refine mX_to 2 (k' := 15) (ls' := [some (.ref l0), some (.int l1), some (.int l2)]) (st' := [.int l2, .ref 2, .int (gI h (gR h l0 2) (ix l2)), .int l1]) (h' := h) rfl ?_
    refine mX_ck (k' := 16) (ls' := [some (.ref l0), some (.int l1), some (.int l2)]) (st' := [.int (gI h 2 (ix l2)), .int (gI h (gR h l0 2) (ix l2)), .int l1]) (h' := h) rfl ?_
    refine mX_to 2 (k' := 18) (ls' := [some (.ref l0), some (.int l1), some (.int l2)]) (st' := [.int (l1 + ((gI h (gR h l0 2) (ix l2)) * (gI h 2 (ix l2))))]) (h' := h) rfl ?_
    refine lt_gen (X := fun v1 : Int32 => mX (mE mtab d) KX9_standing 18 [some (.ref l0), some (.int l1), some (.int l2)] [.int v1] h) fun v1 => ?_
    refine mX_to 3 (k' := 4) (ls' := [some (.ref l0), some (.int v1), some (.int (l2 + 1))]) (st' := []) (h' := h) rfl ?_
    rfl
  · refine mX_to 1 (k' := 22) (ls' := [some (.ref l0), some (.int l1), some (.int l2)]) (st' := [.int l1]) (h' := h) rfl ?_
    exact mX_reti rfl
theorem D_X9_standing (d : Nat) (h : MH) (a0 : Nat) : mE mtab (d + 1) 232 [.ref a0] h = mX (mE mtab d) KX9_standing 4 [some (.ref a0), some (.int 0), some (.int 0)] [] h := by
  refine mE_eq (q := (yX9_standing, cX9_standing, 3, (some .int), KX9_standing)) (C := KX9_standing) (ls := [some (.ref a0), none, none]) rfl rfl rfl rfl ?_
  refine mX_to 4 (k' := 4) (ls' := [some (.ref a0), some (.int 0), some (.int 0)]) (st' := []) (h' := h) rfl ?_
  rfl
theorem D_X9_allHome_2 (d : Nat) (h : MH) (l0 : Nat) (l1 : Int32) : mX (mE mtab d) KX9_allHome 2 [some (.ref l0), some (.int l1)] [] h = ck (kd h l0 = 10) ((if l1 < (gI h l0 0) then ck (kd h l0 = 10) (ck ((kd h (gR h l0 3) = 20 ∨ kd h (gR h l0 3) = 24) ∧ ib l1 (ln h (gR h l0 3))) ((if (gI h (gR h l0 3) (ix l1)) = (-1) then mX (mE mtab d) KX9_allHome 23 [some (.ref l0), some (.int l1)] [] h else ck (kd h l0 = 10) (ck ((kd h (gR h l0 3) = 20 ∨ kd h (gR h l0 3) = 24) ∧ ib l1 (ln h (gR h l0 3))) (ck (kd h l0 = 10) (ck ((kd h (gR h l0 2) = 20 ∨ kd h (gR h l0 2) = 24) ∧ ib l1 (ln h (gR h l0 2))) ((if (gI h (gR h l0 3) (ix l1)) = (gI h (gR h l0 2) (ix l1)) then mX (mE mtab d) KX9_allHome 23 [some (.ref l0), some (.int l1)] [] h else some (.int 0, h))))))))) else some (.int 1, h))) := by
  refine mX_to 2 (k' := 4) (ls' := [some (.ref l0), some (.int l1)]) (st' := [.ref l0, .int l1]) (h' := h) rfl ?_
  refine mX_ck (k' := 5) (ls' := [some (.ref l0), some (.int l1)]) (st' := [.int (gI h l0 0), .int l1]) (h' := h) rfl ?_
  refine mX_br (t := 6) (f := 25) (ls' := [some (.ref l0), some (.int l1)]) (st' := []) (h' := h) rfl ?_ ?_
  · refine mX_to 1 (k' := 7) (ls' := [some (.ref l0), some (.int l1)]) (st' := [.ref l0]) (h' := h) rfl ?_
    refine mX_ck (k' := 8) (ls' := [some (.ref l0), some (.int l1)]) (st' := [.ref (gR h l0 3)]) (h' := h) rfl ?_
    refine mX_to 1 (k' := 9) (ls' := [some (.ref l0), some (.int l1)]) (st' := [.int l1, .ref (gR h l0 3)]) (h' := h) rfl ?_
    refine mX_ck (k' := 10) (ls' := [some (.ref l0), some (.int l1)]) (st' := [.int (gI h (gR h l0 3) (ix l1))]) (h' := h) rfl ?_
    refine mX_to 1 (k' := 11) (ls' := [some (.ref l0), some (.int l1)]) (st' := [.int (-1), .int (gI h (gR h l0 3) (ix l1))]) (h' := h) rfl ?_
    refine mX_br (t := 23) (f := 12) (ls' := [some (.ref l0), some (.int l1)]) (st' := []) (h' := h) rfl ?_ ?_
    · rfl
    · refine mX_to 1 (k' := 13) (ls' := [some (.ref l0), some (.int l1)]) (st' := [.ref l0]) (h' := h) rfl ?_
      refine mX_ck (k' := 14) (ls' := [some (.ref l0), some (.int l1)]) (st' := [.ref (gR h l0 3)]) (h' := h) rfl ?_
      refine mX_to 1 (k' := 15) (ls' := [some (.ref l0), some (.int l1)]) (st' := [.int l1, .ref (gR h l0 3)]) (h' := h) rfl ?_
      refine mX_ck (k' := 16) (ls' := [some (.ref l0), some (.int l1)]) (st' := [.int (gI h (gR h l0 3) (ix l1))]) (h' := h) rfl ?_
      refine mX_to 1 (k' := 17) (ls' := [some (.ref l0), some (.int l1)]) (st' := [.ref l0, .int (gI h (gR h l0 3) (ix l1))]) (h' := h) rfl ?_
      refine mX_ck (k' := 18) (ls' := [some (.ref l0), some (.int l1)]) (st' := [.ref (gR h l0 2), .int (gI h (gR h l0 3) (ix l1))]) (h' := h) rfl ?_
      refine mX_to 1 (k' := 19) (ls' := [some (.ref l0), some (.int l1)]) (st' := [.int l1, .ref (gR h l0 2), .int (gI h (gR h l0 3) (ix l1))]) (h' := h) rfl ?_
      refine mX_ck (k' := 20) (ls' := [some (.ref l0), some (.int l1)]) (st' := [.int (gI h (gR h l0 2) (ix l1)), .int (gI h (gR h l0 3) (ix l1))]) (h' := h) rfl ?_
      refine mX_br (t := 23) (f := 21) (ls' := [some (.ref l0), some (.int l1)]) (st' := []) (h' := h) rfl ?_ ?_
      · rfl
      · refine mX_to 1 (k' := 22) (ls' := [some (.ref l0), some (.int l1)]) (st' := [.int 0]) (h' := h) rfl ?_
        exact mX_retb (by decide) rfl
  · refine mX_to 1 (k' := 26) (ls' := [some (.ref l0), some (.int l1)]) (st' := [.int 1]) (h' := h) rfl ?_
    exact mX_retb (by decide) rfl
theorem D_X9_allHome_23 (d : Nat) (h : MH) (l0 : Nat) (l1 : Int32) : mX (mE mtab d) KX9_allHome 23 [some (.ref l0), some (.int l1)] [] h = mX (mE mtab d) KX9_allHome 2 [some (.ref l0), some (.int (l1 + 1))] [] h := by
  refine mX_to 2 (k' := 2) (ls' := [some (.ref l0), some (.int (l1 + 1))]) (st' := []) (h' := h) rfl ?_
  rfl
theorem D_X9_allHome (d : Nat) (h : MH) (a0 : Nat) : mE mtab (d + 1) 233 [.ref a0] h = mX (mE mtab d) KX9_allHome 2 [some (.ref a0), some (.int 0)] [] h := by
  refine mE_eq (q := (yX9_allHome, cX9_allHome, 2, (some .boolean), KX9_allHome)) (C := KX9_allHome) (ls := [some (.ref a0), none]) rfl rfl rfl rfl ?_
  refine mX_to 2 (k' := 2) (ls' := [some (.ref a0), some (.int 0)]) (st' := []) (h' := h) rfl ?_
  rfl
